section
-- ===== PART A: goes FIRST, ahead of the names: the tables' words, and 'selects' of the private methods out of them =====
/-- a private method of a class that the tables say can be made, by its rows of tables_1 -/
def lw_okq (q : MethodName × Nat) : Prop := (q.1.cls ≠ "java/lang/invoke/MethodHandle" ∧ q.1.cls ≠ "java/lang/invoke/VarHandle") ∧ Cond.instantiable q.1.cls q.2 ∈ tables_1 ∧ Cond.privateMethod q.1 ∈ tables_1 ∧ Cond.instanceMethod q.1 ∈ tables_1
theorem lw_p0 : lw_okq (⟨"SpiteLine$Reader", "skipBlanks", "(LSpiteLine$Text;)V"⟩, 6) := ⟨⟨by decide +kernel, by decide +kernel⟩, List.mem_of_getElem? (i := 39) (by decide +kernel), List.mem_of_getElem? (i := 308) (by decide +kernel), List.mem_of_getElem? (i := 309) (by decide +kernel)⟩
theorem lw_p1 : lw_okq (⟨"SpiteLine$Reader", "readClause", "(LSpiteLine$Text;)V"⟩, 6) := ⟨⟨by decide +kernel, by decide +kernel⟩, List.mem_of_getElem? (i := 39) (by decide +kernel), List.mem_of_getElem? (i := 316) (by decide +kernel), List.mem_of_getElem? (i := 317) (by decide +kernel)⟩
theorem lw_p2 : lw_okq (⟨"SpiteLine$Reader", "blame", "(II)V"⟩, 6) := ⟨⟨by decide +kernel, by decide +kernel⟩, List.mem_of_getElem? (i := 39) (by decide +kernel), List.mem_of_getElem? (i := 324) (by decide +kernel), List.mem_of_getElem? (i := 325) (by decide +kernel)⟩
theorem lw_p3 : lw_okq (⟨"SpiteLine$Reader", "readStations", "(LSpiteLine$Text;)V"⟩, 6) := ⟨⟨by decide +kernel, by decide +kernel⟩, List.mem_of_getElem? (i := 39) (by decide +kernel), List.mem_of_getElem? (i := 328) (by decide +kernel), List.mem_of_getElem? (i := 329) (by decide +kernel)⟩
theorem lw_p4 : lw_okq (⟨"SpiteLine$Reader", "readNumber", "(LSpiteLine$Text;II)I"⟩, 6) := ⟨⟨by decide +kernel, by decide +kernel⟩, List.mem_of_getElem? (i := 39) (by decide +kernel), List.mem_of_getElem? (i := 332) (by decide +kernel), List.mem_of_getElem? (i := 333) (by decide +kernel)⟩
theorem lw_p5 : lw_okq (⟨"SpiteLine$Reader", "readEnd", "(LSpiteLine$Text;)V"⟩, 6) := ⟨⟨by decide +kernel, by decide +kernel⟩, List.mem_of_getElem? (i := 39) (by decide +kernel), List.mem_of_getElem? (i := 339) (by decide +kernel), List.mem_of_getElem? (i := 340) (by decide +kernel)⟩
theorem lw_p6 : lw_okq (⟨"SpiteLine$Reader", "readPerson", "(LSpiteLine$Text;)V"⟩, 6) := ⟨⟨by decide +kernel, by decide +kernel⟩, List.mem_of_getElem? (i := 39) (by decide +kernel), List.mem_of_getElem? (i := 343) (by decide +kernel), List.mem_of_getElem? (i := 344) (by decide +kernel)⟩
theorem lw_p7 : lw_okq (⟨"SpiteLine", "trainsRefused", "(I)I"⟩, 12) := ⟨⟨by decide +kernel, by decide +kernel⟩, List.mem_of_getElem? (i := 15) (by decide +kernel), List.mem_of_getElem? (i := 459) (by decide +kernel), List.mem_of_getElem? (i := 460) (by decide +kernel)⟩
theorem lw_p8 : lw_okq (⟨"SpiteLine$Scene", "letOut", "(LSpiteLine$Line;[II)V"⟩, 7) := ⟨⟨by decide +kernel, by decide +kernel⟩, List.mem_of_getElem? (i := 82) (by decide +kernel), List.mem_of_getElem? (i := 476) (by decide +kernel), List.mem_of_getElem? (i := 477) (by decide +kernel)⟩
theorem lw_p9 : lw_okq (⟨"SpiteLine$Scene", "takeIn", "(LSpiteLine$Line;I)V"⟩, 7) := ⟨⟨by decide +kernel, by decide +kernel⟩, List.mem_of_getElem? (i := 82) (by decide +kernel), List.mem_of_getElem? (i := 481) (by decide +kernel), List.mem_of_getElem? (i := 482) (by decide +kernel)⟩
theorem lw_p10 : lw_okq (⟨"SpiteLine$Scene", "emptyAtLast", "(LSpiteLine$Line;)V"⟩, 7) := ⟨⟨by decide +kernel, by decide +kernel⟩, List.mem_of_getElem? (i := 82) (by decide +kernel), List.mem_of_getElem? (i := 485) (by decide +kernel), List.mem_of_getElem? (i := 486) (by decide +kernel)⟩
theorem lw_p11 : lw_okq (⟨"SpiteLine", "drawDay", "()V"⟩, 12) := ⟨⟨by decide +kernel, by decide +kernel⟩, List.mem_of_getElem? (i := 15) (by decide +kernel), List.mem_of_getElem? (i := 493) (by decide +kernel), List.mem_of_getElem? (i := 494) (by decide +kernel)⟩
theorem lw_p12 : lw_okq (⟨"SpiteLine", "arrivesThough", "(II)Z"⟩, 12) := ⟨⟨by decide +kernel, by decide +kernel⟩, List.mem_of_getElem? (i := 15) (by decide +kernel), List.mem_of_getElem? (i := 538) (by decide +kernel), List.mem_of_getElem? (i := 539) (by decide +kernel)⟩
theorem lw_p13 : lw_okq (⟨"SpiteLine", "endsAt", "(II)I"⟩, 12) := ⟨⟨by decide +kernel, by decide +kernel⟩, List.mem_of_getElem? (i := 15) (by decide +kernel), List.mem_of_getElem? (i := 546) (by decide +kernel), List.mem_of_getElem? (i := 547) (by decide +kernel)⟩
theorem lw_p14 : lw_okq (⟨"SpiteLine$Witness", "tryHopeful", "(LSpiteLine$Line;LSpiteLine$Scene;I)V"⟩, 5) := ⟨⟨by decide +kernel, by decide +kernel⟩, List.mem_of_getElem? (i := 170) (by decide +kernel), List.mem_of_getElem? (i := 576) (by decide +kernel), List.mem_of_getElem? (i := 577) (by decide +kernel)⟩
theorem lw_p15 : lw_okq (⟨"SpiteLine$Witness", "fits", "(I)Z"⟩, 5) := ⟨⟨by decide +kernel, by decide +kernel⟩, List.mem_of_getElem? (i := 170) (by decide +kernel), List.mem_of_getElem? (i := 581) (by decide +kernel), List.mem_of_getElem? (i := 582) (by decide +kernel)⟩
def lw_privs_1 : List (MethodName × Nat) := [(⟨"SpiteLine$Reader", "skipBlanks", "(LSpiteLine$Text;)V"⟩, 6), (⟨"SpiteLine$Reader", "readClause", "(LSpiteLine$Text;)V"⟩, 6), (⟨"SpiteLine$Reader", "blame", "(II)V"⟩, 6), (⟨"SpiteLine$Reader", "readStations", "(LSpiteLine$Text;)V"⟩, 6), (⟨"SpiteLine$Reader", "readNumber", "(LSpiteLine$Text;II)I"⟩, 6), (⟨"SpiteLine$Reader", "readEnd", "(LSpiteLine$Text;)V"⟩, 6), (⟨"SpiteLine$Reader", "readPerson", "(LSpiteLine$Text;)V"⟩, 6), (⟨"SpiteLine", "trainsRefused", "(I)I"⟩, 12), (⟨"SpiteLine$Scene", "letOut", "(LSpiteLine$Line;[II)V"⟩, 7), (⟨"SpiteLine$Scene", "takeIn", "(LSpiteLine$Line;I)V"⟩, 7), (⟨"SpiteLine$Scene", "emptyAtLast", "(LSpiteLine$Line;)V"⟩, 7), (⟨"SpiteLine", "drawDay", "()V"⟩, 12), (⟨"SpiteLine", "arrivesThough", "(II)Z"⟩, 12), (⟨"SpiteLine", "endsAt", "(II)I"⟩, 12), (⟨"SpiteLine$Witness", "tryHopeful", "(LSpiteLine$Line;LSpiteLine$Scene;I)V"⟩, 5), (⟨"SpiteLine$Witness", "fits", "(I)Z"⟩, 5)]
theorem lw_r1 : ∀ q ∈ lw_privs_1, lw_okq q := List.forall_mem_cons.mpr ⟨lw_p0, List.forall_mem_cons.mpr ⟨lw_p1, List.forall_mem_cons.mpr ⟨lw_p2, List.forall_mem_cons.mpr ⟨lw_p3, List.forall_mem_cons.mpr ⟨lw_p4, List.forall_mem_cons.mpr ⟨lw_p5, List.forall_mem_cons.mpr ⟨lw_p6, List.forall_mem_cons.mpr ⟨lw_p7, List.forall_mem_cons.mpr ⟨lw_p8, List.forall_mem_cons.mpr ⟨lw_p9, List.forall_mem_cons.mpr ⟨lw_p10, List.forall_mem_cons.mpr ⟨lw_p11, List.forall_mem_cons.mpr ⟨lw_p12, List.forall_mem_cons.mpr ⟨lw_p13, List.forall_mem_cons.mpr ⟨lw_p14, List.forall_mem_cons.mpr ⟨lw_p15, fun _ h => absurd h List.not_mem_nil⟩⟩⟩⟩⟩⟩⟩⟩⟩⟩⟩⟩⟩⟩⟩⟩
theorem lw_p16 : lw_okq (⟨"SpiteLineModel", "skip", "()V"⟩, 35) := ⟨⟨by decide +kernel, by decide +kernel⟩, List.mem_of_getElem? (i := 635) (by decide +kernel), List.mem_of_getElem? (i := 761) (by decide +kernel), List.mem_of_getElem? (i := 762) (by decide +kernel)⟩
theorem lw_p17 : lw_okq (⟨"SpiteLineModel", "here", "()I"⟩, 35) := ⟨⟨by decide +kernel, by decide +kernel⟩, List.mem_of_getElem? (i := 635) (by decide +kernel), List.mem_of_getElem? (i := 765) (by decide +kernel), List.mem_of_getElem? (i := 766) (by decide +kernel)⟩
theorem lw_p18 : lw_okq (⟨"SpiteLineModel", "readsLine", "()Z"⟩, 35) := ⟨⟨by decide +kernel, by decide +kernel⟩, List.mem_of_getElem? (i := 635) (by decide +kernel), List.mem_of_getElem? (i := 769) (by decide +kernel), List.mem_of_getElem? (i := 770) (by decide +kernel)⟩
theorem lw_p19 : lw_okq (⟨"SpiteLineModel", "readsFirst", "()Z"⟩, 35) := ⟨⟨by decide +kernel, by decide +kernel⟩, List.mem_of_getElem? (i := 635) (by decide +kernel), List.mem_of_getElem? (i := 773) (by decide +kernel), List.mem_of_getElem? (i := 774) (by decide +kernel)⟩
theorem lw_p20 : lw_okq (⟨"SpiteLineModel", "sign", "(I)Z"⟩, 35) := ⟨⟨by decide +kernel, by decide +kernel⟩, List.mem_of_getElem? (i := 635) (by decide +kernel), List.mem_of_getElem? (i := 777) (by decide +kernel), List.mem_of_getElem? (i := 778) (by decide +kernel)⟩
theorem lw_p21 : lw_okq (⟨"SpiteLineModel", "fails", "(I)Z"⟩, 35) := ⟨⟨by decide +kernel, by decide +kernel⟩, List.mem_of_getElem? (i := 635) (by decide +kernel), List.mem_of_getElem? (i := 781) (by decide +kernel), List.mem_of_getElem? (i := 782) (by decide +kernel)⟩
theorem lw_p22 : lw_okq (⟨"SpiteLineModel", "number", "(II)Z"⟩, 35) := ⟨⟨by decide +kernel, by decide +kernel⟩, List.mem_of_getElem? (i := 635) (by decide +kernel), List.mem_of_getElem? (i := 785) (by decide +kernel), List.mem_of_getElem? (i := 786) (by decide +kernel)⟩
theorem lw_p23 : lw_okq (⟨"SpiteLineModel", "readsPerson", "()Z"⟩, 35) := ⟨⟨by decide +kernel, by decide +kernel⟩, List.mem_of_getElem? (i := 635) (by decide +kernel), List.mem_of_getElem? (i := 789) (by decide +kernel), List.mem_of_getElem? (i := 790) (by decide +kernel)⟩
theorem lw_p24 : lw_okq (⟨"SpiteLineModel", "readsMet", "(I)Z"⟩, 35) := ⟨⟨by decide +kernel, by decide +kernel⟩, List.mem_of_getElem? (i := 635) (by decide +kernel), List.mem_of_getElem? (i := 793) (by decide +kernel), List.mem_of_getElem? (i := 794) (by decide +kernel)⟩
theorem lw_p25 : lw_okq (⟨"SpiteLineModel", "awaitedSet", "()I"⟩, 35) := ⟨⟨by decide +kernel, by decide +kernel⟩, List.mem_of_getElem? (i := 635) (by decide +kernel), List.mem_of_getElem? (i := 805) (by decide +kernel), List.mem_of_getElem? (i := 806) (by decide +kernel)⟩
theorem lw_p26 : lw_okq (⟨"SpiteLineModel", "isAwaited", "(I)Z"⟩, 35) := ⟨⟨by decide +kernel, by decide +kernel⟩, List.mem_of_getElem? (i := 635) (by decide +kernel), List.mem_of_getElem? (i := 809) (by decide +kernel), List.mem_of_getElem? (i := 810) (by decide +kernel)⟩
theorem lw_p27 : lw_okq (⟨"SpiteLineModel", "shows", "(I)I"⟩, 35) := ⟨⟨by decide +kernel, by decide +kernel⟩, List.mem_of_getElem? (i := 635) (by decide +kernel), List.mem_of_getElem? (i := 813) (by decide +kernel), List.mem_of_getElem? (i := 814) (by decide +kernel)⟩
theorem lw_p28 : lw_okq (⟨"SpiteLineModel", "arrivedSet", "()I"⟩, 35) := ⟨⟨by decide +kernel, by decide +kernel⟩, List.mem_of_getElem? (i := 635) (by decide +kernel), List.mem_of_getElem? (i := 817) (by decide +kernel), List.mem_of_getElem? (i := 818) (by decide +kernel)⟩
theorem lw_p29 : lw_okq (⟨"SpiteLineModel", "isPerson", "(I)Z"⟩, 35) := ⟨⟨by decide +kernel, by decide +kernel⟩, List.mem_of_getElem? (i := 635) (by decide +kernel), List.mem_of_getElem? (i := 825) (by decide +kernel), List.mem_of_getElem? (i := 826) (by decide +kernel)⟩
theorem lw_p30 : lw_okq (⟨"SpiteLineModel", "isStation", "(I)Z"⟩, 35) := ⟨⟨by decide +kernel, by decide +kernel⟩, List.mem_of_getElem? (i := 635) (by decide +kernel), List.mem_of_getElem? (i := 834) (by decide +kernel), List.mem_of_getElem? (i := 835) (by decide +kernel)⟩
theorem lw_p31 : lw_okq (⟨"SpiteLineModel", "notes", "()V"⟩, 35) := ⟨⟨by decide +kernel, by decide +kernel⟩, List.mem_of_getElem? (i := 635) (by decide +kernel), List.mem_of_getElem? (i := 842) (by decide +kernel), List.mem_of_getElem? (i := 843) (by decide +kernel)⟩
def lw_privs_2 : List (MethodName × Nat) := [(⟨"SpiteLineModel", "skip", "()V"⟩, 35), (⟨"SpiteLineModel", "here", "()I"⟩, 35), (⟨"SpiteLineModel", "readsLine", "()Z"⟩, 35), (⟨"SpiteLineModel", "readsFirst", "()Z"⟩, 35), (⟨"SpiteLineModel", "sign", "(I)Z"⟩, 35), (⟨"SpiteLineModel", "fails", "(I)Z"⟩, 35), (⟨"SpiteLineModel", "number", "(II)Z"⟩, 35), (⟨"SpiteLineModel", "readsPerson", "()Z"⟩, 35), (⟨"SpiteLineModel", "readsMet", "(I)Z"⟩, 35), (⟨"SpiteLineModel", "awaitedSet", "()I"⟩, 35), (⟨"SpiteLineModel", "isAwaited", "(I)Z"⟩, 35), (⟨"SpiteLineModel", "shows", "(I)I"⟩, 35), (⟨"SpiteLineModel", "arrivedSet", "()I"⟩, 35), (⟨"SpiteLineModel", "isPerson", "(I)Z"⟩, 35), (⟨"SpiteLineModel", "isStation", "(I)Z"⟩, 35), (⟨"SpiteLineModel", "notes", "()V"⟩, 35)]
theorem lw_r2 : ∀ q ∈ lw_privs_2, lw_okq q := List.forall_mem_cons.mpr ⟨lw_p16, List.forall_mem_cons.mpr ⟨lw_p17, List.forall_mem_cons.mpr ⟨lw_p18, List.forall_mem_cons.mpr ⟨lw_p19, List.forall_mem_cons.mpr ⟨lw_p20, List.forall_mem_cons.mpr ⟨lw_p21, List.forall_mem_cons.mpr ⟨lw_p22, List.forall_mem_cons.mpr ⟨lw_p23, List.forall_mem_cons.mpr ⟨lw_p24, List.forall_mem_cons.mpr ⟨lw_p25, List.forall_mem_cons.mpr ⟨lw_p26, List.forall_mem_cons.mpr ⟨lw_p27, List.forall_mem_cons.mpr ⟨lw_p28, List.forall_mem_cons.mpr ⟨lw_p29, List.forall_mem_cons.mpr ⟨lw_p30, List.forall_mem_cons.mpr ⟨lw_p31, fun _ h => absurd h List.not_mem_nil⟩⟩⟩⟩⟩⟩⟩⟩⟩⟩⟩⟩⟩⟩⟩⟩
theorem lw_p32 : lw_okq (⟨"SpiteLineModel", "laysBy", "([II)V"⟩, 35) := ⟨⟨by decide +kernel, by decide +kernel⟩, List.mem_of_getElem? (i := 635) (by decide +kernel), List.mem_of_getElem? (i := 846) (by decide +kernel), List.mem_of_getElem? (i := 847) (by decide +kernel)⟩
theorem lw_p33 : lw_okq (⟨"SpiteLineModel", "run", "(I)V"⟩, 35) := ⟨⟨by decide +kernel, by decide +kernel⟩, List.mem_of_getElem? (i := 635) (by decide +kernel), List.mem_of_getElem? (i := 871) (by decide +kernel), List.mem_of_getElem? (i := 872) (by decide +kernel)⟩
theorem lw_p34 : lw_okq (⟨"SpiteLineModel", "getOut", "(IZ)V"⟩, 35) := ⟨⟨by decide +kernel, by decide +kernel⟩, List.mem_of_getElem? (i := 635) (by decide +kernel), List.mem_of_getElem? (i := 878) (by decide +kernel), List.mem_of_getElem? (i := 879) (by decide +kernel)⟩
theorem lw_p35 : lw_okq (⟨"SpiteLineModel", "drawn", "(I)I"⟩, 35) := ⟨⟨by decide +kernel, by decide +kernel⟩, List.mem_of_getElem? (i := 635) (by decide +kernel), List.mem_of_getElem? (i := 886) (by decide +kernel), List.mem_of_getElem? (i := 887) (by decide +kernel)⟩
theorem lw_p36 : lw_okq (⟨"SpiteLineModel", "read", "([II)V"⟩, 35) := ⟨⟨by decide +kernel, by decide +kernel⟩, List.mem_of_getElem? (i := 635) (by decide +kernel), List.mem_of_getElem? (i := 898) (by decide +kernel), List.mem_of_getElem? (i := 899) (by decide +kernel)⟩
theorem lw_p37 : lw_okq (⟨"SpiteLineModel", "nextStops", "()I"⟩, 35) := ⟨⟨by decide +kernel, by decide +kernel⟩, List.mem_of_getElem? (i := 635) (by decide +kernel), List.mem_of_getElem? (i := 906) (by decide +kernel), List.mem_of_getElem? (i := 907) (by decide +kernel)⟩
theorem lw_p38 : lw_okq (⟨"SpiteLineModel", "begin", "()V"⟩, 35) := ⟨⟨by decide +kernel, by decide +kernel⟩, List.mem_of_getElem? (i := 635) (by decide +kernel), List.mem_of_getElem? (i := 910) (by decide +kernel), List.mem_of_getElem? (i := 911) (by decide +kernel)⟩
theorem lw_p39 : lw_okq (⟨"SpiteLineModel", "back", "()V"⟩, 35) := ⟨⟨by decide +kernel, by decide +kernel⟩, List.mem_of_getElem? (i := 635) (by decide +kernel), List.mem_of_getElem? (i := 914) (by decide +kernel), List.mem_of_getElem? (i := 915) (by decide +kernel)⟩
theorem lw_p40 : lw_okq (⟨"SpiteLineModel", "setHopes", "()V"⟩, 35) := ⟨⟨by decide +kernel, by decide +kernel⟩, List.mem_of_getElem? (i := 635) (by decide +kernel), List.mem_of_getElem? (i := 955) (by decide +kernel), List.mem_of_getElem? (i := 956) (by decide +kernel)⟩
theorem lw_p41 : lw_okq (⟨"SpiteLineModel", "goesSo", "(I)Z"⟩, 35) := ⟨⟨by decide +kernel, by decide +kernel⟩, List.mem_of_getElem? (i := 635) (by decide +kernel), List.mem_of_getElem? (i := 959) (by decide +kernel), List.mem_of_getElem? (i := 960) (by decide +kernel)⟩
def lw_privs_3 : List (MethodName × Nat) := [(⟨"SpiteLineModel", "laysBy", "([II)V"⟩, 35), (⟨"SpiteLineModel", "run", "(I)V"⟩, 35), (⟨"SpiteLineModel", "getOut", "(IZ)V"⟩, 35), (⟨"SpiteLineModel", "drawn", "(I)I"⟩, 35), (⟨"SpiteLineModel", "read", "([II)V"⟩, 35), (⟨"SpiteLineModel", "nextStops", "()I"⟩, 35), (⟨"SpiteLineModel", "begin", "()V"⟩, 35), (⟨"SpiteLineModel", "back", "()V"⟩, 35), (⟨"SpiteLineModel", "setHopes", "()V"⟩, 35), (⟨"SpiteLineModel", "goesSo", "(I)Z"⟩, 35)]
theorem lw_r3 : ∀ q ∈ lw_privs_3, lw_okq q := List.forall_mem_cons.mpr ⟨lw_p32, List.forall_mem_cons.mpr ⟨lw_p33, List.forall_mem_cons.mpr ⟨lw_p34, List.forall_mem_cons.mpr ⟨lw_p35, List.forall_mem_cons.mpr ⟨lw_p36, List.forall_mem_cons.mpr ⟨lw_p37, List.forall_mem_cons.mpr ⟨lw_p38, List.forall_mem_cons.mpr ⟨lw_p39, List.forall_mem_cons.mpr ⟨lw_p40, List.forall_mem_cons.mpr ⟨lw_p41, fun _ h => absurd h List.not_mem_nil⟩⟩⟩⟩⟩⟩⟩⟩⟩⟩
def lw_privs : List (MethodName × Nat) := lw_privs_1 ++ (lw_privs_2 ++ (lw_privs_3))
def lw_tbl : List Cond := k2_sels lw_privs ++ tables_1
theorem lw_privs_ok : ∀ q ∈ lw_privs, lw_okq q := by
  show ∀ q ∈ lw_privs_1 ++ (lw_privs_2 ++ (lw_privs_3)), lw_okq q
  exact List.forall_mem_append.mpr ⟨lw_r1, List.forall_mem_append.mpr ⟨lw_r2, lw_r3⟩⟩
/-! the classes: names, fields, types (out of the claim's printed names) -/
def RX0 : String := "SpiteLine$Book"
def TX0 : u_T := fun k => match k with
  | 0 => ("SpiteLine$Book", "who", "[I", true)
  | 1 => ("SpiteLine$Book", "stands", "[I", true)
  | _ => ("SpiteLine$Book", "count", "I", false)
def tyX0 : Nat → FieldType := fun k => match k with
  | 0 => .array .int
  | 1 => .array .int
  | _ => .int
abbrev wsX00 : List Cond := u_ws RX0 TX0 3
theorem nmX0 : ∀ a, a < 3 → ∀ b, b < 3 → a ≠ b → (TX0 a).2.1 ≠ (TX0 b).2.1 := by decide +kernel
theorem tyX0_ok : ∀ k, k < 3 → parseFieldDescriptor (TX0 k).2.2.1 = some (tyX0 k) := by decide +kernel
def RX1 : String := "SpiteLine$Deeds"
def TX1 : u_T := fun k => match k with
  | 0 => ("SpiteLine$Deeds", "scenes", "[LSpiteLine$Scene;", true)
  | 1 => ("SpiteLine$Deeds", "first", "I", false)
  | _ => ("SpiteLine$Deeds", "count", "I", false)
def tyX1 : Nat → FieldType := fun k => match k with
  | 0 => .array (.object "SpiteLine$Scene")
  | 1 => .int
  | _ => .int
abbrev wsX10 : List Cond := u_ws RX1 TX1 3
theorem nmX1 : ∀ a, a < 3 → ∀ b, b < 3 → a ≠ b → (TX1 a).2.1 ≠ (TX1 b).2.1 := by decide +kernel
theorem tyX1_ok : ∀ k, k < 3 → parseFieldDescriptor (TX1 k).2.2.1 = some (tyX1 k) := by decide +kernel
def RX2 : String := "SpiteLine$Draws"
def TX2 : u_T := fun k => match k with
  | _ => ("SpiteLine$Draws", "state", "I", false)
def tyX2 : Nat → FieldType := fun k => match k with
  | _ => .int
abbrev wsX20 : List Cond := u_ws RX2 TX2 1
theorem nmX2 : ∀ a, a < 1 → ∀ b, b < 1 → a ≠ b → (TX2 a).2.1 ≠ (TX2 b).2.1 := by decide +kernel
theorem tyX2_ok : ∀ k, k < 1 → parseFieldDescriptor (TX2 k).2.2.1 = some (tyX2 k) := by decide +kernel
def RX3 : String := "SpiteLine$Image"
def TX3 : u_T := fun k => match k with
  | 0 => ("SpiteLine$Image", "scene", "LSpiteLine$Scene;", true)
  | 1 => ("SpiteLine$Image", "seedThen", "I", false)
  | _ => ("SpiteLine$Image", "kept", "Z", false)
def tyX3 : Nat → FieldType := fun k => match k with
  | 0 => .object "SpiteLine$Scene"
  | 1 => .int
  | _ => .boolean
abbrev wsX30 : List Cond := u_ws RX3 TX3 3
theorem nmX3 : ∀ a, a < 3 → ∀ b, b < 3 → a ≠ b → (TX3 a).2.1 ≠ (TX3 b).2.1 := by decide +kernel
theorem tyX3_ok : ∀ k, k < 3 → parseFieldDescriptor (TX3 k).2.2.1 = some (tyX3 k) := by decide +kernel
def RX4 : String := "SpiteLine$Line"
def TX4 : u_T := fun k => match k with
  | 0 => ("SpiteLine$Line", "stations", "I", false)
  | 1 => ("SpiteLine$Line", "limit", "I", false)
  | 2 => ("SpiteLine$Line", "persons", "I", false)
  | 3 => ("SpiteLine$Line", "wants", "[I", true)
  | _ => ("SpiteLine$Line", "met", "[I", true)
def tyX4 : Nat → FieldType := fun k => match k with
  | 0 => .int
  | 1 => .int
  | 2 => .int
  | 3 => .array .int
  | _ => .array .int
abbrev wsX40 : List Cond := u_ws RX4 TX4 5
theorem nmX4 : ∀ a, a < 5 → ∀ b, b < 5 → a ≠ b → (TX4 a).2.1 ≠ (TX4 b).2.1 := by decide +kernel
theorem tyX4_ok : ∀ k, k < 5 → parseFieldDescriptor (TX4 k).2.2.1 = some (tyX4 k) := by decide +kernel
def RX5 : String := "SpiteLine$Reader"
def TX5 : u_T := fun k => match k with
  | 0 => ("SpiteLine$Reader", "line", "LSpiteLine$Line;", true)
  | 1 => ("SpiteLine$Reader", "scene", "LSpiteLine$Scene;", true)
  | 2 => ("SpiteLine$Reader", "kind", "I", false)
  | 3 => ("SpiteLine$Reader", "place", "I", false)
  | 4 => ("SpiteLine$Reader", "at", "I", false)
  | _ => ("SpiteLine$Reader", "numberAt", "I", false)
def tyX5 : Nat → FieldType := fun k => match k with
  | 0 => .object "SpiteLine$Line"
  | 1 => .object "SpiteLine$Scene"
  | 2 => .int
  | 3 => .int
  | 4 => .int
  | _ => .int
abbrev wsX50 : List Cond := u_ws RX5 TX5 6
theorem nmX5 : ∀ a, a < 6 → ∀ b, b < 6 → a ≠ b → (TX5 a).2.1 ≠ (TX5 b).2.1 := by decide +kernel
theorem tyX5_ok : ∀ k, k < 6 → parseFieldDescriptor (TX5 k).2.2.1 = some (tyX5 k) := by decide +kernel
def RX6 : String := "SpiteLine$Scene"
def TX6 : u_T := fun k => match k with
  | 0 => ("SpiteLine$Scene", "where", "[I", true)
  | 1 => ("SpiteLine$Scene", "mien", "[I", true)
  | 2 => ("SpiteLine$Scene", "feet", "I", false)
  | 3 => ("SpiteLine$Scene", "flowers", "I", false)
  | 4 => ("SpiteLine$Scene", "fog", "I", false)
  | 5 => ("SpiteLine$Scene", "trains", "I", false)
  | _ => ("SpiteLine$Scene", "stopped", "I", false)
def tyX6 : Nat → FieldType := fun k => match k with
  | 0 => .array .int
  | 1 => .array .int
  | 2 => .int
  | 3 => .int
  | 4 => .int
  | 5 => .int
  | _ => .int
abbrev wsX60 : List Cond := u_ws RX6 TX6 7
theorem nmX6 : ∀ a, a < 7 → ∀ b, b < 7 → a ≠ b → (TX6 a).2.1 ≠ (TX6 b).2.1 := by decide +kernel
theorem tyX6_ok : ∀ k, k < 7 → parseFieldDescriptor (TX6 k).2.2.1 = some (tyX6 k) := by decide +kernel
def RX7 : String := "SpiteLine$Text"
def TX7 : u_T := fun k => match k with
  | 0 => ("SpiteLine$Text", "letters", "[I", true)
  | _ => ("SpiteLine$Text", "length", "I", false)
def tyX7 : Nat → FieldType := fun k => match k with
  | 0 => .array .int
  | _ => .int
abbrev wsX70 : List Cond := u_ws RX7 TX7 2
theorem nmX7 : ∀ a, a < 2 → ∀ b, b < 2 → a ≠ b → (TX7 a).2.1 ≠ (TX7 b).2.1 := by decide +kernel
theorem tyX7_ok : ∀ k, k < 2 → parseFieldDescriptor (TX7 k).2.2.1 = some (tyX7 k) := by decide +kernel
def RX8 : String := "SpiteLine$Witness"
def TX8 : u_T := fun k => match k with
  | 0 => ("SpiteLine$Witness", "stations", "[I", true)
  | 1 => ("SpiteLine$Witness", "halts", "[Z", true)
  | 2 => ("SpiteLine$Witness", "count", "I", false)
  | 3 => ("SpiteLine$Witness", "sets", "[I", true)
  | _ => ("SpiteLine$Witness", "found", "I", false)
def tyX8 : Nat → FieldType := fun k => match k with
  | 0 => .array .int
  | 1 => .array .boolean
  | 2 => .int
  | 3 => .array .int
  | _ => .int
abbrev wsX80 : List Cond := u_ws RX8 TX8 5
theorem nmX8 : ∀ a, a < 5 → ∀ b, b < 5 → a ≠ b → (TX8 a).2.1 ≠ (TX8 b).2.1 := by decide +kernel
theorem tyX8_ok : ∀ k, k < 5 → parseFieldDescriptor (TX8 k).2.2.1 = some (tyX8 k) := by decide +kernel
def RX9 : String := "SpiteLine"
def TX9 : u_T := fun k => match k with
  | 0 => ("SpiteLine", "text", "LSpiteLine$Text;", true)
  | 1 => ("SpiteLine", "reader", "LSpiteLine$Reader;", true)
  | 2 => ("SpiteLine", "line", "LSpiteLine$Line;", true)
  | 3 => ("SpiteLine", "now", "LSpiteLine$Scene;", true)
  | 4 => ("SpiteLine", "trial", "LSpiteLine$Scene;", true)
  | 5 => ("SpiteLine", "trialMet", "[I", true)
  | 6 => ("SpiteLine", "deeds", "LSpiteLine$Deeds;", true)
  | 7 => ("SpiteLine", "witness", "LSpiteLine$Witness;", true)
  | 8 => ("SpiteLine", "book", "LSpiteLine$Book;", true)
  | 9 => ("SpiteLine", "draws", "LSpiteLine$Draws;", true)
  | 10 => ("SpiteLine", "images", "[LSpiteLine$Image;", true)
  | _ => ("SpiteLine", "faultAt", "I", false)
def tyX9 : Nat → FieldType := fun k => match k with
  | 0 => .object "SpiteLine$Text"
  | 1 => .object "SpiteLine$Reader"
  | 2 => .object "SpiteLine$Line"
  | 3 => .object "SpiteLine$Scene"
  | 4 => .object "SpiteLine$Scene"
  | 5 => .array .int
  | 6 => .object "SpiteLine$Deeds"
  | 7 => .object "SpiteLine$Witness"
  | 8 => .object "SpiteLine$Book"
  | 9 => .object "SpiteLine$Draws"
  | 10 => .array (.object "SpiteLine$Image")
  | _ => .int
abbrev wsX90 : List Cond := u_ws RX9 TX9 12
theorem nmX9 : ∀ a, a < 12 → ∀ b, b < 12 → a ≠ b → (TX9 a).2.1 ≠ (TX9 b).2.1 := by decide +kernel
theorem tyX9_ok : ∀ k, k < 12 → parseFieldDescriptor (TX9 k).2.2.1 = some (tyX9 k) := by decide +kernel
def RX10 : String := "SpiteLineModel"
def TX10 : u_T := fun k => match k with
  | 0 => ("SpiteLineModel", "text", "[I", true)
  | 1 => ("SpiteLineModel", "fed", "I", false)
  | 2 => ("SpiteLineModel", "faultAt", "I", false)
  | 3 => ("SpiteLineModel", "readAt", "I", false)
  | 4 => ("SpiteLineModel", "readFault", "I", false)
  | 5 => ("SpiteLineModel", "readNumber", "I", false)
  | 6 => ("SpiteLineModel", "readMany", "I", false)
  | 7 => ("SpiteLineModel", "readLine", "[I", true)
  | 8 => ("SpiteLineModel", "readPersons", "[I", true)
  | 9 => ("SpiteLineModel", "stations", "I", false)
  | 10 => ("SpiteLineModel", "limit", "I", false)
  | 11 => ("SpiteLineModel", "fog", "I", false)
  | 12 => ("SpiteLineModel", "many", "I", false)
  | 13 => ("SpiteLineModel", "trains", "I", false)
  | 14 => ("SpiteLineModel", "stopped", "I", false)
  | 15 => ("SpiteLineModel", "at", "[I", true)
  | 16 => ("SpiteLineModel", "wants", "[I", true)
  | 17 => ("SpiteLineModel", "met", "[I", true)
  | 18 => ("SpiteLineModel", "miens", "[I", true)
  | 19 => ("SpiteLineModel", "feets", "[I", true)
  | 20 => ("SpiteLineModel", "flowerOf", "[I", true)
  | 21 => ("SpiteLineModel", "deeds", "[I", true)
  | 22 => ("SpiteLineModel", "deedMany", "I", false)
  | 23 => ("SpiteLineModel", "aside", "[I", true)
  | 24 => ("SpiteLineModel", "seed", "J", false)
  | 25 => ("SpiteLineModel", "runAt", "[I", true)
  | 26 => ("SpiteLineModel", "runStops", "[I", true)
  | 27 => ("SpiteLineModel", "runMany", "I", false)
  | 28 => ("SpiteLineModel", "sets", "[I", true)
  | 29 => ("SpiteLineModel", "setMany", "I", false)
  | 30 => ("SpiteLineModel", "entries", "[I", true)
  | 31 => ("SpiteLineModel", "entryMany", "I", false)
  | 32 => ("SpiteLineModel", "images", "[I", true)
  | 33 => ("SpiteLineModel", "seeds", "[J", true)
  | _ => ("SpiteLineModel", "isKept", "[I", true)
def tyX10 : Nat → FieldType := fun k => match k with
  | 0 => .array .int
  | 1 => .int
  | 2 => .int
  | 3 => .int
  | 4 => .int
  | 5 => .int
  | 6 => .int
  | 7 => .array .int
  | 8 => .array .int
  | 9 => .int
  | 10 => .int
  | 11 => .int
  | 12 => .int
  | 13 => .int
  | 14 => .int
  | 15 => .array .int
  | 16 => .array .int
  | 17 => .array .int
  | 18 => .array .int
  | 19 => .array .int
  | 20 => .array .int
  | 21 => .array .int
  | 22 => .int
  | 23 => .array .int
  | 24 => .long
  | 25 => .array .int
  | 26 => .array .int
  | 27 => .int
  | 28 => .array .int
  | 29 => .int
  | 30 => .array .int
  | 31 => .int
  | 32 => .array .int
  | 33 => .array .long
  | _ => .array .int
abbrev wsX100 : List Cond := u_ws RX10 TX10 35
theorem nmX10 : ∀ a, a < 35 → ∀ b, b < 35 → a ≠ b → (TX10 a).2.1 ≠ (TX10 b).2.1 := by decide +kernel
theorem tyX10_ok : ∀ k, k < 35 → parseFieldDescriptor (TX10 k).2.2.1 = some (tyX10 k) := by decide +kernel
def am_cl : List vw_C := [(RX0, TX0, 3), (RX1, TX1, 3), (RX2, TX2, 1), (RX3, TX3, 3), (RX4, TX4, 5), (RX5, TX5, 6), (RX6, TX6, 7), (RX7, TX7, 2), (RX8, TX8, 5), (RX9, TX9, 12), (RX10, TX10, 35)]
def am_own (o : Nat) : String := match o with
  | 0 => "SpiteLine$Book"
  | 1 => "SpiteLine$Deeds"
  | 2 => "SpiteLine$Draws"
  | 3 => "SpiteLine$Image"
  | 4 => "SpiteLine$Line"
  | 5 => "SpiteLine$Reader"
  | 6 => "SpiteLine$Scene"
  | 7 => "SpiteLine$Text"
  | 8 => "SpiteLine$Witness"
  | 9 => "SpiteLine"
  | 10 => "SpiteLineModel"
  | 11 => "SpiteLineLaw"
  | _ => "java/lang/Math"
def am_fty (ci : Nat) : Nat → FieldType := match ci with
  | 0 => tyX0
  | 1 => tyX1
  | 2 => tyX2
  | 3 => tyX3
  | 4 => tyX4
  | 5 => tyX5
  | 6 => tyX6
  | 7 => tyX7
  | 8 => tyX8
  | 9 => tyX9
  | 10 => tyX10
  | _ => fun _ => .int
def am_ft (ci : Nat) : u_T := match ci with
  | 0 => TX0
  | 1 => TX1
  | 2 => TX2
  | 3 => TX3
  | 4 => TX4
  | 5 => TX5
  | 6 => TX6
  | 7 => TX7
  | 8 => TX8
  | 9 => TX9
  | 10 => TX10
  | _ => fun _ => ("", "", "", false)
end
section
/-! AN ABSTRACT MACHINE: the instructions that occur here, over pure cells at numbered places. Place 0 is the law's script, place k + 1 the k-th cell made since the law began. -/
abbrev am_C : Type := (FieldType × vp_A) ⊕ (Nat × List Value)
/-- the cells, how many were made, how many slots they have -/
abbrev am_H : Type := (Nat → am_C) × Nat × Nat
/-- an instruction, its length, two numbers (what its link means, where it jumps to), a constant, a switch's places -/
abbrev am_I : Type := Instr × Nat × Nat × Nat × Value × List (Int32 × Nat)
/-- number of the instruction, locals (null: nothing known), stack -/
abbrev am_F : Type := Nat × List Value × List Value
/-- a method: name, bytes, locals, result, number of its class, its room in frames and in locals, its code and the bytes' places in rows of sixteen -/
abbrev am_M : Type := MethodName × ByteArray × Nat × Option FieldType × Nat × (Nat × Nat) × List (List am_I) × List (List Nat)
def am_nth {α : Type} (d : α) : List α → Nat → α
  | [], _ => d
  | x :: _, 0 => x
  | _ :: l, n + 1 => am_nth d l n
def am_at2 {α : Type} (d : α) (l : List (List α)) (j : Nat) : α := am_nth d (am_nth [] l (j / 16)) (j % 16)
def am_no : am_I := (.nop, 0, 0, 0, .null, [])
def am_ins (M : am_M) (j : Nat) : am_I := am_at2 am_no M.2.2.2.2.2.2.1 j
def am_pc (M : am_M) (j : Nat) : Nat := am_at2 0 M.2.2.2.2.2.2.2 j
def am_dead : am_C := .inr (1000, [])
def am_isL : Value → Bool
  | .long _ => true
  | .double _ => true
  | _ => false
def am_set (h : am_H) (a : Nat) (c : am_C) : am_H := (fun k => if k = a then c else h.1 k, h.2)
def am_push (h : am_H) (c : am_C) (w : Nat) : am_H := (fun k => if k = h.2.1 + 1 then c else h.1 k, h.2.1 + 1, h.2.2 + w)
/-- the stack's top -/
def am_i1 {α : Type} (st : List Value) (k : Int32 → List Value → Option α) : Option α := match st with
  | .int x :: r => k x r
  | _ => none
def am_i2 {α : Type} (st : List Value) (k : Int32 → Int32 → List Value → Option α) : Option α := match st with
  | .int y :: .int x :: r => k x y r
  | _ => none
def am_l1 {α : Type} (st : List Value) (k : Int64 → List Value → Option α) : Option α := match st with
  | .long x :: r => k x r
  | _ => none
def am_l2 {α : Type} (st : List Value) (k : Int64 → Int64 → List Value → Option α) : Option α := match st with
  | .long y :: .long x :: r => k x y r
  | _ => none
def am_r1 {α : Type} (st : List Value) (k : Nat → List Value → Option α) : Option α := match st with
  | .ref a :: r => k a r
  | _ => none
/-- cells by their kind -/
def am_obj {α : Type} (c : am_C) (ci : Nat) (k : List Value → Option α) : Option α := match c with
  | .inr (cj, fs) => if cj = ci then k fs else none
  | _ => none
def am_ari {α : Type} (c : am_C) (k : Nat → (Nat → Int32) → Option α) : Option α := match c with
  | .inl (.int, n, .inl f) => k n f
  | _ => none
def am_arz {α : Type} (c : am_C) (k : Nat → (Nat → Int32) → Option α) : Option α := match c with
  | .inl (.boolean, n, .inl f) => k n f
  | _ => none
def am_arl {α : Type} (c : am_C) (k : Nat → (Nat → Int64) → Option α) : Option α := match c with
  | .inl (.long, n, .inr (.inl f)) => k n f
  | _ => none
def am_arq {α : Type} (c : am_C) (k : String → Nat → (Nat → Option Nat) → Option α) : Option α := match c with
  | .inl (.object C, n, .inr (.inr (.inr (.inr f)))) => k C n f
  | _ => none
def am_oc {α : Type} (C : String) (k : Nat → Option α) : Option α := if C = "SpiteLine$Scene" then k 6 else if C = "SpiteLine$Image" then k 3 else none
def am_fit : FieldType → Value → Bool
  | .int, .int _ => true
  | .long, .long _ => true
  | .boolean, .int x => x == 0 || x == 1
  | .object _, .ref _ => true
  | .array _, .ref _ => true
  | _, _ => false
def am_store (j : Nat) (ls : List Value) (a : Nat) (v : Value) (r : List Value) (h : am_H) : Option (am_F × am_H) :=
  if am_isL (ls.getD (a - 1) .null) = false ∧ a < ls.length then some ((j + 1, ls.set a v, r), h) else none
def am_cmp (c : ClassFile.Cond) (x y : Int32) (t e : Nat) : Nat := match c with
  | .eq => if x = y then t else e
  | .ne => if x = y then e else t
  | .lt => if x < y then t else e
  | .ge => if y ≤ x then t else e
  | .gt => if y < x then t else e
  | .le => if x ≤ y then t else e
def am_sw (x : Int32) (d : Nat) : List (Int32 × Nat) → Nat
  | [] => d
  | (k, t) :: l => if x = k then t else am_sw x d l
/-- the fields of a new object -/
def am_dfl (ci : Nat) : List Value := (List.range ((am_cl.getD ci ("", (fun _ => ("", "", "", false)), 0)).2.2)).map (fun k => defaultValue (am_fty ci k))
def am_nat (t : ArrayType) : Option (FieldType × (Nat → vp_A)) := match t with
  | .int => some (.int, fun n => (n, .inl (fun _ => 0)))
  | .boolean => some (.boolean, fun n => (n, .inl (fun _ => 0)))
  | .long => some (.long, fun n => (n, .inr (.inl (fun _ => 0))))
  | _ => none
/-- an instruction that neither calls nor returns -/
def am_step (I : am_I) (j : Nat) (ls st : List Value) (h : am_H) : Option (am_F × am_H) := match I.1 with
  | .iload _ => (match ls.getD I.2.2.1 .null with | .int x => some ((j + 1, ls, .int x :: st), h) | _ => none)
  | .iload_n _ => (match ls.getD I.2.2.1 .null with | .int x => some ((j + 1, ls, .int x :: st), h) | _ => none)
  | .aload_n _ => (match ls.getD I.2.2.1 .null with | .ref x => some ((j + 1, ls, .ref x :: st), h) | _ => none)
  | .aload _ => (match ls.getD I.2.2.1 .null with | .ref x => some ((j + 1, ls, .ref x :: st), h) | _ => none)
  | .lload_n _ => (match ls.getD I.2.2.1 .null with | .long x => some ((j + 1, ls, .long x :: st), h) | _ => none)
  | .lload _ => (match ls.getD I.2.2.1 .null with | .long x => some ((j + 1, ls, .long x :: st), h) | _ => none)
  | .istore _ => am_i1 st fun x r => am_store j ls I.2.2.1 (.int x) r h
  | .istore_n _ => am_i1 st fun x r => am_store j ls I.2.2.1 (.int x) r h
  | .astore_n _ => am_r1 st fun x r => am_store j ls I.2.2.1 (.ref x) r h
  | .lstore_n _ => am_l1 st fun x r => if am_isL (ls.getD (I.2.2.1 - 1) .null) = false ∧ I.2.2.1 + 1 < ls.length then some ((j + 1, (ls.set I.2.2.1 (.long x)).set (I.2.2.1 + 1) .null, r), h) else none
  | .lstore _ => am_l1 st fun x r => if am_isL (ls.getD (I.2.2.1 - 1) .null) = false ∧ I.2.2.1 + 1 < ls.length then some ((j + 1, (ls.set I.2.2.1 (.long x)).set (I.2.2.1 + 1) .null, r), h) else none
  | .iinc _ _ => (match ls.getD I.2.2.1 .null, I.2.2.2.2.1 with | .int x, .int c => am_store j ls I.2.2.1 (.int (x + c)) st h | _, _ => none)
  | .iconst _ => some ((j + 1, ls, I.2.2.2.2.1 :: st), h)
  | .bipush _ => some ((j + 1, ls, I.2.2.2.2.1 :: st), h)
  | .sipush _ => some ((j + 1, ls, I.2.2.2.2.1 :: st), h)
  | .ldc _ => some ((j + 1, ls, I.2.2.2.2.1 :: st), h)
  | .ldc2_w _ => some ((j + 1, ls, I.2.2.2.2.1 :: st), h)
  | .iadd => am_i2 st fun x y r => some ((j + 1, ls, .int (x + y) :: r), h)
  | .isub => am_i2 st fun x y r => some ((j + 1, ls, .int (x - y) :: r), h)
  | .imul => am_i2 st fun x y r => some ((j + 1, ls, .int (x * y) :: r), h)
  | .iand => am_i2 st fun x y r => some ((j + 1, ls, .int (x &&& y) :: r), h)
  | .ior => am_i2 st fun x y r => some ((j + 1, ls, .int (x ||| y) :: r), h)
  | .ixor => am_i2 st fun x y r => some ((j + 1, ls, .int (x ^^^ y) :: r), h)
  | .ishl => am_i2 st fun x y r => some ((j + 1, ls, .int (x <<< (y &&& 31)) :: r), h)
  | .ishr => am_i2 st fun x y r => some ((j + 1, ls, .int (x >>> (y &&& 31)) :: r), h)
  | .idiv => am_i2 st fun x y r => if y = 0 then none else some ((j + 1, ls, .int (x / y) :: r), h)
  | .irem => am_i2 st fun x y r => if y = 0 then none else some ((j + 1, ls, .int (x - x / y * y) :: r), h)
  | .ineg => am_i1 st fun x r => some ((j + 1, ls, .int (-x) :: r), h)
  | .ladd => am_l2 st fun x y r => some ((j + 1, ls, .long (x + y) :: r), h)
  | .lmul => am_l2 st fun x y r => some ((j + 1, ls, .long (x * y) :: r), h)
  | .land => am_l2 st fun x y r => some ((j + 1, ls, .long (x &&& y) :: r), h)
  | .ldiv => am_l2 st fun x y r => if y = 0 then none else some ((j + 1, ls, .long (x / y) :: r), h)
  | .lrem => am_l2 st fun x y r => if y = 0 then none else some ((j + 1, ls, .long (x - x / y * y) :: r), h)
  | .i2l => am_i1 st fun x r => some ((j + 1, ls, .long x.toInt64 :: r), h)
  | .l2i => am_l1 st fun x r => some ((j + 1, ls, .int x.toInt32 :: r), h)
  | .dup => (match st with | v :: r => if am_isL v = false then some ((j + 1, ls, v :: v :: r), h) else none | _ => none)
  | .ifCond c _ => am_i1 st fun x r => some ((am_cmp c x 0 I.2.2.1 (j + 1), ls, r), h)
  | .if_icmp c _ => am_i2 st fun x y r => some ((am_cmp c x y I.2.2.1 (j + 1), ls, r), h)
  | .goto _ => some ((I.2.2.1, ls, st), h)
  | .tableswitch _ _ _ _ => am_i1 st fun x r => some ((am_sw x I.2.2.1 I.2.2.2.2.2, ls, r), h)
  | .lookupswitch _ _ => am_i1 st fun x r => some ((am_sw x I.2.2.1 I.2.2.2.2.2, ls, r), h)
  | .getfield _ => am_r1 st fun a r => am_obj (h.1 a) I.2.2.1 fun fs => (match fs[I.2.2.2.1]? with | some v => some ((j + 1, ls, v :: r), h) | none => none)
  | .putfield _ => (match st with | v :: .ref a :: r => am_obj (h.1 a) I.2.2.1 fun fs => if I.2.2.2.1 < fs.length ∧ am_fit (am_fty I.2.2.1 I.2.2.2.1) v = true then some ((j + 1, ls, r), am_set h a (.inr (I.2.2.1, fs.set I.2.2.2.1 v))) else none | _ => none)
  | .iaload => (match st with | .int i :: .ref a :: r => am_ari (h.1 a) fun n f => if i < 0 ∨ n ≤ i.toNatClampNeg then none else some ((j + 1, ls, .int (f i.toNatClampNeg) :: r), h) | _ => none)
  | .baload => (match st with | .int i :: .ref a :: r => am_arz (h.1 a) fun n f => if i < 0 ∨ n ≤ i.toNatClampNeg then none else some ((j + 1, ls, .int (f i.toNatClampNeg) :: r), h) | _ => none)
  | .laload => (match st with | .int i :: .ref a :: r => am_arl (h.1 a) fun n f => if i < 0 ∨ n ≤ i.toNatClampNeg then none else some ((j + 1, ls, .long (f i.toNatClampNeg) :: r), h) | _ => none)
  | .aaload => (match st with | .int i :: .ref a :: r => am_arq (h.1 a) fun C n f => am_oc C fun _ => if i < 0 ∨ n ≤ i.toNatClampNeg then none else (match f i.toNatClampNeg with | some y => some ((j + 1, ls, .ref y :: r), h) | none => none) | _ => none)
  | .iastore => (match st with | .int x :: .int i :: .ref a :: r => am_ari (h.1 a) fun n f => if a = 0 ∨ i < 0 ∨ n ≤ i.toNatClampNeg then none else some ((j + 1, ls, r), am_set h a (.inl (.int, n, .inl (upd f i.toNatClampNeg x)))) | _ => none)
  | .bastore => (match st with | .int x :: .int i :: .ref a :: r => am_arz (h.1 a) fun n f => if i < 0 ∨ n ≤ i.toNatClampNeg then none else some ((j + 1, ls, r), am_set h a (.inl (.boolean, n, .inl (upd f i.toNatClampNeg (x &&& 1))))) | _ => none)
  | .lastore => (match st with | .long x :: .int i :: .ref a :: r => am_arl (h.1 a) fun n f => if i < 0 ∨ n ≤ i.toNatClampNeg then none else some ((j + 1, ls, r), am_set h a (.inl (.long, n, .inr (.inl (vp_updL f i.toNatClampNeg x))))) | _ => none)
  | .aastore => (match st with | .ref v :: .int i :: .ref a :: r => am_arq (h.1 a) fun C n f => am_oc C fun ci => am_obj (h.1 v) ci fun _ => if i < 0 ∨ n ≤ i.toNatClampNeg then none else some ((j + 1, ls, r), am_set h a (.inl (.object C, n, .inr (.inr (.inr (.inr (va_up f i.toNatClampNeg (some v)))))))) | _ => none)
  | .arraylength => (match st with | .ref 0 :: r => am_ari (h.1 0) fun n _ => some ((j + 1, ls, .int (Int32.ofNat n) :: r), h) | _ => none)
  | .newarray t => am_i1 st fun n r => (match am_nat t with | some (ty, zf) => if n < 0 ∨ 100000 < n.toNatClampNeg then none else some ((j + 1, ls, .ref (h.2.1 + 1) :: r), am_push h (.inl (ty, zf n.toNatClampNeg)) n.toNatClampNeg) | none => none)
  | .anewarray _ => am_i1 st fun n r => if n < 0 ∨ 100000 < n.toNatClampNeg then none else some ((j + 1, ls, .ref (h.2.1 + 1) :: r), am_push h (.inl (.object (am_own I.2.2.1), n.toNatClampNeg, .inr (.inr (.inr (.inr (fun _ => none)))))) n.toNatClampNeg)
  | .new _ => some ((j + 1, ls, .ref (h.2.1 + 1) :: st), am_push h (.inr (I.2.2.1, am_dfl I.2.2.1)) (am_dfl I.2.2.1).length)
  | .invokespecial _ => (match st with | .ref _ :: r => if (r.map fun v => v.category).sum ≤ 8 then some ((j + 1, ls, r), h) else none | _ => none)
  | .invokestatic _ => if I.2.2.1 = 1001 then (match st with | .int n :: .int dp :: .ref a :: .int sp :: .ref a0 :: r => am_ari (h.1 a0) fun n0 f => am_ari (h.1 a) fun n1 g => if a0 = 0 ∨ a = 0 ∨ sp < 0 ∨ dp < 0 ∨ n < 0 ∨ n0 < sp.toNatClampNeg + n.toNatClampNeg ∨ n1 < dp.toNatClampNeg + n.toNatClampNeg ∨ 8 < (r.map fun v => v.category).sum then none else some ((j + 1, ls, r), am_set h a (.inl (.int, n1, .inl (va_cpy f g sp.toNatClampNeg dp.toNatClampNeg n.toNatClampNeg)))) | _ => none)
    else if I.2.2.1 = 1002 then am_i2 st (fun x y r => if 8 < (r.map fun v => v.category).sum then none else some ((j + 1, ls, .int (if x < y then y else x) :: r), h))
    else if I.2.2.1 = 1003 then am_i2 st (fun x y r => if 8 < (r.map fun v => v.category).sum then none else some ((j + 1, ls, .int (if y < x then y else x) :: r), h))
    else am_i1 st (fun x r => if 8 < (r.map fun v => v.category).sum then none else some ((j + 1, ls, .int (if 0 ≤ x then x else 0 - x) :: r), h))
  | _ => none
/-- 0: a step; 1: a call; 2: a return -/
def am_kind (I : am_I) : Nat := match I.1 with
  | .ireturn => 2
  | .return_ => 2
  | .invokevirtual _ => 1
  | .invokespecial _ => if I.2.2.1 = 1000 then 0 else 1
  | .invokestatic _ => if 1000 < I.2.2.1 then 0 else 1
  | _ => 0
def am_ret (I : am_I) (M : am_M) (st : List Value) : Option (Option Value) := match I.1 with
  | .ireturn => (match st with | [.int v] => (match M.2.2.2.1 with | some .boolean => if v = 0 ∨ v = 1 then some (some (.int v)) else none | some .int => some (some (.int v)) | _ => none) | _ => none)
  | .return_ => (match st with | [] => (match M.2.2.2.1 with | none => some none | _ => none) | _ => none)
  | _ => none
/-- a receiver of the callee's class -/
def am_rcv (I : am_I) (K : am_M) (As : List Value) (h : am_H) : Bool := match I.1 with
  | .invokevirtual _ => (match As with | .ref b :: _ => (match h.1 b with | .inr (ci, _) => ci == K.2.2.2.2.1 | _ => false) | _ => false)
  | .invokespecial _ => (match As with | .ref _ :: _ => true | _ => false)
  | _ => true
def am_entry (M : am_M) (As : List Value) : List Value := As ++ List.replicate (M.2.2.1 - As.length) .null
def am_callok (I : am_I) (K : am_M) (st : List Value) (h : am_H) : Bool :=
  am_rcv I K (st.take I.2.2.2.1).reverse h && (decide (((st.drop I.2.2.2.1).map fun v => v.category).sum ≤ 8) && ((st.take I.2.2.2.1).all (fun v => !am_isL v) && (decide (I.2.2.2.1 ≤ K.2.2.1) && decide ((st.take I.2.2.2.1).length = I.2.2.2.1))))
end
section
/-! the code of every method, instruction by instruction, with what its links mean -/
def K_Sp_init : List (List am_I) := [[(.aload_n 0, 1, 0, 0, .null, []), (.invokespecial 1, 3, 1000, 0, .null, []), (.aload_n 0, 1, 0, 0, .null, []), (.new 7, 3, 7, 0, .null, []), (.dup, 1, 0, 0, .null, []), (.invokespecial 9, 3, 1, 1, .null, []), (.putfield 10, 3, 9, 0, .null, []), (.aload_n 0, 1, 0, 0, .null, []), (.new 16, 3, 5, 0, .null, []), (.dup, 1, 0, 0, .null, []), (.invokespecial 18, 3, 2, 1, .null, []), (.putfield 19, 3, 9, 1, .null, []), (.aload_n 0, 1, 0, 0, .null, []), (.new 23, 3, 4, 0, .null, []), (.dup, 1, 0, 0, .null, []), (.invokespecial 25, 3, 3, 1, .null, [])],
  [(.putfield 26, 3, 9, 2, .null, []), (.aload_n 0, 1, 0, 0, .null, []), (.new 30, 3, 6, 0, .null, []), (.dup, 1, 0, 0, .null, []), (.invokespecial 32, 3, 4, 1, .null, []), (.putfield 33, 3, 9, 3, .null, []), (.aload_n 0, 1, 0, 0, .null, []), (.new 30, 3, 6, 0, .null, []), (.dup, 1, 0, 0, .null, []), (.invokespecial 32, 3, 4, 1, .null, []), (.putfield 37, 3, 9, 4, .null, []), (.aload_n 0, 1, 0, 0, .null, []), (.bipush 8, 2, 0, 0, .int 8, []), (.newarray .int, 2, 0, 0, .null, []), (.putfield 40, 3, 9, 5, .null, []), (.aload_n 0, 1, 0, 0, .null, [])],
  [(.new 44, 3, 1, 0, .null, []), (.dup, 1, 0, 0, .null, []), (.invokespecial 46, 3, 5, 1, .null, []), (.putfield 47, 3, 9, 6, .null, []), (.aload_n 0, 1, 0, 0, .null, []), (.new 51, 3, 8, 0, .null, []), (.dup, 1, 0, 0, .null, []), (.invokespecial 53, 3, 6, 1, .null, []), (.putfield 54, 3, 9, 7, .null, []), (.aload_n 0, 1, 0, 0, .null, []), (.new 58, 3, 0, 0, .null, []), (.dup, 1, 0, 0, .null, []), (.invokespecial 60, 3, 7, 1, .null, []), (.putfield 61, 3, 9, 8, .null, []), (.aload_n 0, 1, 0, 0, .null, []), (.new 65, 3, 2, 0, .null, [])],
  [(.dup, 1, 0, 0, .null, []), (.invokespecial 67, 3, 8, 1, .null, []), (.putfield 68, 3, 9, 9, .null, []), (.aload_n 0, 1, 0, 0, .null, []), (.iconst 2, 1, 0, 0, .int 2, []), (.anewarray 72, 3, 3, 0, .null, []), (.putfield 74, 3, 9, 10, .null, []), (.aload_n 0, 1, 0, 0, .null, []), (.iconst (-1), 1, 0, 0, .int (-1), []), (.putfield 78, 3, 9, 11, .null, []), (.iconst 0, 1, 0, 0, .int 0, []), (.istore_n 1, 1, 1, 0, .null, []), (.iload_n 1, 1, 1, 0, .null, []), (.iconst 2, 1, 0, 0, .int 2, []), (.if_icmp .ge 22, 3, 72, 0, .null, []), (.aload_n 0, 1, 0, 0, .null, [])],
  [(.getfield 74, 3, 9, 10, .null, []), (.iload_n 1, 1, 1, 0, .null, []), (.new 72, 3, 3, 0, .null, []), (.dup, 1, 0, 0, .null, []), (.invokespecial 82, 3, 9, 1, .null, []), (.aastore, 1, 0, 0, .null, []), (.iinc 1 1, 3, 1, 0, .int 1, []), (.goto (-21), 3, 60, 0, .null, []), (.return_, 1, 0, 0, .null, [])]]
def M_Sp_init : am_M := (⟨"SpiteLine", "<init>", "()V"⟩, prog_1_method_1_code, 2, none, 9, (3, 61), K_Sp_init, [[0, 1, 4, 5, 8, 9, 12, 15, 16, 19, 20, 23, 26, 27, 30, 31], [34, 37, 38, 41, 42, 45, 48, 49, 52, 53, 56, 59, 60, 62, 64, 67], [68, 71, 72, 75, 78, 79, 82, 83, 86, 89, 90, 93, 94, 97, 100, 101], [104, 105, 108, 111, 112, 113, 116, 119, 120, 121, 124, 125, 126, 127, 128, 131], [132, 135, 136, 139, 140, 143, 144, 147, 150]])
def K_Text_init : List (List am_I) := [[(.aload_n 0, 1, 0, 0, .null, []), (.invokespecial 3, 3, 1000, 0, .null, []), (.aload_n 0, 1, 0, 0, .null, []), (.sipush 200, 3, 0, 0, .int 200, []), (.newarray .int, 2, 0, 0, .null, []), (.putfield 9, 3, 7, 0, .null, []), (.aload_n 0, 1, 0, 0, .null, []), (.iconst 0, 1, 0, 0, .int 0, []), (.putfield 15, 3, 7, 1, .null, []), (.return_, 1, 0, 0, .null, [])]]
def M_Text_init : am_M := (⟨"SpiteLine$Text", "<init>", "()V"⟩, prog_9_method_1_code, 1, none, 7, (1, 20), K_Text_init, [[0, 1, 4, 5, 8, 10, 13, 14, 15, 18]])
def K_Reader_init : List (List am_I) := [[(.aload_n 0, 1, 0, 0, .null, []), (.invokespecial 3, 3, 1000, 0, .null, []), (.aload_n 0, 1, 0, 0, .null, []), (.new 9, 3, 4, 0, .null, []), (.dup, 1, 0, 0, .null, []), (.invokespecial 11, 3, 3, 1, .null, []), (.putfield 12, 3, 5, 0, .null, []), (.aload_n 0, 1, 0, 0, .null, []), (.new 18, 3, 6, 0, .null, []), (.dup, 1, 0, 0, .null, []), (.invokespecial 20, 3, 4, 1, .null, []), (.putfield 21, 3, 5, 1, .null, []), (.aload_n 0, 1, 0, 0, .null, []), (.iconst 0, 1, 0, 0, .int 0, []), (.putfield 25, 3, 5, 2, .null, []), (.aload_n 0, 1, 0, 0, .null, [])],
  [(.iconst (-1), 1, 0, 0, .int (-1), []), (.putfield 29, 3, 5, 3, .null, []), (.aload_n 0, 1, 0, 0, .null, []), (.iconst 0, 1, 0, 0, .int 0, []), (.putfield 32, 3, 5, 4, .null, []), (.aload_n 0, 1, 0, 0, .null, []), (.iconst 0, 1, 0, 0, .int 0, []), (.putfield 35, 3, 5, 5, .null, []), (.return_, 1, 0, 0, .null, [])]]
def M_Reader_init : am_M := (⟨"SpiteLine$Reader", "<init>", "()V"⟩, prog_7_method_1_code, 1, none, 5, (2, 40), K_Reader_init, [[0, 1, 4, 5, 8, 9, 12, 15, 16, 19, 20, 23, 26, 27, 28, 31], [32, 33, 36, 37, 38, 41, 42, 43, 46]])
def K_Line_init : List (List am_I) := [[(.aload_n 0, 1, 0, 0, .null, []), (.invokespecial 3, 3, 1000, 0, .null, []), (.aload_n 0, 1, 0, 0, .null, []), (.iconst 0, 1, 0, 0, .int 0, []), (.putfield 9, 3, 4, 0, .null, []), (.aload_n 0, 1, 0, 0, .null, []), (.iconst 0, 1, 0, 0, .int 0, []), (.putfield 15, 3, 4, 1, .null, []), (.aload_n 0, 1, 0, 0, .null, []), (.iconst 0, 1, 0, 0, .int 0, []), (.putfield 18, 3, 4, 2, .null, []), (.aload_n 0, 1, 0, 0, .null, []), (.bipush 8, 2, 0, 0, .int 8, []), (.newarray .int, 2, 0, 0, .null, []), (.putfield 21, 3, 4, 3, .null, []), (.aload_n 0, 1, 0, 0, .null, [])],
  [(.bipush 8, 2, 0, 0, .int 8, []), (.newarray .int, 2, 0, 0, .null, []), (.putfield 25, 3, 4, 4, .null, []), (.return_, 1, 0, 0, .null, [])]]
def M_Line_init : am_M := (⟨"SpiteLine$Line", "<init>", "()V"⟩, prog_6_method_1_code, 1, none, 4, (1, 20), K_Line_init, [[0, 1, 4, 5, 6, 9, 10, 11, 14, 15, 16, 19, 20, 22, 24, 27], [28, 30, 32, 35]])
def K_Scene_init : List (List am_I) := [[(.aload_n 0, 1, 0, 0, .null, []), (.invokespecial 3, 3, 1000, 0, .null, []), (.aload_n 0, 1, 0, 0, .null, []), (.bipush 8, 2, 0, 0, .int 8, []), (.newarray .int, 2, 0, 0, .null, []), (.putfield 9, 3, 6, 0, .null, []), (.aload_n 0, 1, 0, 0, .null, []), (.bipush 8, 2, 0, 0, .int 8, []), (.newarray .int, 2, 0, 0, .null, []), (.putfield 15, 3, 6, 1, .null, []), (.aload_n 0, 1, 0, 0, .null, []), (.iconst 0, 1, 0, 0, .int 0, []), (.putfield 18, 3, 6, 2, .null, []), (.aload_n 0, 1, 0, 0, .null, []), (.iconst 0, 1, 0, 0, .int 0, []), (.putfield 22, 3, 6, 3, .null, [])],
  [(.aload_n 0, 1, 0, 0, .null, []), (.iconst 0, 1, 0, 0, .int 0, []), (.putfield 25, 3, 6, 4, .null, []), (.aload_n 0, 1, 0, 0, .null, []), (.iconst 0, 1, 0, 0, .int 0, []), (.putfield 28, 3, 6, 5, .null, []), (.aload_n 0, 1, 0, 0, .null, []), (.iconst 0, 1, 0, 0, .int 0, []), (.putfield 31, 3, 6, 6, .null, []), (.return_, 1, 0, 0, .null, [])]]
def M_Scene_init : am_M := (⟨"SpiteLine$Scene", "<init>", "()V"⟩, prog_8_method_1_code, 1, none, 6, (1, 20), K_Scene_init, [[0, 1, 4, 5, 7, 9, 12, 13, 15, 17, 20, 21, 22, 25, 26, 27], [30, 31, 32, 35, 36, 37, 40, 41, 42, 45]])
def K_Deeds_init : List (List am_I) := [[(.aload_n 0, 1, 0, 0, .null, []), (.invokespecial 3, 3, 1000, 0, .null, []), (.aload_n 0, 1, 0, 0, .null, []), (.bipush 30, 2, 0, 0, .int 30, []), (.anewarray 9, 3, 6, 0, .null, []), (.putfield 11, 3, 1, 0, .null, []), (.aload_n 0, 1, 0, 0, .null, []), (.iconst 0, 1, 0, 0, .int 0, []), (.putfield 17, 3, 1, 1, .null, []), (.aload_n 0, 1, 0, 0, .null, []), (.iconst 0, 1, 0, 0, .int 0, []), (.putfield 21, 3, 1, 2, .null, []), (.iconst 0, 1, 0, 0, .int 0, []), (.istore_n 1, 1, 1, 0, .null, []), (.iload_n 1, 1, 1, 0, .null, []), (.bipush 30, 2, 0, 0, .int 30, [])],
  [(.if_icmp .ge 22, 3, 26, 0, .null, []), (.aload_n 0, 1, 0, 0, .null, []), (.getfield 11, 3, 1, 0, .null, []), (.iload_n 1, 1, 1, 0, .null, []), (.new 9, 3, 6, 0, .null, []), (.dup, 1, 0, 0, .null, []), (.invokespecial 24, 3, 4, 1, .null, []), (.aastore, 1, 0, 0, .null, []), (.iinc 1 1, 3, 1, 0, .int 1, []), (.goto (-22), 3, 14, 0, .null, []), (.return_, 1, 0, 0, .null, [])]]
def M_Deeds_init : am_M := (⟨"SpiteLine$Deeds", "<init>", "()V"⟩, prog_3_method_1_code, 2, none, 1, (2, 40), K_Deeds_init, [[0, 1, 4, 5, 7, 10, 13, 14, 15, 18, 19, 20, 23, 24, 25, 26], [28, 31, 32, 35, 36, 39, 40, 43, 44, 47, 50]])
def K_Witness_init : List (List am_I) := [[(.aload_n 0, 1, 0, 0, .null, []), (.invokespecial 3, 3, 1000, 0, .null, []), (.aload_n 0, 1, 0, 0, .null, []), (.bipush 8, 2, 0, 0, .int 8, []), (.newarray .int, 2, 0, 0, .null, []), (.putfield 9, 3, 8, 0, .null, []), (.aload_n 0, 1, 0, 0, .null, []), (.bipush 8, 2, 0, 0, .int 8, []), (.newarray .boolean, 2, 0, 0, .null, []), (.putfield 15, 3, 8, 1, .null, []), (.aload_n 0, 1, 0, 0, .null, []), (.iconst 0, 1, 0, 0, .int 0, []), (.putfield 19, 3, 8, 2, .null, []), (.aload_n 0, 1, 0, 0, .null, []), (.bipush 37, 2, 0, 0, .int 37, []), (.newarray .int, 2, 0, 0, .null, [])],
  [(.putfield 23, 3, 8, 3, .null, []), (.aload_n 0, 1, 0, 0, .null, []), (.iconst 0, 1, 0, 0, .int 0, []), (.putfield 26, 3, 8, 4, .null, []), (.return_, 1, 0, 0, .null, [])]]
def M_Witness_init : am_M := (⟨"SpiteLine$Witness", "<init>", "()V"⟩, prog_10_method_1_code, 1, none, 8, (1, 20), K_Witness_init, [[0, 1, 4, 5, 7, 9, 12, 13, 15, 17, 20, 21, 22, 25, 26, 28], [30, 33, 34, 35, 38]])
def K_Book_init : List (List am_I) := [[(.aload_n 0, 1, 0, 0, .null, []), (.invokespecial 3, 3, 1000, 0, .null, []), (.aload_n 0, 1, 0, 0, .null, []), (.bipush 20, 2, 0, 0, .int 20, []), (.newarray .int, 2, 0, 0, .null, []), (.putfield 9, 3, 0, 0, .null, []), (.aload_n 0, 1, 0, 0, .null, []), (.bipush 20, 2, 0, 0, .int 20, []), (.newarray .int, 2, 0, 0, .null, []), (.putfield 15, 3, 0, 1, .null, []), (.aload_n 0, 1, 0, 0, .null, []), (.iconst 0, 1, 0, 0, .int 0, []), (.putfield 18, 3, 0, 2, .null, []), (.return_, 1, 0, 0, .null, [])]]
def M_Book_init : am_M := (⟨"SpiteLine$Book", "<init>", "()V"⟩, prog_2_method_1_code, 1, none, 0, (1, 20), K_Book_init, [[0, 1, 4, 5, 7, 9, 12, 13, 15, 17, 20, 21, 22, 25]])
def K_Draws_init : List (List am_I) := [[(.aload_n 0, 1, 0, 0, .null, []), (.invokespecial 1, 3, 1000, 0, .null, []), (.aload_n 0, 1, 0, 0, .null, []), (.iconst 0, 1, 0, 0, .int 0, []), (.putfield 7, 3, 2, 0, .null, []), (.return_, 1, 0, 0, .null, [])]]
def M_Draws_init : am_M := (⟨"SpiteLine$Draws", "<init>", "()V"⟩, prog_4_method_1_code, 1, none, 2, (1, 20), K_Draws_init, [[0, 1, 4, 5, 6, 9]])
def K_Image_init : List (List am_I) := [[(.aload_n 0, 1, 0, 0, .null, []), (.invokespecial 1, 3, 1000, 0, .null, []), (.aload_n 0, 1, 0, 0, .null, []), (.new 7, 3, 6, 0, .null, []), (.dup, 1, 0, 0, .null, []), (.invokespecial 9, 3, 4, 1, .null, []), (.putfield 10, 3, 3, 0, .null, []), (.aload_n 0, 1, 0, 0, .null, []), (.iconst 0, 1, 0, 0, .int 0, []), (.putfield 16, 3, 3, 1, .null, []), (.aload_n 0, 1, 0, 0, .null, []), (.iconst 0, 1, 0, 0, .int 0, []), (.putfield 20, 3, 3, 2, .null, []), (.return_, 1, 0, 0, .null, [])]]
def M_Image_init : am_M := (⟨"SpiteLine$Image", "<init>", "()V"⟩, prog_5_method_1_code, 1, none, 3, (2, 40), K_Image_init, [[0, 1, 4, 5, 8, 9, 12, 15, 16, 17, 20, 21, 22, 25]])
def K_Sp_feed : List (List am_I) := [[(.iload_n 1, 1, 1, 0, .null, []), (.ifCond .lt 10, 3, 5, 0, .null, []), (.iload_n 1, 1, 1, 0, .null, []), (.sipush 255, 3, 0, 0, .int 255, []), (.if_icmp .le 6, 3, 7, 0, .null, []), (.ldc 83, 2, 0, 0, .int (-1000000002), []), (.ireturn, 1, 0, 0, .null, []), (.aload_n 0, 1, 0, 0, .null, []), (.getfield 10, 3, 9, 0, .null, []), (.iload_n 1, 1, 1, 0, .null, []), (.invokevirtual 84, 3, 11, 2, .null, []), (.ifCond .eq 13, 3, 16, 0, .null, []), (.aload_n 0, 1, 0, 0, .null, []), (.getfield 10, 3, 9, 0, .null, []), (.getfield 88, 3, 7, 1, .null, []), (.goto 5, 3, 17, 0, .null, [])],
  [(.ldc 91, 2, 0, 0, .int (-1000000004), []), (.ireturn, 1, 0, 0, .null, [])]]
def M_Sp_feed : am_M := (⟨"SpiteLine", "feed", "(I)I"⟩, prog_1_method_2_code, 2, (some .int), 9, (1, 21), K_Sp_feed, [[0, 1, 4, 5, 8, 11, 13, 14, 15, 18, 19, 22, 25, 26, 29, 32], [35, 37]])
def K_Text_add : List (List am_I) := [[(.aload_n 0, 1, 0, 0, .null, []), (.getfield 15, 3, 7, 1, .null, []), (.ifCond .lt 13, 3, 7, 0, .null, []), (.aload_n 0, 1, 0, 0, .null, []), (.getfield 15, 3, 7, 1, .null, []), (.sipush 200, 3, 0, 0, .int 200, []), (.if_icmp .lt 5, 3, 9, 0, .null, []), (.iconst 0, 1, 0, 0, .int 0, []), (.ireturn, 1, 0, 0, .null, []), (.aload_n 0, 1, 0, 0, .null, []), (.getfield 9, 3, 7, 0, .null, []), (.aload_n 0, 1, 0, 0, .null, []), (.getfield 15, 3, 7, 1, .null, []), (.iload_n 1, 1, 1, 0, .null, []), (.iastore, 1, 0, 0, .null, []), (.aload_n 0, 1, 0, 0, .null, [])],
  [(.dup, 1, 0, 0, .null, []), (.getfield 15, 3, 7, 1, .null, []), (.iconst 1, 1, 0, 0, .int 1, []), (.iadd, 1, 0, 0, .null, []), (.putfield 15, 3, 7, 1, .null, []), (.iconst 1, 1, 0, 0, .int 1, []), (.ireturn, 1, 0, 0, .null, [])]]
def M_Text_add : am_M := (⟨"SpiteLine$Text", "add", "(I)Z"⟩, prog_9_method_2_code, 2, (some .boolean), 7, (0, 0), K_Text_add, [[0, 1, 4, 7, 8, 11, 14, 17, 18, 19, 20, 23, 24, 27, 28, 29], [30, 31, 34, 35, 36, 39, 40]])
def K_Sp_line : List (List am_I) := [[(.aload_n 0, 1, 0, 0, .null, []), (.getfield 19, 3, 9, 1, .null, []), (.aload_n 0, 1, 0, 0, .null, []), (.getfield 10, 3, 9, 0, .null, []), (.invokevirtual 92, 3, 13, 2, .null, []), (.aload_n 0, 1, 0, 0, .null, []), (.getfield 10, 3, 9, 0, .null, []), (.iconst 0, 1, 0, 0, .int 0, []), (.putfield 88, 3, 7, 1, .null, []), (.aload_n 0, 1, 0, 0, .null, []), (.getfield 19, 3, 9, 1, .null, []), (.getfield 96, 3, 5, 2, .null, []), (.ifCond .eq 25, 3, 24, 0, .null, []), (.aload_n 0, 1, 0, 0, .null, []), (.aload_n 0, 1, 0, 0, .null, []), (.getfield 19, 3, 9, 1, .null, [])],
  [(.getfield 99, 3, 5, 3, .null, []), (.putfield 78, 3, 9, 11, .null, []), (.bipush (-10), 2, 0, 0, .int (-10), []), (.aload_n 0, 1, 0, 0, .null, []), (.getfield 19, 3, 9, 1, .null, []), (.getfield 96, 3, 5, 2, .null, []), (.isub, 1, 0, 0, .null, []), (.ireturn, 1, 0, 0, .null, []), (.aload_n 0, 1, 0, 0, .null, []), (.iconst (-1), 1, 0, 0, .int (-1), []), (.putfield 78, 3, 9, 11, .null, []), (.aload_n 0, 1, 0, 0, .null, []), (.getfield 26, 3, 9, 2, .null, []), (.aload_n 0, 1, 0, 0, .null, []), (.getfield 19, 3, 9, 1, .null, []), (.getfield 102, 3, 5, 0, .null, [])],
  [(.invokevirtual 103, 3, 28, 2, .null, []), (.aload_n 0, 1, 0, 0, .null, []), (.getfield 33, 3, 9, 3, .null, []), (.aload_n 0, 1, 0, 0, .null, []), (.getfield 19, 3, 9, 1, .null, []), (.getfield 107, 3, 5, 1, .null, []), (.invokevirtual 110, 3, 29, 2, .null, []), (.aload_n 0, 1, 0, 0, .null, []), (.getfield 47, 3, 9, 6, .null, []), (.iconst 0, 1, 0, 0, .int 0, []), (.putfield 113, 3, 1, 2, .null, []), (.aload_n 0, 1, 0, 0, .null, []), (.getfield 54, 3, 9, 7, .null, []), (.iconst 0, 1, 0, 0, .int 0, []), (.putfield 116, 3, 8, 2, .null, []), (.aload_n 0, 1, 0, 0, .null, [])],
  [(.getfield 61, 3, 9, 8, .null, []), (.iconst 0, 1, 0, 0, .int 0, []), (.putfield 117, 3, 0, 2, .null, []), (.iconst 0, 1, 0, 0, .int 0, []), (.istore_n 1, 1, 1, 0, .null, []), (.iload_n 1, 1, 1, 0, .null, []), (.iconst 2, 1, 0, 0, .int 2, []), (.if_icmp .ge 19, 3, 64, 0, .null, []), (.aload_n 0, 1, 0, 0, .null, []), (.getfield 74, 3, 9, 10, .null, []), (.iload_n 1, 1, 1, 0, .null, []), (.aaload, 1, 0, 0, .null, []), (.iconst 0, 1, 0, 0, .int 0, []), (.putfield 118, 3, 3, 2, .null, []), (.iinc 1 1, 3, 1, 0, .int 1, []), (.goto (-18), 3, 53, 0, .null, [])],
  [(.aload_n 0, 1, 0, 0, .null, []), (.getfield 26, 3, 9, 2, .null, []), (.getfield 122, 3, 4, 2, .null, []), (.ireturn, 1, 0, 0, .null, [])]]
def M_Sp_line : am_M := (⟨"SpiteLine", "line", "()I"⟩, prog_1_method_3_code, 2, (some .int), 9, (6, 140), K_Sp_line, [[0, 1, 4, 5, 8, 11, 12, 15, 16, 19, 20, 23, 26, 29, 30, 31], [34, 37, 40, 42, 43, 46, 49, 50, 51, 52, 53, 56, 57, 60, 61, 64], [67, 70, 71, 74, 75, 78, 81, 84, 85, 88, 89, 92, 93, 96, 97, 100], [101, 104, 105, 108, 109, 110, 111, 112, 115, 116, 119, 120, 121, 122, 125, 128], [131, 132, 135, 138]])
def K_Reader_read : List (List am_I) := [[(.aload_n 0, 1, 0, 0, .null, []), (.getfield 12, 3, 5, 0, .null, []), (.invokevirtual 38, 3, 14, 1, .null, []), (.aload_n 0, 1, 0, 0, .null, []), (.getfield 21, 3, 5, 1, .null, []), (.invokevirtual 41, 3, 15, 1, .null, []), (.aload_n 0, 1, 0, 0, .null, []), (.iconst 0, 1, 0, 0, .int 0, []), (.putfield 25, 3, 5, 2, .null, []), (.aload_n 0, 1, 0, 0, .null, []), (.iconst (-1), 1, 0, 0, .int (-1), []), (.putfield 29, 3, 5, 3, .null, []), (.aload_n 0, 1, 0, 0, .null, []), (.iconst 0, 1, 0, 0, .int 0, []), (.putfield 32, 3, 5, 4, .null, []), (.aload_n 0, 1, 0, 0, .null, [])],
  [(.aload_n 1, 1, 1, 0, .null, []), (.invokevirtual 42, 3, 16, 2, .null, []), (.iconst 0, 1, 0, 0, .int 0, []), (.istore_n 2, 1, 2, 0, .null, []), (.iload_n 2, 1, 2, 0, .null, []), (.sipush 200, 3, 0, 0, .int 200, []), (.if_icmp .gt 37, 3, 39, 0, .null, []), (.aload_n 0, 1, 0, 0, .null, []), (.getfield 25, 3, 5, 2, .null, []), (.ifCond .ne 30, 3, 39, 0, .null, []), (.aload_n 0, 1, 0, 0, .null, []), (.getfield 32, 3, 5, 4, .null, []), (.aload_n 1, 1, 1, 0, .null, []), (.getfield 46, 3, 7, 1, .null, []), (.if_icmp .ge 19, 3, 39, 0, .null, []), (.aload_n 0, 1, 0, 0, .null, [])],
  [(.aload_n 1, 1, 1, 0, .null, []), (.invokevirtual 51, 3, 18, 2, .null, []), (.aload_n 0, 1, 0, 0, .null, []), (.aload_n 1, 1, 1, 0, .null, []), (.invokevirtual 42, 3, 16, 2, .null, []), (.iinc 2 1, 3, 2, 0, .int 1, []), (.goto (-38), 3, 20, 0, .null, []), (.return_, 1, 0, 0, .null, [])]]
def M_Reader_read : am_M := (⟨"SpiteLine$Reader", "read", "(LSpiteLine$Text;)V"⟩, prog_7_method_2_code, 3, none, 5, (5, 118), K_Reader_read, [[0, 1, 4, 7, 8, 11, 14, 15, 16, 19, 20, 21, 24, 25, 26, 29], [30, 31, 34, 35, 36, 37, 40, 43, 44, 47, 50, 51, 54, 55, 58, 61], [62, 63, 66, 67, 68, 71, 74, 77]])
def K_Line_clear : List (List am_I) := [[(.aload_n 0, 1, 0, 0, .null, []), (.iconst 0, 1, 0, 0, .int 0, []), (.putfield 9, 3, 4, 0, .null, []), (.aload_n 0, 1, 0, 0, .null, []), (.iconst 0, 1, 0, 0, .int 0, []), (.putfield 15, 3, 4, 1, .null, []), (.aload_n 0, 1, 0, 0, .null, []), (.iconst 0, 1, 0, 0, .int 0, []), (.putfield 18, 3, 4, 2, .null, []), (.return_, 1, 0, 0, .null, [])]]
def M_Line_clear : am_M := (⟨"SpiteLine$Line", "clear", "()V"⟩, prog_6_method_2_code, 1, none, 4, (0, 0), K_Line_clear, [[0, 1, 2, 5, 6, 7, 10, 11, 12, 15]])
def K_Scene_clear : List (List am_I) := [[(.aload_n 0, 1, 0, 0, .null, []), (.iconst 0, 1, 0, 0, .int 0, []), (.putfield 18, 3, 6, 2, .null, []), (.aload_n 0, 1, 0, 0, .null, []), (.iconst 0, 1, 0, 0, .int 0, []), (.putfield 22, 3, 6, 3, .null, []), (.aload_n 0, 1, 0, 0, .null, []), (.iconst 0, 1, 0, 0, .int 0, []), (.putfield 25, 3, 6, 4, .null, []), (.aload_n 0, 1, 0, 0, .null, []), (.iconst 0, 1, 0, 0, .int 0, []), (.putfield 28, 3, 6, 5, .null, []), (.aload_n 0, 1, 0, 0, .null, []), (.iconst 0, 1, 0, 0, .int 0, []), (.putfield 31, 3, 6, 6, .null, []), (.return_, 1, 0, 0, .null, [])]]
def M_Scene_clear : am_M := (⟨"SpiteLine$Scene", "clear", "()V"⟩, prog_8_method_2_code, 1, none, 6, (0, 0), K_Scene_clear, [[0, 1, 2, 5, 6, 7, 10, 11, 12, 15, 16, 17, 20, 21, 22, 25]])
def K_Reader_skipBlanks : List (List am_I) := [[(.aload_n 0, 1, 0, 0, .null, []), (.getfield 32, 3, 5, 4, .null, []), (.aload_n 1, 1, 1, 0, .null, []), (.getfield 46, 3, 7, 1, .null, []), (.if_icmp .ge 29, 3, 18, 0, .null, []), (.aload_n 1, 1, 1, 0, .null, []), (.aload_n 0, 1, 0, 0, .null, []), (.getfield 32, 3, 5, 4, .null, []), (.invokevirtual 54, 3, 17, 2, .null, []), (.bipush 32, 2, 0, 0, .int 32, []), (.if_icmp .ne 16, 3, 18, 0, .null, []), (.aload_n 0, 1, 0, 0, .null, []), (.dup, 1, 0, 0, .null, []), (.getfield 32, 3, 5, 4, .null, []), (.iconst 1, 1, 0, 0, .int 1, []), (.iadd, 1, 0, 0, .null, [])],
  [(.putfield 32, 3, 5, 4, .null, []), (.goto (-34), 3, 0, 0, .null, []), (.return_, 1, 0, 0, .null, [])]]
def M_Reader_skipBlanks : am_M := (⟨"SpiteLine$Reader", "skipBlanks", "(LSpiteLine$Text;)V"⟩, prog_7_method_8_code, 2, none, 5, (1, 21), K_Reader_skipBlanks, [[0, 1, 4, 5, 8, 11, 12, 13, 16, 19, 21, 24, 25, 26, 29, 30], [31, 34, 37]])
def K_Text_letterAt : List (List am_I) := [[(.iload_n 1, 1, 1, 0, .null, []), (.ifCond .lt 27, 3, 14, 0, .null, []), (.iload_n 1, 1, 1, 0, .null, []), (.aload_n 0, 1, 0, 0, .null, []), (.getfield 15, 3, 7, 1, .null, []), (.if_icmp .ge 19, 3, 14, 0, .null, []), (.iload_n 1, 1, 1, 0, .null, []), (.sipush 200, 3, 0, 0, .int 200, []), (.if_icmp .ge 12, 3, 14, 0, .null, []), (.aload_n 0, 1, 0, 0, .null, []), (.getfield 9, 3, 7, 0, .null, []), (.iload_n 1, 1, 1, 0, .null, []), (.iaload, 1, 0, 0, .null, []), (.goto 4, 3, 15, 0, .null, []), (.iconst (-1), 1, 0, 0, .int (-1), []), (.ireturn, 1, 0, 0, .null, [])]]
def M_Text_letterAt : am_M := (⟨"SpiteLine$Text", "letterAt", "(I)I"⟩, prog_9_method_3_code, 2, (some .int), 7, (0, 0), K_Text_letterAt, [[0, 1, 4, 5, 6, 9, 12, 13, 16, 19, 20, 23, 24, 25, 28, 29]])
def K_Reader_readClause : List (List am_I) := [[(.aload_n 1, 1, 1, 0, .null, []), (.aload_n 0, 1, 0, 0, .null, []), (.getfield 32, 3, 5, 4, .null, []), (.invokevirtual 54, 3, 17, 2, .null, []), (.istore_n 2, 1, 2, 0, .null, []), (.iload_n 2, 1, 2, 0, .null, []), (.bipush 115, 2, 0, 0, .int 115, []), (.if_icmp .ne 17, 3, 14, 0, .null, []), (.aload_n 0, 1, 0, 0, .null, []), (.getfield 12, 3, 5, 0, .null, []), (.invokevirtual 58, 3, 19, 1, .null, []), (.ifCond .eq 7, 3, 14, 0, .null, []), (.iconst 1, 1, 0, 0, .int 1, []), (.goto 4, 3, 15, 0, .null, []), (.iconst 0, 1, 0, 0, .int 0, []), (.istore_n 3, 1, 3, 0, .null, [])],
  [(.iload_n 2, 1, 2, 0, .null, []), (.bipush 112, 2, 0, 0, .int 112, []), (.if_icmp .ne 19, 3, 26, 0, .null, []), (.aload_n 0, 1, 0, 0, .null, []), (.getfield 12, 3, 5, 0, .null, []), (.getfield 62, 3, 4, 2, .null, []), (.bipush 8, 2, 0, 0, .int 8, []), (.if_icmp .lt 7, 3, 26, 0, .null, []), (.iconst 1, 1, 0, 0, .int 1, []), (.goto 4, 3, 27, 0, .null, []), (.iconst 0, 1, 0, 0, .int 0, []), (.istore 4, 2, 4, 0, .null, []), (.iload_n 3, 1, 3, 0, .null, []), (.ifCond .ne 8, 3, 32, 0, .null, []), (.iload 4, 2, 4, 0, .null, []), (.ifCond .eq 15, 3, 38, 0, .null, [])],
  [(.aload_n 0, 1, 0, 0, .null, []), (.iconst 3, 1, 0, 0, .int 3, []), (.aload_n 0, 1, 0, 0, .null, []), (.getfield 32, 3, 5, 4, .null, []), (.invokevirtual 65, 3, 20, 3, .null, []), (.goto 70, 3, 73, 0, .null, []), (.iload_n 2, 1, 2, 0, .null, []), (.bipush 115, 2, 0, 0, .int 115, []), (.if_icmp .ne 21, 3, 51, 0, .null, []), (.aload_n 0, 1, 0, 0, .null, []), (.dup, 1, 0, 0, .null, []), (.getfield 32, 3, 5, 4, .null, []), (.iconst 1, 1, 0, 0, .int 1, []), (.iadd, 1, 0, 0, .null, []), (.putfield 32, 3, 5, 4, .null, []), (.aload_n 0, 1, 0, 0, .null, [])],
  [(.aload_n 1, 1, 1, 0, .null, []), (.invokevirtual 69, 3, 21, 2, .null, []), (.goto 46, 3, 73, 0, .null, []), (.iload_n 2, 1, 2, 0, .null, []), (.bipush 112, 2, 0, 0, .int 112, []), (.if_icmp .ne 31, 3, 68, 0, .null, []), (.aload_n 0, 1, 0, 0, .null, []), (.getfield 12, 3, 5, 0, .null, []), (.invokevirtual 58, 3, 19, 1, .null, []), (.ifCond .eq 21, 3, 68, 0, .null, []), (.aload_n 0, 1, 0, 0, .null, []), (.dup, 1, 0, 0, .null, []), (.getfield 32, 3, 5, 4, .null, []), (.iconst 1, 1, 0, 0, .int 1, []), (.iadd, 1, 0, 0, .null, []), (.putfield 32, 3, 5, 4, .null, [])],
  [(.aload_n 0, 1, 0, 0, .null, []), (.aload_n 1, 1, 1, 0, .null, []), (.invokevirtual 72, 3, 25, 2, .null, []), (.goto 12, 3, 73, 0, .null, []), (.aload_n 0, 1, 0, 0, .null, []), (.iconst 1, 1, 0, 0, .int 1, []), (.aload_n 0, 1, 0, 0, .null, []), (.getfield 32, 3, 5, 4, .null, []), (.invokevirtual 65, 3, 20, 3, .null, []), (.return_, 1, 0, 0, .null, [])]]
def M_Reader_readClause : am_M := (⟨"SpiteLine$Reader", "readClause", "(LSpiteLine$Text;)V"⟩, prog_7_method_3_code, 5, none, 5, (4, 94), K_Reader_readClause, [[0, 1, 2, 5, 8, 9, 10, 12, 15, 16, 19, 22, 25, 26, 29, 30], [31, 32, 34, 37, 38, 41, 44, 46, 49, 50, 53, 54, 56, 57, 60, 62], [65, 66, 67, 68, 71, 74, 77, 78, 80, 83, 84, 85, 88, 89, 90, 93], [94, 95, 98, 101, 102, 104, 107, 108, 111, 114, 117, 118, 119, 122, 123, 124], [127, 128, 129, 132, 135, 136, 137, 138, 141, 144]])
def K_Line_isTold : List (List am_I) := [[(.aload_n 0, 1, 0, 0, .null, []), (.getfield 9, 3, 4, 0, .null, []), (.ifCond .le 7, 3, 5, 0, .null, []), (.iconst 1, 1, 0, 0, .int 1, []), (.goto 4, 3, 6, 0, .null, []), (.iconst 0, 1, 0, 0, .int 0, []), (.ireturn, 1, 0, 0, .null, [])]]
def M_Line_isTold : am_M := (⟨"SpiteLine$Line", "isTold", "()Z"⟩, prog_6_method_4_code, 1, (some .boolean), 4, (0, 0), K_Line_isTold, [[0, 1, 4, 7, 8, 11, 12]])
def K_Reader_blame : List (List am_I) := [[(.aload_n 0, 1, 0, 0, .null, []), (.getfield 25, 3, 5, 2, .null, []), (.ifCond .ne 13, 3, 9, 0, .null, []), (.aload_n 0, 1, 0, 0, .null, []), (.iload_n 1, 1, 1, 0, .null, []), (.putfield 25, 3, 5, 2, .null, []), (.aload_n 0, 1, 0, 0, .null, []), (.iload_n 2, 1, 2, 0, .null, []), (.putfield 29, 3, 5, 3, .null, []), (.return_, 1, 0, 0, .null, [])]]
def M_Reader_blame : am_M := (⟨"SpiteLine$Reader", "blame", "(II)V"⟩, prog_7_method_9_code, 3, none, 5, (0, 0), K_Reader_blame, [[0, 1, 4, 7, 8, 9, 12, 13, 14, 17]])
def K_Reader_readStations : List (List am_I) := [[(.aload_n 0, 1, 0, 0, .null, []), (.aload_n 1, 1, 1, 0, .null, []), (.iconst 2, 1, 0, 0, .int 2, []), (.bipush 8, 2, 0, 0, .int 8, []), (.invokevirtual 75, 3, 22, 4, .null, []), (.istore_n 2, 1, 2, 0, .null, []), (.aload_n 0, 1, 0, 0, .null, []), (.aload_n 1, 1, 1, 0, .null, []), (.iconst 1, 1, 0, 0, .int 1, []), (.bipush 15, 2, 0, 0, .int 15, []), (.invokevirtual 75, 3, 22, 4, .null, []), (.istore_n 3, 1, 3, 0, .null, []), (.aload_n 0, 1, 0, 0, .null, []), (.aload_n 1, 1, 1, 0, .null, []), (.iconst 0, 1, 0, 0, .int 0, []), (.bipush 9, 2, 0, 0, .int 9, [])],
  [(.invokevirtual 75, 3, 22, 4, .null, []), (.istore 4, 2, 4, 0, .null, []), (.aload_n 0, 1, 0, 0, .null, []), (.aload_n 1, 1, 1, 0, .null, []), (.invokevirtual 79, 3, 24, 2, .null, []), (.aload_n 0, 1, 0, 0, .null, []), (.getfield 25, 3, 5, 2, .null, []), (.ifCond .ne 28, 3, 36, 0, .null, []), (.aload_n 0, 1, 0, 0, .null, []), (.getfield 12, 3, 5, 0, .null, []), (.iload_n 2, 1, 2, 0, .null, []), (.putfield 82, 3, 4, 0, .null, []), (.aload_n 0, 1, 0, 0, .null, []), (.getfield 12, 3, 5, 0, .null, []), (.iload_n 3, 1, 3, 0, .null, []), (.putfield 85, 3, 4, 1, .null, [])],
  [(.aload_n 0, 1, 0, 0, .null, []), (.getfield 21, 3, 5, 1, .null, []), (.iload 4, 2, 4, 0, .null, []), (.putfield 88, 3, 6, 4, .null, []), (.return_, 1, 0, 0, .null, [])]]
def M_Reader_readStations : am_M := (⟨"SpiteLine$Reader", "readStations", "(LSpiteLine$Text;)V"⟩, prog_7_method_4_code, 5, none, 5, (3, 67), K_Reader_readStations, [[0, 1, 2, 3, 5, 8, 9, 10, 11, 12, 14, 17, 18, 19, 20, 21], [23, 26, 28, 29, 30, 33, 34, 37, 40, 41, 44, 45, 48, 49, 52, 53], [56, 57, 60, 62, 65]])
def K_Reader_readNumber : List (List am_I) := [[(.aload_n 0, 1, 0, 0, .null, []), (.aload_n 1, 1, 1, 0, .null, []), (.invokevirtual 42, 3, 16, 2, .null, []), (.aload_n 1, 1, 1, 0, .null, []), (.aload_n 0, 1, 0, 0, .null, []), (.getfield 32, 3, 5, 4, .null, []), (.invokevirtual 54, 3, 17, 2, .null, []), (.invokestatic 118, 3, 23, 1, .null, []), (.ifCond .ne 14, 3, 16, 0, .null, []), (.aload_n 0, 1, 0, 0, .null, []), (.iconst 1, 1, 0, 0, .int 1, []), (.aload_n 0, 1, 0, 0, .null, []), (.getfield 32, 3, 5, 4, .null, []), (.invokevirtual 65, 3, 20, 3, .null, []), (.iconst 0, 1, 0, 0, .int 0, []), (.ireturn, 1, 0, 0, .null, [])],
  [(.aload_n 0, 1, 0, 0, .null, []), (.aload_n 0, 1, 0, 0, .null, []), (.getfield 32, 3, 5, 4, .null, []), (.putfield 35, 3, 5, 5, .null, []), (.iconst 0, 1, 0, 0, .int 0, []), (.istore 4, 2, 4, 0, .null, []), (.iconst 0, 1, 0, 0, .int 0, []), (.istore 5, 2, 5, 0, .null, []), (.aload_n 0, 1, 0, 0, .null, []), (.getfield 32, 3, 5, 4, .null, []), (.aload_n 1, 1, 1, 0, .null, []), (.getfield 46, 3, 7, 1, .null, []), (.if_icmp .ge 58, 3, 57, 0, .null, []), (.aload_n 1, 1, 1, 0, .null, []), (.aload_n 0, 1, 0, 0, .null, []), (.getfield 32, 3, 5, 4, .null, [])],
  [(.invokevirtual 54, 3, 17, 2, .null, []), (.invokestatic 118, 3, 23, 1, .null, []), (.ifCond .eq 44, 3, 57, 0, .null, []), (.iinc 5 1, 3, 5, 0, .int 1, []), (.iload 5, 2, 5, 0, .null, []), (.iconst 3, 1, 0, 0, .int 3, []), (.if_icmp .gt 22, 3, 50, 0, .null, []), (.iload 4, 2, 4, 0, .null, []), (.bipush 10, 2, 0, 0, .int 10, []), (.imul, 1, 0, 0, .null, []), (.aload_n 1, 1, 1, 0, .null, []), (.aload_n 0, 1, 0, 0, .null, []), (.getfield 32, 3, 5, 4, .null, []), (.invokevirtual 54, 3, 17, 2, .null, []), (.iadd, 1, 0, 0, .null, []), (.bipush 48, 2, 0, 0, .int 48, [])],
  [(.isub, 1, 0, 0, .null, []), (.istore 4, 2, 4, 0, .null, []), (.aload_n 0, 1, 0, 0, .null, []), (.dup, 1, 0, 0, .null, []), (.getfield 32, 3, 5, 4, .null, []), (.iconst 1, 1, 0, 0, .int 1, []), (.iadd, 1, 0, 0, .null, []), (.putfield 32, 3, 5, 4, .null, []), (.goto (-63), 3, 24, 0, .null, []), (.iload 5, 2, 5, 0, .null, []), (.iconst 3, 1, 0, 0, .int 3, []), (.if_icmp .gt 15, 3, 66, 0, .null, []), (.iload 4, 2, 4, 0, .null, []), (.iload_n 2, 1, 2, 0, .null, []), (.if_icmp .lt 9, 3, 66, 0, .null, []), (.iload 4, 2, 4, 0, .null, [])],
  [(.iload_n 3, 1, 3, 0, .null, []), (.if_icmp .le 12, 3, 71, 0, .null, []), (.aload_n 0, 1, 0, 0, .null, []), (.iconst 2, 1, 0, 0, .int 2, []), (.aload_n 0, 1, 0, 0, .null, []), (.getfield 35, 3, 5, 5, .null, []), (.invokevirtual 65, 3, 20, 3, .null, []), (.iload 4, 2, 4, 0, .null, []), (.ireturn, 1, 0, 0, .null, [])]]
def M_Reader_readNumber : am_M := (⟨"SpiteLine$Reader", "readNumber", "(LSpiteLine$Text;II)I"⟩, prog_7_method_6_code, 6, (some .int), 5, (2, 42), K_Reader_readNumber, [[0, 1, 2, 5, 6, 7, 10, 13, 16, 19, 20, 21, 22, 25, 28, 29], [30, 31, 32, 35, 38, 39, 41, 42, 44, 45, 48, 49, 52, 55, 56, 57], [60, 63, 66, 69, 72, 74, 75, 78, 80, 82, 83, 84, 85, 88, 91, 92], [94, 95, 97, 98, 99, 102, 103, 104, 107, 110, 112, 113, 116, 118, 119, 122], [124, 125, 128, 129, 130, 131, 134, 137, 139]])
def K_Reader_isFigure : List (List am_I) := [[(.iload_n 0, 1, 0, 0, .null, []), (.bipush 48, 2, 0, 0, .int 48, []), (.if_icmp .lt 13, 3, 8, 0, .null, []), (.iload_n 0, 1, 0, 0, .null, []), (.bipush 57, 2, 0, 0, .int 57, []), (.if_icmp .gt 7, 3, 8, 0, .null, []), (.iconst 1, 1, 0, 0, .int 1, []), (.goto 4, 3, 9, 0, .null, []), (.iconst 0, 1, 0, 0, .int 0, []), (.ireturn, 1, 0, 0, .null, [])]]
def M_Reader_isFigure : am_M := (⟨"SpiteLine$Reader", "isFigure", "(I)Z"⟩, prog_7_method_10_code, 1, (some .boolean), 5, (0, 0), K_Reader_isFigure, [[0, 1, 3, 6, 7, 9, 12, 13, 16, 17]])
def K_Reader_readEnd : List (List am_I) := [[(.aload_n 0, 1, 0, 0, .null, []), (.aload_n 1, 1, 1, 0, .null, []), (.invokevirtual 42, 3, 16, 2, .null, []), (.aload_n 1, 1, 1, 0, .null, []), (.aload_n 0, 1, 0, 0, .null, []), (.getfield 32, 3, 5, 4, .null, []), (.invokevirtual 54, 3, 17, 2, .null, []), (.bipush 59, 2, 0, 0, .int 59, []), (.if_icmp .ne 16, 3, 16, 0, .null, []), (.aload_n 0, 1, 0, 0, .null, []), (.dup, 1, 0, 0, .null, []), (.getfield 32, 3, 5, 4, .null, []), (.iconst 1, 1, 0, 0, .int 1, []), (.iadd, 1, 0, 0, .null, []), (.putfield 32, 3, 5, 4, .null, []), (.goto 12, 3, 21, 0, .null, [])],
  [(.aload_n 0, 1, 0, 0, .null, []), (.iconst 1, 1, 0, 0, .int 1, []), (.aload_n 0, 1, 0, 0, .null, []), (.getfield 32, 3, 5, 4, .null, []), (.invokevirtual 65, 3, 20, 3, .null, []), (.return_, 1, 0, 0, .null, [])]]
def M_Reader_readEnd : am_M := (⟨"SpiteLine$Reader", "readEnd", "(LSpiteLine$Text;)V"⟩, prog_7_method_7_code, 2, none, 5, (2, 42), K_Reader_readEnd, [[0, 1, 2, 5, 6, 7, 10, 13, 15, 18, 19, 20, 23, 24, 25, 28], [31, 32, 33, 34, 37, 40]])
def K_Reader_readPerson : List (List am_I) := [[(.aload_n 0, 1, 0, 0, .null, []), (.aload_n 1, 1, 1, 0, .null, []), (.iconst 0, 1, 0, 0, .int 0, []), (.aload_n 0, 1, 0, 0, .null, []), (.getfield 12, 3, 5, 0, .null, []), (.getfield 82, 3, 4, 0, .null, []), (.iconst 1, 1, 0, 0, .int 1, []), (.isub, 1, 0, 0, .null, []), (.invokevirtual 75, 3, 22, 4, .null, []), (.istore_n 2, 1, 2, 0, .null, []), (.aload_n 0, 1, 0, 0, .null, []), (.aload_n 1, 1, 1, 0, .null, []), (.iconst 0, 1, 0, 0, .int 0, []), (.aload_n 0, 1, 0, 0, .null, []), (.getfield 12, 3, 5, 0, .null, []), (.getfield 82, 3, 4, 0, .null, [])],
  [(.iconst 1, 1, 0, 0, .int 1, []), (.isub, 1, 0, 0, .null, []), (.invokevirtual 75, 3, 22, 4, .null, []), (.istore_n 3, 1, 3, 0, .null, []), (.iload_n 3, 1, 3, 0, .null, []), (.iload_n 2, 1, 2, 0, .null, []), (.if_icmp .ne 12, 3, 28, 0, .null, []), (.aload_n 0, 1, 0, 0, .null, []), (.iconst 4, 1, 0, 0, .int 4, []), (.aload_n 0, 1, 0, 0, .null, []), (.getfield 35, 3, 5, 5, .null, []), (.invokevirtual 65, 3, 20, 3, .null, []), (.aload_n 0, 1, 0, 0, .null, []), (.aload_n 1, 1, 1, 0, .null, []), (.iconst 0, 1, 0, 0, .int 0, []), (.bipush 9, 2, 0, 0, .int 9, [])],
  [(.invokevirtual 75, 3, 22, 4, .null, []), (.istore 4, 2, 4, 0, .null, []), (.iload 4, 2, 4, 0, .null, []), (.bipush 9, 2, 0, 0, .int 9, []), (.if_icmp .eq 24, 3, 47, 0, .null, []), (.iload 4, 2, 4, 0, .null, []), (.aload_n 0, 1, 0, 0, .null, []), (.getfield 12, 3, 5, 0, .null, []), (.getfield 62, 3, 4, 2, .null, []), (.if_icmp .lt 12, 3, 47, 0, .null, []), (.aload_n 0, 1, 0, 0, .null, []), (.iconst 2, 1, 0, 0, .int 2, []), (.aload_n 0, 1, 0, 0, .null, []), (.getfield 35, 3, 5, 5, .null, []), (.invokevirtual 65, 3, 20, 3, .null, []), (.aload_n 0, 1, 0, 0, .null, [])],
  [(.aload_n 1, 1, 1, 0, .null, []), (.iconst 0, 1, 0, 0, .int 0, []), (.bipush 9, 2, 0, 0, .int 9, []), (.invokevirtual 75, 3, 22, 4, .null, []), (.istore 5, 2, 5, 0, .null, []), (.aload_n 0, 1, 0, 0, .null, []), (.aload_n 1, 1, 1, 0, .null, []), (.iconst 0, 1, 0, 0, .int 0, []), (.iconst 3, 1, 0, 0, .int 3, []), (.invokevirtual 75, 3, 22, 4, .null, []), (.istore 6, 2, 6, 0, .null, []), (.aload_n 0, 1, 0, 0, .null, []), (.aload_n 1, 1, 1, 0, .null, []), (.invokevirtual 79, 3, 24, 2, .null, []), (.aload_n 0, 1, 0, 0, .null, []), (.getfield 12, 3, 5, 0, .null, [])],
  [(.getfield 62, 3, 4, 2, .null, []), (.istore 7, 2, 7, 0, .null, []), (.aload_n 0, 1, 0, 0, .null, []), (.getfield 25, 3, 5, 2, .null, []), (.ifCond .ne 146, 3, 139, 0, .null, []), (.iload 7, 2, 7, 0, .null, []), (.bipush 8, 2, 0, 0, .int 8, []), (.if_icmp .ge 139, 3, 139, 0, .null, []), (.aload_n 0, 1, 0, 0, .null, []), (.getfield 12, 3, 5, 0, .null, []), (.getfield 91, 3, 4, 3, .null, []), (.iload 7, 2, 7, 0, .null, []), (.iload_n 3, 1, 3, 0, .null, []), (.iastore, 1, 0, 0, .null, []), (.aload_n 0, 1, 0, 0, .null, []), (.getfield 12, 3, 5, 0, .null, [])],
  [(.getfield 95, 3, 4, 4, .null, []), (.iload 7, 2, 7, 0, .null, []), (.iload 4, 2, 4, 0, .null, []), (.bipush 9, 2, 0, 0, .int 9, []), (.if_icmp .ne 7, 3, 87, 0, .null, []), (.iconst (-1), 1, 0, 0, .int (-1), []), (.goto 5, 3, 88, 0, .null, []), (.iload 4, 2, 4, 0, .null, []), (.iastore, 1, 0, 0, .null, []), (.aload_n 0, 1, 0, 0, .null, []), (.getfield 21, 3, 5, 1, .null, []), (.getfield 98, 3, 6, 0, .null, []), (.iload 7, 2, 7, 0, .null, []), (.iload_n 2, 1, 2, 0, .null, []), (.iastore, 1, 0, 0, .null, []), (.aload_n 0, 1, 0, 0, .null, [])],
  [(.getfield 21, 3, 5, 1, .null, []), (.getfield 101, 3, 6, 1, .null, []), (.iload 7, 2, 7, 0, .null, []), (.iload 5, 2, 5, 0, .null, []), (.iastore, 1, 0, 0, .null, []), (.aload_n 0, 1, 0, 0, .null, []), (.getfield 21, 3, 5, 1, .null, []), (.aload_n 0, 1, 0, 0, .null, []), (.getfield 21, 3, 5, 1, .null, []), (.getfield 104, 3, 6, 2, .null, []), (.iload 7, 2, 7, 0, .null, []), (.iload 6, 2, 6, 0, .null, []), (.iconst 0, 1, 0, 0, .int 0, []), (.invokestatic 107, 3, 26, 2, .null, []), (.iconst 1, 1, 0, 0, .int 1, []), (.if_icmp .ne 7, 3, 114, 0, .null, [])],
  [(.iconst 1, 1, 0, 0, .int 1, []), (.goto 4, 3, 115, 0, .null, []), (.iconst 0, 1, 0, 0, .int 0, []), (.invokestatic 111, 3, 27, 3, .null, []), (.putfield 104, 3, 6, 2, .null, []), (.aload_n 0, 1, 0, 0, .null, []), (.getfield 21, 3, 5, 1, .null, []), (.aload_n 0, 1, 0, 0, .null, []), (.getfield 21, 3, 5, 1, .null, []), (.getfield 115, 3, 6, 3, .null, []), (.iload 7, 2, 7, 0, .null, []), (.iload 6, 2, 6, 0, .null, []), (.iconst 1, 1, 0, 0, .int 1, []), (.invokestatic 107, 3, 26, 2, .null, []), (.iconst 1, 1, 0, 0, .int 1, []), (.if_icmp .ne 7, 3, 130, 0, .null, [])],
  [(.iconst 1, 1, 0, 0, .int 1, []), (.goto 4, 3, 131, 0, .null, []), (.iconst 0, 1, 0, 0, .int 0, []), (.invokestatic 111, 3, 27, 3, .null, []), (.putfield 115, 3, 6, 3, .null, []), (.aload_n 0, 1, 0, 0, .null, []), (.getfield 12, 3, 5, 0, .null, []), (.iload 7, 2, 7, 0, .null, []), (.iconst 1, 1, 0, 0, .int 1, []), (.iadd, 1, 0, 0, .null, []), (.putfield 62, 3, 4, 2, .null, []), (.return_, 1, 0, 0, .null, [])]]
def M_Reader_readPerson : am_M := (⟨"SpiteLine$Reader", "readPerson", "(LSpiteLine$Text;)V"⟩, prog_7_method_5_code, 8, none, 5, (3, 67), K_Reader_readPerson, [[0, 1, 2, 3, 4, 7, 10, 11, 12, 15, 16, 17, 18, 19, 20, 23], [26, 27, 28, 31, 32, 33, 34, 37, 38, 39, 40, 43, 46, 47, 48, 49], [51, 54, 56, 58, 60, 63, 65, 66, 69, 72, 75, 76, 77, 78, 81, 84], [85, 86, 87, 89, 92, 94, 95, 96, 97, 98, 101, 103, 104, 105, 108, 109], [112, 115, 117, 118, 121, 124, 126, 128, 131, 132, 135, 138, 140, 141, 142, 143], [146, 149, 151, 153, 155, 158, 159, 162, 164, 165, 166, 169, 172, 174, 175, 176], [177, 180, 183, 185, 187, 188, 189, 192, 193, 196, 199, 201, 203, 204, 207, 208], [211, 212, 215, 216, 219, 222, 223, 226, 227, 230, 233, 235, 237, 238, 241, 242], [245, 246, 249, 250, 253, 256, 257, 260, 262, 263, 264, 267]])
def K_Sp_bit : List (List am_I) := [[(.iload_n 0, 1, 0, 0, .null, []), (.iload_n 1, 1, 1, 0, .null, []), (.ishr, 1, 0, 0, .null, []), (.iconst 1, 1, 0, 0, .int 1, []), (.iand, 1, 0, 0, .null, []), (.ireturn, 1, 0, 0, .null, [])]]
def M_Sp_bit : am_M := (⟨"SpiteLine", "bit", "(II)I"⟩, prog_1_method_33_code, 2, (some .int), 9, (0, 0), K_Sp_bit, [[0, 1, 2, 3, 4, 5]])
def K_Sp_withBit : List (List am_I) := [[(.iload_n 2, 1, 2, 0, .null, []), (.ifCond .eq 11, 3, 8, 0, .null, []), (.iload_n 0, 1, 0, 0, .null, []), (.iconst 1, 1, 0, 0, .int 1, []), (.iload_n 1, 1, 1, 0, .null, []), (.ishl, 1, 0, 0, .null, []), (.ior, 1, 0, 0, .null, []), (.goto 10, 3, 15, 0, .null, []), (.iload_n 0, 1, 0, 0, .null, []), (.iconst 1, 1, 0, 0, .int 1, []), (.iload_n 1, 1, 1, 0, .null, []), (.ishl, 1, 0, 0, .null, []), (.iconst (-1), 1, 0, 0, .int (-1), []), (.ixor, 1, 0, 0, .null, []), (.iand, 1, 0, 0, .null, []), (.ireturn, 1, 0, 0, .null, [])]]
def M_Sp_withBit : am_M := (⟨"SpiteLine", "withBit", "(IIZ)I"⟩, prog_1_method_34_code, 3, (some .int), 9, (0, 0), K_Sp_withBit, [[0, 1, 4, 5, 6, 7, 8, 9, 12, 13, 14, 15, 16, 17, 18, 19]])
def K_Line_takeFrom : List (List am_I) := [[(.aload_n 0, 1, 0, 0, .null, []), (.aload_n 1, 1, 1, 0, .null, []), (.getfield 9, 3, 4, 0, .null, []), (.putfield 9, 3, 4, 0, .null, []), (.aload_n 0, 1, 0, 0, .null, []), (.aload_n 1, 1, 1, 0, .null, []), (.getfield 15, 3, 4, 1, .null, []), (.putfield 15, 3, 4, 1, .null, []), (.aload_n 0, 1, 0, 0, .null, []), (.aload_n 1, 1, 1, 0, .null, []), (.getfield 18, 3, 4, 2, .null, []), (.putfield 18, 3, 4, 2, .null, []), (.aload_n 1, 1, 1, 0, .null, []), (.getfield 21, 3, 4, 3, .null, []), (.iconst 0, 1, 0, 0, .int 0, []), (.aload_n 0, 1, 0, 0, .null, [])],
  [(.getfield 21, 3, 4, 3, .null, []), (.iconst 0, 1, 0, 0, .int 0, []), (.bipush 8, 2, 0, 0, .int 8, []), (.invokestatic 28, 3, 1001, 0, .null, []), (.aload_n 1, 1, 1, 0, .null, []), (.getfield 25, 3, 4, 4, .null, []), (.iconst 0, 1, 0, 0, .int 0, []), (.aload_n 0, 1, 0, 0, .null, []), (.getfield 25, 3, 4, 4, .null, []), (.iconst 0, 1, 0, 0, .int 0, []), (.bipush 8, 2, 0, 0, .int 8, []), (.invokestatic 28, 3, 1001, 0, .null, []), (.return_, 1, 0, 0, .null, [])]]
def M_Line_takeFrom : am_M := (⟨"SpiteLine$Line", "takeFrom", "(LSpiteLine$Line;)V"⟩, prog_6_method_3_code, 2, none, 4, (1, 26), K_Line_takeFrom, [[0, 1, 2, 5, 8, 9, 10, 13, 16, 17, 18, 21, 24, 25, 28, 29], [30, 33, 34, 36, 39, 40, 43, 44, 45, 48, 49, 51, 54]])
def K_Scene_takeFrom : List (List am_I) := [[(.aload_n 1, 1, 1, 0, .null, []), (.getfield 9, 3, 6, 0, .null, []), (.iconst 0, 1, 0, 0, .int 0, []), (.aload_n 0, 1, 0, 0, .null, []), (.getfield 9, 3, 6, 0, .null, []), (.iconst 0, 1, 0, 0, .int 0, []), (.bipush 8, 2, 0, 0, .int 8, []), (.invokestatic 34, 3, 1001, 0, .null, []), (.aload_n 1, 1, 1, 0, .null, []), (.getfield 15, 3, 6, 1, .null, []), (.iconst 0, 1, 0, 0, .int 0, []), (.aload_n 0, 1, 0, 0, .null, []), (.getfield 15, 3, 6, 1, .null, []), (.iconst 0, 1, 0, 0, .int 0, []), (.bipush 8, 2, 0, 0, .int 8, []), (.invokestatic 34, 3, 1001, 0, .null, [])],
  [(.aload_n 0, 1, 0, 0, .null, []), (.aload_n 1, 1, 1, 0, .null, []), (.getfield 18, 3, 6, 2, .null, []), (.putfield 18, 3, 6, 2, .null, []), (.aload_n 0, 1, 0, 0, .null, []), (.aload_n 1, 1, 1, 0, .null, []), (.getfield 22, 3, 6, 3, .null, []), (.putfield 22, 3, 6, 3, .null, []), (.aload_n 0, 1, 0, 0, .null, []), (.aload_n 1, 1, 1, 0, .null, []), (.getfield 25, 3, 6, 4, .null, []), (.putfield 25, 3, 6, 4, .null, []), (.aload_n 0, 1, 0, 0, .null, []), (.aload_n 1, 1, 1, 0, .null, []), (.getfield 28, 3, 6, 5, .null, []), (.putfield 28, 3, 6, 5, .null, [])],
  [(.aload_n 0, 1, 0, 0, .null, []), (.aload_n 1, 1, 1, 0, .null, []), (.getfield 31, 3, 6, 6, .null, []), (.putfield 31, 3, 6, 6, .null, []), (.return_, 1, 0, 0, .null, [])]]
def M_Scene_takeFrom : am_M := (⟨"SpiteLine$Scene", "takeFrom", "(LSpiteLine$Scene;)V"⟩, prog_8_method_3_code, 2, none, 6, (1, 26), K_Scene_takeFrom, [[0, 1, 4, 5, 6, 9, 10, 12, 15, 16, 19, 20, 21, 24, 25, 27], [30, 31, 32, 35, 38, 39, 40, 43, 46, 47, 48, 51, 54, 55, 56, 59], [62, 63, 64, 67, 70]])
def K_Sp_fault : List (List am_I) := [[(.aload_n 0, 1, 0, 0, .null, []), (.getfield 78, 3, 9, 11, .null, []), (.ireturn, 1, 0, 0, .null, [])]]
def M_Sp_fault : am_M := (⟨"SpiteLine", "fault", "()I"⟩, prog_1_method_4_code, 1, (some .int), 9, (0, 0), K_Sp_fault, [[0, 1, 4]])
def K_Sp_told : List (List am_I) := [[(.iload_n 1, 1, 1, 0, .null, []), (.tableswitch 168 0 11 #[63, 71, 79, 87, 95, 103, 111, 119, 132, 144, 152, 160], 63, 55, 0, .null, [(0, 2), (1, 6), (2, 10), (3, 14), (4, 18), (5, 22), (6, 26), (7, 30), (8, 37), (9, 43), (10, 47), (11, 51)]), (.aload_n 0, 1, 0, 0, .null, []), (.getfield 26, 3, 9, 2, .null, []), (.getfield 125, 3, 4, 0, .null, []), (.ireturn, 1, 0, 0, .null, []), (.aload_n 0, 1, 0, 0, .null, []), (.getfield 26, 3, 9, 2, .null, []), (.getfield 128, 3, 4, 1, .null, []), (.ireturn, 1, 0, 0, .null, []), (.aload_n 0, 1, 0, 0, .null, []), (.getfield 33, 3, 9, 3, .null, []), (.getfield 131, 3, 6, 4, .null, []), (.ireturn, 1, 0, 0, .null, []), (.aload_n 0, 1, 0, 0, .null, []), (.getfield 26, 3, 9, 2, .null, [])],
  [(.getfield 122, 3, 4, 2, .null, []), (.ireturn, 1, 0, 0, .null, []), (.aload_n 0, 1, 0, 0, .null, []), (.getfield 10, 3, 9, 0, .null, []), (.getfield 88, 3, 7, 1, .null, []), (.ireturn, 1, 0, 0, .null, []), (.aload_n 0, 1, 0, 0, .null, []), (.getfield 33, 3, 9, 3, .null, []), (.getfield 134, 3, 6, 5, .null, []), (.ireturn, 1, 0, 0, .null, []), (.aload_n 0, 1, 0, 0, .null, []), (.getfield 33, 3, 9, 3, .null, []), (.getfield 137, 3, 6, 6, .null, []), (.ireturn, 1, 0, 0, .null, []), (.aload_n 0, 1, 0, 0, .null, []), (.getfield 33, 3, 9, 3, .null, [])],
  [(.aload_n 0, 1, 0, 0, .null, []), (.getfield 26, 3, 9, 2, .null, []), (.iconst 0, 1, 0, 0, .int 0, []), (.invokevirtual 140, 3, 32, 3, .null, []), (.ireturn, 1, 0, 0, .null, []), (.aload_n 0, 1, 0, 0, .null, []), (.getfield 33, 3, 9, 3, .null, []), (.aload_n 0, 1, 0, 0, .null, []), (.getfield 26, 3, 9, 2, .null, []), (.invokevirtual 144, 3, 35, 2, .null, []), (.ireturn, 1, 0, 0, .null, []), (.aload_n 0, 1, 0, 0, .null, []), (.getfield 54, 3, 9, 7, .null, []), (.getfield 116, 3, 8, 2, .null, []), (.ireturn, 1, 0, 0, .null, []), (.aload_n 0, 1, 0, 0, .null, [])],
  [(.getfield 61, 3, 9, 8, .null, []), (.getfield 117, 3, 0, 2, .null, []), (.ireturn, 1, 0, 0, .null, []), (.aload_n 0, 1, 0, 0, .null, []), (.getfield 47, 3, 9, 6, .null, []), (.getfield 113, 3, 1, 2, .null, []), (.ireturn, 1, 0, 0, .null, []), (.ldc 83, 2, 0, 0, .int (-1000000002), []), (.ireturn, 1, 0, 0, .null, [])]]
def M_Sp_told : am_M := (⟨"SpiteLine", "told", "(I)I"⟩, prog_1_method_5_code, 2, (some .int), 9, (3, 68), K_Sp_told, [[0, 1, 64, 65, 68, 71, 72, 73, 76, 79, 80, 81, 84, 87, 88, 89], [92, 95, 96, 97, 100, 103, 104, 105, 108, 111, 112, 113, 116, 119, 120, 121], [124, 125, 128, 129, 132, 133, 134, 137, 138, 141, 144, 145, 146, 149, 152, 153], [154, 157, 160, 161, 162, 165, 168, 169, 171]])
def K_Scene_awaited : List (List am_I) := [[(.iconst 0, 1, 0, 0, .int 0, []), (.istore_n 3, 1, 3, 0, .null, []), (.iconst 0, 1, 0, 0, .int 0, []), (.istore 4, 2, 4, 0, .null, []), (.iload 4, 2, 4, 0, .null, []), (.aload_n 1, 1, 1, 0, .null, []), (.getfield 49, 3, 4, 2, .null, []), (.if_icmp .ge 36, 3, 27, 0, .null, []), (.aload_n 0, 1, 0, 0, .null, []), (.iload 4, 2, 4, 0, .null, []), (.iload_n 2, 1, 2, 0, .null, []), (.invokevirtual 52, 3, 33, 3, .null, []), (.aload_n 0, 1, 0, 0, .null, []), (.aload_n 1, 1, 1, 0, .null, []), (.invokevirtual 55, 3, 34, 2, .null, []), (.if_icmp .lt 15, 3, 25, 0, .null, [])],
  [(.iload_n 3, 1, 3, 0, .null, []), (.iconst 1, 1, 0, 0, .int 1, []), (.aload_n 0, 1, 0, 0, .null, []), (.getfield 9, 3, 6, 0, .null, []), (.iload 4, 2, 4, 0, .null, []), (.iaload, 1, 0, 0, .null, []), (.ishl, 1, 0, 0, .null, []), (.ior, 1, 0, 0, .null, []), (.istore_n 3, 1, 3, 0, .null, []), (.iinc 4 1, 3, 4, 0, .int 1, []), (.goto (-39), 3, 4, 0, .null, []), (.iload_n 3, 1, 3, 0, .null, []), (.ireturn, 1, 0, 0, .null, [])]]
def M_Scene_awaited : am_M := (⟨"SpiteLine$Scene", "awaited", "(LSpiteLine$Line;I)I"⟩, prog_8_method_6_code, 5, (some .int), 6, (2, 44), K_Scene_awaited, [[0, 1, 2, 3, 5, 7, 8, 11, 14, 15, 17, 18, 21, 22, 23, 26], [29, 30, 31, 32, 35, 37, 38, 39, 40, 41, 44, 47, 48]])
def K_Scene_shows : List (List am_I) := [[(.iload_n 2, 1, 2, 0, .null, []), (.iload_n 1, 1, 1, 0, .null, []), (.invokestatic 40, 3, 26, 2, .null, []), (.iconst 1, 1, 0, 0, .int 1, []), (.if_icmp .ne 8, 3, 7, 0, .null, []), (.bipush 9, 2, 0, 0, .int 9, []), (.goto 9, 3, 11, 0, .null, []), (.aload_n 0, 1, 0, 0, .null, []), (.getfield 15, 3, 6, 1, .null, []), (.iload_n 1, 1, 1, 0, .null, []), (.iaload, 1, 0, 0, .null, []), (.istore_n 3, 1, 3, 0, .null, []), (.iload_n 3, 1, 3, 0, .null, []), (.iconst 2, 1, 0, 0, .int 2, []), (.aload_n 0, 1, 0, 0, .null, []), (.getfield 18, 3, 6, 2, .null, [])],
  [(.iload_n 1, 1, 1, 0, .null, []), (.invokestatic 40, 3, 26, 2, .null, []), (.imul, 1, 0, 0, .null, []), (.iadd, 1, 0, 0, .null, []), (.iconst 3, 1, 0, 0, .int 3, []), (.aload_n 0, 1, 0, 0, .null, []), (.getfield 22, 3, 6, 3, .null, []), (.iload_n 1, 1, 1, 0, .null, []), (.invokestatic 40, 3, 26, 2, .null, []), (.imul, 1, 0, 0, .null, []), (.iadd, 1, 0, 0, .null, []), (.ireturn, 1, 0, 0, .null, [])]]
def M_Scene_shows : am_M := (⟨"SpiteLine$Scene", "shows", "(II)I"⟩, prog_8_method_4_code, 4, (some .int), 6, (1, 21), K_Scene_shows, [[0, 1, 2, 5, 6, 9, 11, 14, 15, 18, 19, 20, 21, 22, 23, 24], [27, 28, 31, 32, 33, 34, 35, 38, 39, 42, 43, 44]])
def K_Scene_alarm : List (List am_I) := [[(.aload_n 1, 1, 1, 0, .null, []), (.getfield 44, 3, 4, 1, .null, []), (.aload_n 0, 1, 0, 0, .null, []), (.getfield 25, 3, 6, 4, .null, []), (.iadd, 1, 0, 0, .null, []), (.ireturn, 1, 0, 0, .null, [])]]
def M_Scene_alarm : am_M := (⟨"SpiteLine$Scene", "alarm", "(LSpiteLine$Line;)I"⟩, prog_8_method_5_code, 2, (some .int), 6, (0, 0), K_Scene_alarm, [[0, 1, 4, 5, 8, 9]])
def K_Scene_arrived : List (List am_I) := [[(.iconst 0, 1, 0, 0, .int 0, []), (.istore_n 2, 1, 2, 0, .null, []), (.iconst 0, 1, 0, 0, .int 0, []), (.istore_n 3, 1, 3, 0, .null, []), (.iload_n 3, 1, 3, 0, .null, []), (.aload_n 1, 1, 1, 0, .null, []), (.getfield 49, 3, 4, 2, .null, []), (.if_icmp .ge 24, 3, 21, 0, .null, []), (.aload_n 0, 1, 0, 0, .null, []), (.aload_n 1, 1, 1, 0, .null, []), (.iload_n 3, 1, 3, 0, .null, []), (.invokevirtual 75, 3, 36, 3, .null, []), (.ifCond .eq 9, 3, 19, 0, .null, []), (.iload_n 2, 1, 2, 0, .null, []), (.iconst 1, 1, 0, 0, .int 1, []), (.iload_n 3, 1, 3, 0, .null, [])],
  [(.ishl, 1, 0, 0, .null, []), (.ior, 1, 0, 0, .null, []), (.istore_n 2, 1, 2, 0, .null, []), (.iinc 3 1, 3, 3, 0, .int 1, []), (.goto (-26), 3, 4, 0, .null, []), (.iload_n 2, 1, 2, 0, .null, []), (.ireturn, 1, 0, 0, .null, [])]]
def M_Scene_arrived : am_M := (⟨"SpiteLine$Scene", "arrived", "(LSpiteLine$Line;)I"⟩, prog_8_method_11_code, 4, (some .int), 6, (1, 22), K_Scene_arrived, [[0, 1, 2, 3, 4, 5, 6, 9, 12, 13, 14, 15, 18, 21, 22, 23], [24, 25, 26, 27, 30, 33, 34]])
def K_Scene_hasArrived : List (List am_I) := [[(.aload_n 0, 1, 0, 0, .null, []), (.getfield 9, 3, 6, 0, .null, []), (.iload_n 2, 1, 2, 0, .null, []), (.iaload, 1, 0, 0, .null, []), (.aload_n 1, 1, 1, 0, .null, []), (.getfield 72, 3, 4, 3, .null, []), (.iload_n 2, 1, 2, 0, .null, []), (.iaload, 1, 0, 0, .null, []), (.if_icmp .ne 7, 3, 11, 0, .null, []), (.iconst 1, 1, 0, 0, .int 1, []), (.goto 4, 3, 12, 0, .null, []), (.iconst 0, 1, 0, 0, .int 0, []), (.ireturn, 1, 0, 0, .null, [])]]
def M_Scene_hasArrived : am_M := (⟨"SpiteLine$Scene", "hasArrived", "(LSpiteLine$Line;I)Z"⟩, prog_8_method_10_code, 3, (some .boolean), 6, (0, 0), K_Scene_hasArrived, [[0, 1, 4, 5, 6, 7, 10, 11, 12, 15, 16, 19, 20]])
def K_Sp_person : List (List am_I) := [[(.aload_n 0, 1, 0, 0, .null, []), (.getfield 26, 3, 9, 2, .null, []), (.iload_n 1, 1, 1, 0, .null, []), (.invokevirtual 148, 3, 38, 2, .null, []), (.ifCond .ne 6, 3, 7, 0, .null, []), (.ldc 151, 2, 0, 0, .int (-1000000001), []), (.ireturn, 1, 0, 0, .null, []), (.iload_n 2, 1, 2, 0, .null, []), (.tableswitch 135 0 7 #[45, 55, 65, 75, 85, 97, 109, 119], 45, 59, 0, .null, [(0, 9), (1, 15), (2, 21), (3, 27), (4, 33), (5, 39), (6, 45), (7, 51)]), (.aload_n 0, 1, 0, 0, .null, []), (.getfield 33, 3, 9, 3, .null, []), (.getfield 152, 3, 6, 0, .null, []), (.iload_n 1, 1, 1, 0, .null, []), (.iaload, 1, 0, 0, .null, []), (.ireturn, 1, 0, 0, .null, []), (.aload_n 0, 1, 0, 0, .null, [])],
  [(.getfield 26, 3, 9, 2, .null, []), (.getfield 155, 3, 4, 3, .null, []), (.iload_n 1, 1, 1, 0, .null, []), (.iaload, 1, 0, 0, .null, []), (.ireturn, 1, 0, 0, .null, []), (.aload_n 0, 1, 0, 0, .null, []), (.getfield 26, 3, 9, 2, .null, []), (.getfield 158, 3, 4, 4, .null, []), (.iload_n 1, 1, 1, 0, .null, []), (.iaload, 1, 0, 0, .null, []), (.ireturn, 1, 0, 0, .null, []), (.aload_n 0, 1, 0, 0, .null, []), (.getfield 33, 3, 9, 3, .null, []), (.getfield 161, 3, 6, 1, .null, []), (.iload_n 1, 1, 1, 0, .null, []), (.iaload, 1, 0, 0, .null, [])],
  [(.ireturn, 1, 0, 0, .null, []), (.aload_n 0, 1, 0, 0, .null, []), (.getfield 33, 3, 9, 3, .null, []), (.getfield 164, 3, 6, 2, .null, []), (.iload_n 1, 1, 1, 0, .null, []), (.invokestatic 167, 3, 26, 2, .null, []), (.ireturn, 1, 0, 0, .null, []), (.aload_n 0, 1, 0, 0, .null, []), (.getfield 33, 3, 9, 3, .null, []), (.getfield 171, 3, 6, 3, .null, []), (.iload_n 1, 1, 1, 0, .null, []), (.invokestatic 167, 3, 26, 2, .null, []), (.ireturn, 1, 0, 0, .null, []), (.aload_n 0, 1, 0, 0, .null, []), (.getfield 33, 3, 9, 3, .null, []), (.iload_n 1, 1, 1, 0, .null, [])],
  [(.iconst 0, 1, 0, 0, .int 0, []), (.invokevirtual 174, 3, 33, 3, .null, []), (.ireturn, 1, 0, 0, .null, []), (.aload_n 0, 1, 0, 0, .null, []), (.getfield 33, 3, 9, 3, .null, []), (.aload_n 0, 1, 0, 0, .null, []), (.getfield 26, 3, 9, 2, .null, []), (.invokevirtual 144, 3, 35, 2, .null, []), (.iload_n 1, 1, 1, 0, .null, []), (.invokestatic 167, 3, 26, 2, .null, []), (.ireturn, 1, 0, 0, .null, []), (.ldc 83, 2, 0, 0, .int (-1000000002), []), (.ireturn, 1, 0, 0, .null, [])]]
def M_Sp_person : am_M := (⟨"SpiteLine", "person", "(II)I"⟩, prog_1_method_6_code, 3, (some .int), 9, (2, 45), K_Sp_person, [[0, 1, 4, 5, 8, 11, 13, 14, 15, 60, 61, 64, 67, 68, 69, 70], [71, 74, 77, 78, 79, 80, 81, 84, 87, 88, 89, 90, 91, 94, 97, 98], [99, 100, 101, 104, 107, 108, 111, 112, 113, 116, 119, 120, 123, 124, 125, 128], [129, 130, 133, 134, 135, 138, 139, 142, 145, 146, 149, 150, 152]])
def K_Line_hasPerson : List (List am_I) := [[(.iload_n 1, 1, 1, 0, .null, []), (.ifCond .lt 21, 3, 11, 0, .null, []), (.iload_n 1, 1, 1, 0, .null, []), (.aload_n 0, 1, 0, 0, .null, []), (.getfield 18, 3, 4, 2, .null, []), (.if_icmp .ge 13, 3, 11, 0, .null, []), (.iload_n 1, 1, 1, 0, .null, []), (.bipush 8, 2, 0, 0, .int 8, []), (.if_icmp .ge 7, 3, 11, 0, .null, []), (.iconst 1, 1, 0, 0, .int 1, []), (.goto 4, 3, 12, 0, .null, []), (.iconst 0, 1, 0, 0, .int 0, []), (.ireturn, 1, 0, 0, .null, [])]]
def M_Line_hasPerson : am_M := (⟨"SpiteLine$Line", "hasPerson", "(I)Z"⟩, prog_6_method_6_code, 2, (some .boolean), 4, (0, 0), K_Line_hasPerson, [[0, 1, 4, 5, 6, 9, 12, 13, 15, 18, 19, 22, 23]])
def K_Sp_station : List (List am_I) := [[(.aload_n 0, 1, 0, 0, .null, []), (.getfield 26, 3, 9, 2, .null, []), (.iload_n 1, 1, 1, 0, .null, []), (.invokevirtual 177, 3, 40, 2, .null, []), (.ifCond .ne 6, 3, 7, 0, .null, []), (.ldc 151, 2, 0, 0, .int (-1000000001), []), (.ireturn, 1, 0, 0, .null, []), (.iload_n 2, 1, 2, 0, .null, []), (.lookupswitch 51 #[(0, 25), (1, 38)], 25, 23, 0, .null, [(0, 9), (1, 16)]), (.aload_n 0, 1, 0, 0, .null, []), (.getfield 33, 3, 9, 3, .null, []), (.aload_n 0, 1, 0, 0, .null, []), (.getfield 26, 3, 9, 2, .null, []), (.iload_n 1, 1, 1, 0, .null, []), (.invokevirtual 180, 3, 41, 3, .null, []), (.ireturn, 1, 0, 0, .null, [])],
  [(.aload_n 0, 1, 0, 0, .null, []), (.getfield 33, 3, 9, 3, .null, []), (.aload_n 0, 1, 0, 0, .null, []), (.getfield 26, 3, 9, 2, .null, []), (.iload_n 1, 1, 1, 0, .null, []), (.invokevirtual 183, 3, 42, 3, .null, []), (.ireturn, 1, 0, 0, .null, []), (.ldc 83, 2, 0, 0, .int (-1000000002), []), (.ireturn, 1, 0, 0, .null, [])]]
def M_Sp_station : am_M := (⟨"SpiteLine", "station", "(II)I"⟩, prog_1_method_7_code, 3, (some .int), 9, (3, 68), K_Sp_station, [[0, 1, 4, 5, 8, 11, 13, 14, 15, 40, 41, 44, 45, 48, 49, 52], [53, 54, 57, 58, 61, 62, 65, 66, 68]])
def K_Line_hasStation : List (List am_I) := [[(.iload_n 1, 1, 1, 0, .null, []), (.ifCond .lt 15, 3, 8, 0, .null, []), (.iload_n 1, 1, 1, 0, .null, []), (.aload_n 0, 1, 0, 0, .null, []), (.getfield 9, 3, 4, 0, .null, []), (.if_icmp .ge 7, 3, 8, 0, .null, []), (.iconst 1, 1, 0, 0, .int 1, []), (.goto 4, 3, 9, 0, .null, []), (.iconst 0, 1, 0, 0, .int 0, []), (.ireturn, 1, 0, 0, .null, [])]]
def M_Line_hasStation : am_M := (⟨"SpiteLine$Line", "hasStation", "(I)Z"⟩, prog_6_method_5_code, 2, (some .boolean), 4, (0, 0), K_Line_hasStation, [[0, 1, 4, 5, 6, 9, 12, 13, 16, 17]])
def K_Scene_standing : List (List am_I) := [[(.iconst 0, 1, 0, 0, .int 0, []), (.istore_n 3, 1, 3, 0, .null, []), (.iconst 0, 1, 0, 0, .int 0, []), (.istore 4, 2, 4, 0, .null, []), (.iload 4, 2, 4, 0, .null, []), (.aload_n 1, 1, 1, 0, .null, []), (.getfield 49, 3, 4, 2, .null, []), (.if_icmp .ge 27, 3, 22, 0, .null, []), (.aload_n 0, 1, 0, 0, .null, []), (.getfield 9, 3, 6, 0, .null, []), (.iload 4, 2, 4, 0, .null, []), (.iaload, 1, 0, 0, .null, []), (.iload_n 2, 1, 2, 0, .null, []), (.if_icmp .ne 10, 3, 20, 0, .null, []), (.iload_n 3, 1, 3, 0, .null, []), (.iconst 1, 1, 0, 0, .int 1, [])],
  [(.iload 4, 2, 4, 0, .null, []), (.ishl, 1, 0, 0, .null, []), (.ior, 1, 0, 0, .null, []), (.istore_n 3, 1, 3, 0, .null, []), (.iinc 4 1, 3, 4, 0, .int 1, []), (.goto (-30), 3, 4, 0, .null, []), (.iload_n 3, 1, 3, 0, .null, []), (.ireturn, 1, 0, 0, .null, [])]]
def M_Scene_standing : am_M := (⟨"SpiteLine$Scene", "standing", "(LSpiteLine$Line;I)I"⟩, prog_8_method_8_code, 5, (some .int), 6, (0, 0), K_Scene_standing, [[0, 1, 2, 3, 5, 7, 8, 11, 14, 15, 18, 20, 21, 22, 25, 26], [27, 29, 30, 31, 32, 35, 38, 39]])
def K_Scene_mostShown : List (List am_I) := [[(.iconst 0, 1, 0, 0, .int 0, []), (.istore_n 3, 1, 3, 0, .null, []), (.iconst 0, 1, 0, 0, .int 0, []), (.istore 4, 2, 4, 0, .null, []), (.iload 4, 2, 4, 0, .null, []), (.aload_n 1, 1, 1, 0, .null, []), (.getfield 49, 3, 4, 2, .null, []), (.if_icmp .ge 32, 3, 23, 0, .null, []), (.aload_n 0, 1, 0, 0, .null, []), (.getfield 9, 3, 6, 0, .null, []), (.iload 4, 2, 4, 0, .null, []), (.iaload, 1, 0, 0, .null, []), (.iload_n 2, 1, 2, 0, .null, []), (.if_icmp .ne 15, 3, 21, 0, .null, []), (.iload_n 3, 1, 3, 0, .null, []), (.aload_n 0, 1, 0, 0, .null, [])],
  [(.iload 4, 2, 4, 0, .null, []), (.iconst 0, 1, 0, 0, .int 0, []), (.invokevirtual 52, 3, 33, 3, .null, []), (.invokestatic 67, 3, 1002, 0, .null, []), (.istore_n 3, 1, 3, 0, .null, []), (.iinc 4 1, 3, 4, 0, .int 1, []), (.goto (-35), 3, 4, 0, .null, []), (.iload_n 3, 1, 3, 0, .null, []), (.ireturn, 1, 0, 0, .null, [])]]
def M_Scene_mostShown : am_M := (⟨"SpiteLine$Scene", "mostShown", "(LSpiteLine$Line;I)I"⟩, prog_8_method_9_code, 5, (some .int), 6, (2, 44), K_Scene_mostShown, [[0, 1, 2, 3, 5, 7, 8, 11, 14, 15, 18, 20, 21, 22, 25, 26], [27, 29, 30, 33, 36, 37, 40, 43, 44]])
def K_Sp_mien : List (List am_I) := [[(.aload_n 0, 1, 0, 0, .null, []), (.getfield 26, 3, 9, 2, .null, []), (.iload_n 1, 1, 1, 0, .null, []), (.invokevirtual 148, 3, 38, 2, .null, []), (.ifCond .ne 6, 3, 7, 0, .null, []), (.ldc 151, 2, 0, 0, .int (-1000000001), []), (.ireturn, 1, 0, 0, .null, []), (.iload_n 2, 1, 2, 0, .null, []), (.ifCond .lt 9, 3, 12, 0, .null, []), (.iload_n 2, 1, 2, 0, .null, []), (.bipush 9, 2, 0, 0, .int 9, []), (.if_icmp .le 6, 3, 14, 0, .null, []), (.ldc 83, 2, 0, 0, .int (-1000000002), []), (.ireturn, 1, 0, 0, .null, []), (.aload_n 0, 1, 0, 0, .null, []), (.getfield 47, 3, 9, 6, .null, [])],
  [(.aload_n 0, 1, 0, 0, .null, []), (.getfield 33, 3, 9, 3, .null, []), (.invokevirtual 186, 3, 44, 2, .null, []), (.aload_n 0, 1, 0, 0, .null, []), (.getfield 33, 3, 9, 3, .null, []), (.getfield 161, 3, 6, 1, .null, []), (.iload_n 1, 1, 1, 0, .null, []), (.iaload, 1, 0, 0, .null, []), (.istore_n 3, 1, 3, 0, .null, []), (.aload_n 0, 1, 0, 0, .null, []), (.getfield 33, 3, 9, 3, .null, []), (.getfield 161, 3, 6, 1, .null, []), (.iload_n 1, 1, 1, 0, .null, []), (.iload_n 2, 1, 2, 0, .null, []), (.iastore, 1, 0, 0, .null, []), (.iload_n 3, 1, 3, 0, .null, [])],
  [(.ireturn, 1, 0, 0, .null, [])]]
def M_Sp_mien : am_M := (⟨"SpiteLine", "mien", "(II)I"⟩, prog_1_method_8_code, 4, (some .int), 9, (3, 68), K_Sp_mien, [[0, 1, 4, 5, 8, 11, 13, 14, 15, 18, 19, 21, 24, 26, 27, 28], [31, 32, 35, 38, 39, 42, 45, 46, 47, 48, 49, 52, 55, 56, 57, 58], [59]])
def K_Deeds_note : List (List am_I) := [[(.aload_n 0, 1, 0, 0, .null, []), (.getfield 11, 3, 1, 0, .null, []), (.aload_n 0, 1, 0, 0, .null, []), (.getfield 17, 3, 1, 1, .null, []), (.aload_n 0, 1, 0, 0, .null, []), (.getfield 21, 3, 1, 2, .null, []), (.iadd, 1, 0, 0, .null, []), (.bipush 30, 2, 0, 0, .int 30, []), (.irem, 1, 0, 0, .null, []), (.aaload, 1, 0, 0, .null, []), (.aload_n 1, 1, 1, 0, .null, []), (.invokevirtual 25, 3, 29, 2, .null, []), (.aload_n 0, 1, 0, 0, .null, []), (.getfield 21, 3, 1, 2, .null, []), (.bipush 30, 2, 0, 0, .int 30, []), (.if_icmp .ge 16, 3, 23, 0, .null, [])],
  [(.aload_n 0, 1, 0, 0, .null, []), (.dup, 1, 0, 0, .null, []), (.getfield 21, 3, 1, 2, .null, []), (.iconst 1, 1, 0, 0, .int 1, []), (.iadd, 1, 0, 0, .null, []), (.putfield 21, 3, 1, 2, .null, []), (.goto 16, 3, 31, 0, .null, []), (.aload_n 0, 1, 0, 0, .null, []), (.aload_n 0, 1, 0, 0, .null, []), (.getfield 17, 3, 1, 1, .null, []), (.iconst 1, 1, 0, 0, .int 1, []), (.iadd, 1, 0, 0, .null, []), (.bipush 30, 2, 0, 0, .int 30, []), (.irem, 1, 0, 0, .null, []), (.putfield 17, 3, 1, 1, .null, []), (.return_, 1, 0, 0, .null, [])]]
def M_Deeds_note : am_M := (⟨"SpiteLine$Deeds", "note", "(LSpiteLine$Scene;)V"⟩, prog_3_method_2_code, 2, none, 1, (2, 47), K_Deeds_note, [[0, 1, 4, 5, 8, 9, 12, 13, 15, 16, 17, 18, 21, 22, 25, 27], [30, 31, 32, 35, 36, 37, 40, 43, 44, 45, 48, 49, 50, 52, 53, 56]])
def K_Sp_feet : List (List am_I) := [[(.aload_n 0, 1, 0, 0, .null, []), (.getfield 26, 3, 9, 2, .null, []), (.iload_n 1, 1, 1, 0, .null, []), (.invokevirtual 148, 3, 38, 2, .null, []), (.ifCond .ne 6, 3, 7, 0, .null, []), (.ldc 151, 2, 0, 0, .int (-1000000001), []), (.ireturn, 1, 0, 0, .null, []), (.aload_n 0, 1, 0, 0, .null, []), (.getfield 47, 3, 9, 6, .null, []), (.aload_n 0, 1, 0, 0, .null, []), (.getfield 33, 3, 9, 3, .null, []), (.invokevirtual 186, 3, 44, 2, .null, []), (.aload_n 0, 1, 0, 0, .null, []), (.getfield 33, 3, 9, 3, .null, []), (.getfield 164, 3, 6, 2, .null, []), (.iload_n 1, 1, 1, 0, .null, [])],
  [(.invokestatic 167, 3, 26, 2, .null, []), (.istore_n 3, 1, 3, 0, .null, []), (.aload_n 0, 1, 0, 0, .null, []), (.getfield 33, 3, 9, 3, .null, []), (.aload_n 0, 1, 0, 0, .null, []), (.getfield 33, 3, 9, 3, .null, []), (.getfield 164, 3, 6, 2, .null, []), (.iload_n 1, 1, 1, 0, .null, []), (.iload_n 2, 1, 2, 0, .null, []), (.invokestatic 189, 3, 27, 3, .null, []), (.putfield 164, 3, 6, 2, .null, []), (.iload_n 3, 1, 3, 0, .null, []), (.ireturn, 1, 0, 0, .null, [])]]
def M_Sp_feet : am_M := (⟨"SpiteLine", "feet", "(IZ)I"⟩, prog_1_method_9_code, 4, (some .int), 9, (3, 68), K_Sp_feet, [[0, 1, 4, 5, 8, 11, 13, 14, 15, 18, 19, 22, 25, 26, 29, 32], [33, 36, 37, 38, 41, 42, 45, 48, 49, 50, 53, 56, 57]])
def K_Sp_flowers : List (List am_I) := [[(.aload_n 0, 1, 0, 0, .null, []), (.getfield 26, 3, 9, 2, .null, []), (.iload_n 1, 1, 1, 0, .null, []), (.invokevirtual 148, 3, 38, 2, .null, []), (.ifCond .ne 6, 3, 7, 0, .null, []), (.ldc 151, 2, 0, 0, .int (-1000000001), []), (.ireturn, 1, 0, 0, .null, []), (.aload_n 0, 1, 0, 0, .null, []), (.getfield 47, 3, 9, 6, .null, []), (.aload_n 0, 1, 0, 0, .null, []), (.getfield 33, 3, 9, 3, .null, []), (.invokevirtual 186, 3, 44, 2, .null, []), (.aload_n 0, 1, 0, 0, .null, []), (.getfield 33, 3, 9, 3, .null, []), (.getfield 171, 3, 6, 3, .null, []), (.iload_n 1, 1, 1, 0, .null, [])],
  [(.invokestatic 167, 3, 26, 2, .null, []), (.istore_n 3, 1, 3, 0, .null, []), (.aload_n 0, 1, 0, 0, .null, []), (.getfield 33, 3, 9, 3, .null, []), (.aload_n 0, 1, 0, 0, .null, []), (.getfield 33, 3, 9, 3, .null, []), (.getfield 171, 3, 6, 3, .null, []), (.iload_n 1, 1, 1, 0, .null, []), (.iload_n 2, 1, 2, 0, .null, []), (.invokestatic 189, 3, 27, 3, .null, []), (.putfield 171, 3, 6, 3, .null, []), (.iload_n 3, 1, 3, 0, .null, []), (.ireturn, 1, 0, 0, .null, [])]]
def M_Sp_flowers : am_M := (⟨"SpiteLine", "flowers", "(IZ)I"⟩, prog_1_method_10_code, 4, (some .int), 9, (3, 68), K_Sp_flowers, [[0, 1, 4, 5, 8, 11, 13, 14, 15, 18, 19, 22, 25, 26, 29, 32], [33, 36, 37, 38, 41, 42, 45, 48, 49, 50, 53, 56, 57]])
def K_Sp_walk : List (List am_I) := [[(.aload_n 0, 1, 0, 0, .null, []), (.getfield 26, 3, 9, 2, .null, []), (.iload_n 1, 1, 1, 0, .null, []), (.invokevirtual 148, 3, 38, 2, .null, []), (.ifCond .eq 14, 3, 10, 0, .null, []), (.aload_n 0, 1, 0, 0, .null, []), (.getfield 26, 3, 9, 2, .null, []), (.iload_n 2, 1, 2, 0, .null, []), (.invokevirtual 177, 3, 40, 2, .null, []), (.ifCond .ne 6, 3, 12, 0, .null, []), (.ldc 151, 2, 0, 0, .int (-1000000001), []), (.ireturn, 1, 0, 0, .null, []), (.aload_n 0, 1, 0, 0, .null, []), (.getfield 47, 3, 9, 6, .null, []), (.aload_n 0, 1, 0, 0, .null, []), (.getfield 33, 3, 9, 3, .null, [])],
  [(.invokevirtual 186, 3, 44, 2, .null, []), (.aload_n 0, 1, 0, 0, .null, []), (.getfield 33, 3, 9, 3, .null, []), (.getfield 152, 3, 6, 0, .null, []), (.iload_n 1, 1, 1, 0, .null, []), (.iaload, 1, 0, 0, .null, []), (.istore_n 3, 1, 3, 0, .null, []), (.aload_n 0, 1, 0, 0, .null, []), (.getfield 33, 3, 9, 3, .null, []), (.getfield 152, 3, 6, 0, .null, []), (.iload_n 1, 1, 1, 0, .null, []), (.iload_n 2, 1, 2, 0, .null, []), (.iastore, 1, 0, 0, .null, []), (.iload_n 2, 1, 2, 0, .null, []), (.iload_n 3, 1, 3, 0, .null, []), (.isub, 1, 0, 0, .null, [])],
  [(.invokestatic 193, 3, 1004, 0, .null, []), (.ireturn, 1, 0, 0, .null, [])]]
def M_Sp_walk : am_M := (⟨"SpiteLine", "walk", "(II)I"⟩, prog_1_method_11_code, 4, (some .int), 9, (3, 68), K_Sp_walk, [[0, 1, 4, 5, 8, 11, 12, 15, 16, 19, 22, 24, 25, 26, 29, 30], [33, 36, 37, 40, 43, 44, 45, 46, 47, 50, 53, 54, 55, 56, 57, 58], [59, 62]])
def K_Sp_fog : List (List am_I) := [[(.iload_n 1, 1, 1, 0, .null, []), (.ifCond .lt 9, 3, 5, 0, .null, []), (.iload_n 1, 1, 1, 0, .null, []), (.bipush 9, 2, 0, 0, .int 9, []), (.if_icmp .le 6, 3, 7, 0, .null, []), (.ldc 83, 2, 0, 0, .int (-1000000002), []), (.ireturn, 1, 0, 0, .null, []), (.aload_n 0, 1, 0, 0, .null, []), (.getfield 26, 3, 9, 2, .null, []), (.invokevirtual 199, 3, 19, 1, .null, []), (.ifCond .ne 6, 3, 13, 0, .null, []), (.ldc 203, 2, 0, 0, .int (-1000000003), []), (.ireturn, 1, 0, 0, .null, []), (.aload_n 0, 1, 0, 0, .null, []), (.getfield 47, 3, 9, 6, .null, []), (.aload_n 0, 1, 0, 0, .null, [])],
  [(.getfield 33, 3, 9, 3, .null, []), (.invokevirtual 186, 3, 44, 2, .null, []), (.aload_n 0, 1, 0, 0, .null, []), (.getfield 33, 3, 9, 3, .null, []), (.getfield 131, 3, 6, 4, .null, []), (.istore_n 2, 1, 2, 0, .null, []), (.aload_n 0, 1, 0, 0, .null, []), (.getfield 33, 3, 9, 3, .null, []), (.iload_n 1, 1, 1, 0, .null, []), (.putfield 131, 3, 6, 4, .null, []), (.iload_n 2, 1, 2, 0, .null, []), (.ireturn, 1, 0, 0, .null, [])]]
def M_Sp_fog : am_M := (⟨"SpiteLine", "fog", "(I)I"⟩, prog_1_method_12_code, 3, (some .int), 9, (3, 68), K_Sp_fog, [[0, 1, 4, 5, 7, 10, 12, 13, 14, 17, 20, 23, 25, 26, 27, 30], [31, 34, 37, 38, 41, 44, 45, 46, 49, 50, 53, 54]])
def K_Sp_train : List (List am_I) := [[(.aload_n 0, 1, 0, 0, .null, []), (.iload_n 1, 1, 1, 0, .null, []), (.invokevirtual 204, 3, 50, 2, .null, []), (.istore_n 2, 1, 2, 0, .null, []), (.iload_n 2, 1, 2, 0, .null, []), (.ifCond .eq 5, 3, 8, 0, .null, []), (.iload_n 2, 1, 2, 0, .null, []), (.ireturn, 1, 0, 0, .null, []), (.iconst 0, 1, 0, 0, .int 0, []), (.istore_n 3, 1, 3, 0, .null, []), (.iload_n 3, 1, 3, 0, .null, []), (.iload_n 1, 1, 1, 0, .null, []), (.if_icmp .ge 39, 3, 29, 0, .null, []), (.aload_n 0, 1, 0, 0, .null, []), (.getfield 47, 3, 9, 6, .null, []), (.aload_n 0, 1, 0, 0, .null, [])],
  [(.getfield 33, 3, 9, 3, .null, []), (.invokevirtual 186, 3, 44, 2, .null, []), (.aload_n 0, 1, 0, 0, .null, []), (.getfield 33, 3, 9, 3, .null, []), (.aload_n 0, 1, 0, 0, .null, []), (.getfield 26, 3, 9, 2, .null, []), (.aload_n 0, 1, 0, 0, .null, []), (.getfield 26, 3, 9, 2, .null, []), (.getfield 158, 3, 4, 4, .null, []), (.iconst 0, 1, 0, 0, .int 0, []), (.invokevirtual 207, 3, 51, 4, .null, []), (.iinc 3 1, 3, 3, 0, .int 1, []), (.goto (-38), 3, 10, 0, .null, []), (.aload_n 0, 1, 0, 0, .null, []), (.getfield 33, 3, 9, 3, .null, []), (.aload_n 0, 1, 0, 0, .null, [])],
  [(.getfield 26, 3, 9, 2, .null, []), (.invokevirtual 144, 3, 35, 2, .null, []), (.ireturn, 1, 0, 0, .null, [])]]
def M_Sp_train : am_M := (⟨"SpiteLine", "train", "(I)I"⟩, prog_1_method_13_code, 4, (some .int), 9, (5, 115), K_Sp_train, [[0, 1, 2, 5, 6, 7, 10, 11, 12, 13, 14, 15, 16, 19, 20, 23], [24, 27, 30, 31, 34, 35, 38, 39, 42, 45, 46, 49, 52, 55, 56, 59], [60, 63, 66]])
def K_Sp_trainsRefused : List (List am_I) := [[(.iload_n 1, 1, 1, 0, .null, []), (.iconst 1, 1, 0, 0, .int 1, []), (.if_icmp .lt 9, 3, 6, 0, .null, []), (.iload_n 1, 1, 1, 0, .null, []), (.bipush 20, 2, 0, 0, .int 20, []), (.if_icmp .le 6, 3, 8, 0, .null, []), (.ldc 83, 2, 0, 0, .int (-1000000002), []), (.ireturn, 1, 0, 0, .null, []), (.aload_n 0, 1, 0, 0, .null, []), (.getfield 26, 3, 9, 2, .null, []), (.invokevirtual 199, 3, 19, 1, .null, []), (.ifCond .ne 6, 3, 14, 0, .null, []), (.ldc 203, 2, 0, 0, .int (-1000000003), []), (.ireturn, 1, 0, 0, .null, []), (.aload_n 0, 1, 0, 0, .null, []), (.getfield 33, 3, 9, 3, .null, [])],
  [(.getfield 134, 3, 6, 5, .null, []), (.sipush 9000, 3, 0, 0, .int 9000, []), (.if_icmp .le 8, 3, 21, 0, .null, []), (.ldc 91, 2, 0, 0, .int (-1000000004), []), (.goto 4, 3, 22, 0, .null, []), (.iconst 0, 1, 0, 0, .int 0, []), (.ireturn, 1, 0, 0, .null, [])]]
def M_Sp_trainsRefused : am_M := (⟨"SpiteLine", "trainsRefused", "(I)I"⟩, prog_1_method_35_code, 2, (some .int), 9, (1, 20), K_Sp_trainsRefused, [[0, 1, 2, 5, 6, 8, 11, 13, 14, 15, 18, 21, 24, 26, 27, 28], [31, 34, 37, 40, 42, 45, 46]])
def K_Scene_runTrain : List (List am_I) := [[(.aload_n 0, 1, 0, 0, .null, []), (.aload_n 1, 1, 1, 0, .null, []), (.iconst 0, 1, 0, 0, .int 0, []), (.invokevirtual 79, 3, 52, 3, .null, []), (.iload_n 3, 1, 3, 0, .null, []), (.iconst (-1), 1, 0, 0, .int (-1), []), (.ixor, 1, 0, 0, .null, []), (.iand, 1, 0, 0, .null, []), (.istore 4, 2, 4, 0, .null, []), (.iconst 0, 1, 0, 0, .int 0, []), (.istore 5, 2, 5, 0, .null, []), (.iload 5, 2, 5, 0, .null, []), (.aload_n 1, 1, 1, 0, .null, []), (.getfield 82, 3, 4, 0, .null, []), (.if_icmp .ge 35, 3, 31, 0, .null, []), (.iload 4, 2, 4, 0, .null, [])],
  [(.iload 5, 2, 5, 0, .null, []), (.invokestatic 40, 3, 26, 2, .null, []), (.iconst 1, 1, 0, 0, .int 1, []), (.if_icmp .ne 18, 3, 29, 0, .null, []), (.aload_n 0, 1, 0, 0, .null, []), (.aload_n 1, 1, 1, 0, .null, []), (.aload_n 2, 1, 2, 0, .null, []), (.iload 5, 2, 5, 0, .null, []), (.invokevirtual 85, 3, 54, 4, .null, []), (.aload_n 0, 1, 0, 0, .null, []), (.aload_n 1, 1, 1, 0, .null, []), (.iload 5, 2, 5, 0, .null, []), (.invokevirtual 89, 3, 55, 3, .null, []), (.iinc 5 1, 3, 5, 0, .int 1, []), (.goto (-38), 3, 11, 0, .null, []), (.aload_n 0, 1, 0, 0, .null, [])],
  [(.aload_n 1, 1, 1, 0, .null, []), (.invokevirtual 93, 3, 56, 2, .null, []), (.aload_n 0, 1, 0, 0, .null, []), (.iload 4, 2, 4, 0, .null, []), (.putfield 31, 3, 6, 6, .null, []), (.aload_n 0, 1, 0, 0, .null, []), (.dup, 1, 0, 0, .null, []), (.getfield 28, 3, 6, 5, .null, []), (.iconst 1, 1, 0, 0, .int 1, []), (.iadd, 1, 0, 0, .null, []), (.putfield 28, 3, 6, 5, .null, []), (.return_, 1, 0, 0, .null, [])]]
def M_Scene_runTrain : am_M := (⟨"SpiteLine$Scene", "runTrain", "(LSpiteLine$Line;[II)V"⟩, prog_8_method_12_code, 6, none, 6, (4, 90), K_Scene_runTrain, [[0, 1, 2, 3, 6, 7, 8, 9, 10, 12, 13, 15, 17, 18, 21, 24], [26, 28, 31, 32, 35, 36, 37, 38, 40, 43, 44, 45, 47, 50, 53, 56], [57, 58, 61, 62, 64, 67, 68, 69, 72, 73, 74, 77]])
def K_Scene_stopsOfNext : List (List am_I) := [[(.aload_n 1, 1, 1, 0, .null, []), (.invokevirtual 59, 3, 53, 1, .null, []), (.aload_n 0, 1, 0, 0, .null, []), (.aload_n 1, 1, 1, 0, .null, []), (.iload_n 2, 1, 2, 0, .null, []), (.invokevirtual 63, 3, 32, 3, .null, []), (.iconst (-1), 1, 0, 0, .int (-1), []), (.ixor, 1, 0, 0, .null, []), (.iand, 1, 0, 0, .null, []), (.ireturn, 1, 0, 0, .null, [])]]
def M_Scene_stopsOfNext : am_M := (⟨"SpiteLine$Scene", "stopsOfNext", "(LSpiteLine$Line;I)I"⟩, prog_8_method_7_code, 3, (some .int), 6, (3, 68), K_Scene_stopsOfNext, [[0, 1, 4, 5, 6, 7, 10, 11, 12, 13]])
def K_Line_allStations : List (List am_I) := [[(.iconst 1, 1, 0, 0, .int 1, []), (.aload_n 0, 1, 0, 0, .null, []), (.getfield 9, 3, 4, 0, .null, []), (.ishl, 1, 0, 0, .null, []), (.iconst 1, 1, 0, 0, .int 1, []), (.isub, 1, 0, 0, .null, []), (.ireturn, 1, 0, 0, .null, [])]]
def M_Line_allStations : am_M := (⟨"SpiteLine$Line", "allStations", "()I"⟩, prog_6_method_7_code, 1, (some .int), 4, (0, 0), K_Line_allStations, [[0, 1, 2, 5, 6, 7, 8]])
def K_Scene_letOut : List (List am_I) := [[(.iconst 0, 1, 0, 0, .int 0, []), (.istore 4, 2, 4, 0, .null, []), (.iload 4, 2, 4, 0, .null, []), (.aload_n 1, 1, 1, 0, .null, []), (.getfield 49, 3, 4, 2, .null, []), (.if_icmp .ge 77, 3, 45, 0, .null, []), (.aload_n 0, 1, 0, 0, .null, []), (.getfield 9, 3, 6, 0, .null, []), (.iload 4, 2, 4, 0, .null, []), (.iaload, 1, 0, 0, .null, []), (.iconst (-1), 1, 0, 0, .int (-1), []), (.if_icmp .ne 60, 3, 43, 0, .null, []), (.aload_n 1, 1, 1, 0, .null, []), (.getfield 72, 3, 4, 3, .null, []), (.iload 4, 2, 4, 0, .null, []), (.iaload, 1, 0, 0, .null, [])],
  [(.iload_n 3, 1, 3, 0, .null, []), (.if_icmp .ne 49, 3, 43, 0, .null, []), (.aload_n 2, 1, 2, 0, .null, []), (.iload 4, 2, 4, 0, .null, []), (.iaload, 1, 0, 0, .null, []), (.istore 5, 2, 5, 0, .null, []), (.aload_n 1, 1, 1, 0, .null, []), (.iload 5, 2, 5, 0, .null, []), (.invokevirtual 97, 3, 38, 2, .null, []), (.ifCond .eq 18, 3, 34, 0, .null, []), (.aload_n 0, 1, 0, 0, .null, []), (.getfield 9, 3, 6, 0, .null, []), (.iload 5, 2, 5, 0, .null, []), (.iaload, 1, 0, 0, .null, []), (.iload_n 3, 1, 3, 0, .null, []), (.if_icmp .ne 7, 3, 34, 0, .null, [])],
  [(.iconst 1, 1, 0, 0, .int 1, []), (.goto 4, 3, 35, 0, .null, []), (.iconst 0, 1, 0, 0, .int 0, []), (.istore 6, 2, 6, 0, .null, []), (.iload 6, 2, 6, 0, .null, []), (.ifCond .ne 11, 3, 43, 0, .null, []), (.aload_n 0, 1, 0, 0, .null, []), (.getfield 9, 3, 6, 0, .null, []), (.iload 4, 2, 4, 0, .null, []), (.iload_n 3, 1, 3, 0, .null, []), (.iastore, 1, 0, 0, .null, []), (.iinc 4 1, 3, 4, 0, .int 1, []), (.goto (-80), 3, 2, 0, .null, []), (.return_, 1, 0, 0, .null, [])]]
def M_Scene_letOut : am_M := (⟨"SpiteLine$Scene", "letOut", "(LSpiteLine$Line;[II)V"⟩, prog_8_method_13_code, 7, none, 6, (1, 21), K_Scene_letOut, [[0, 1, 3, 5, 6, 9, 12, 13, 16, 18, 19, 20, 23, 24, 27, 29], [30, 31, 34, 35, 37, 38, 40, 41, 43, 46, 49, 50, 53, 55, 56, 57], [60, 61, 64, 65, 67, 69, 72, 73, 76, 78, 79, 80, 83, 86]])
def K_Scene_takeIn : List (List am_I) := [[(.iconst 0, 1, 0, 0, .int 0, []), (.istore_n 3, 1, 3, 0, .null, []), (.iload_n 3, 1, 3, 0, .null, []), (.aload_n 1, 1, 1, 0, .null, []), (.getfield 49, 3, 4, 2, .null, []), (.if_icmp .ge 36, 3, 25, 0, .null, []), (.aload_n 0, 1, 0, 0, .null, []), (.getfield 9, 3, 6, 0, .null, []), (.iload_n 3, 1, 3, 0, .null, []), (.iaload, 1, 0, 0, .null, []), (.iload_n 2, 1, 2, 0, .null, []), (.if_icmp .ne 20, 3, 23, 0, .null, []), (.aload_n 1, 1, 1, 0, .null, []), (.getfield 72, 3, 4, 3, .null, []), (.iload_n 3, 1, 3, 0, .null, []), (.iaload, 1, 0, 0, .null, [])],
  [(.iload_n 2, 1, 2, 0, .null, []), (.if_icmp .le 10, 3, 23, 0, .null, []), (.aload_n 0, 1, 0, 0, .null, []), (.getfield 9, 3, 6, 0, .null, []), (.iload_n 3, 1, 3, 0, .null, []), (.iconst (-1), 1, 0, 0, .int (-1), []), (.iastore, 1, 0, 0, .null, []), (.iinc 3 1, 3, 3, 0, .int 1, []), (.goto (-38), 3, 2, 0, .null, []), (.return_, 1, 0, 0, .null, [])]]
def M_Scene_takeIn : am_M := (⟨"SpiteLine$Scene", "takeIn", "(LSpiteLine$Line;I)V"⟩, prog_8_method_14_code, 4, none, 6, (0, 0), K_Scene_takeIn, [[0, 1, 2, 3, 4, 7, 10, 11, 14, 15, 16, 17, 20, 21, 24, 25], [26, 27, 30, 31, 34, 35, 36, 37, 40, 43]])
def K_Scene_emptyAtLast : List (List am_I) := [[(.iconst 0, 1, 0, 0, .int 0, []), (.istore_n 2, 1, 2, 0, .null, []), (.iload_n 2, 1, 2, 0, .null, []), (.aload_n 1, 1, 1, 0, .null, []), (.getfield 49, 3, 4, 2, .null, []), (.if_icmp .ge 31, 3, 22, 0, .null, []), (.aload_n 0, 1, 0, 0, .null, []), (.getfield 9, 3, 6, 0, .null, []), (.iload_n 2, 1, 2, 0, .null, []), (.iaload, 1, 0, 0, .null, []), (.iconst (-1), 1, 0, 0, .int (-1), []), (.if_icmp .ne 15, 3, 20, 0, .null, []), (.aload_n 0, 1, 0, 0, .null, []), (.getfield 9, 3, 6, 0, .null, []), (.iload_n 2, 1, 2, 0, .null, []), (.aload_n 1, 1, 1, 0, .null, [])],
  [(.getfield 82, 3, 4, 0, .null, []), (.iconst 1, 1, 0, 0, .int 1, []), (.isub, 1, 0, 0, .null, []), (.iastore, 1, 0, 0, .null, []), (.iinc 2 1, 3, 2, 0, .int 1, []), (.goto (-33), 3, 2, 0, .null, []), (.return_, 1, 0, 0, .null, [])]]
def M_Scene_emptyAtLast : am_M := (⟨"SpiteLine$Scene", "emptyAtLast", "(LSpiteLine$Line;)V"⟩, prog_8_method_15_code, 3, none, 6, (0, 0), K_Scene_emptyAtLast, [[0, 1, 2, 3, 4, 7, 10, 11, 14, 15, 16, 17, 20, 21, 24, 25], [26, 29, 30, 31, 32, 35, 38]])
def K_Sp_drift : List (List am_I) := [[(.aload_n 0, 1, 0, 0, .null, []), (.iload_n 1, 1, 1, 0, .null, []), (.invokevirtual 204, 3, 50, 2, .null, []), (.istore_n 2, 1, 2, 0, .null, []), (.iload_n 2, 1, 2, 0, .null, []), (.ifCond .eq 5, 3, 8, 0, .null, []), (.iload_n 2, 1, 2, 0, .null, []), (.ireturn, 1, 0, 0, .null, []), (.iconst 0, 1, 0, 0, .int 0, []), (.istore_n 3, 1, 3, 0, .null, []), (.iload_n 3, 1, 3, 0, .null, []), (.iload_n 1, 1, 1, 0, .null, []), (.if_icmp .ge 43, 3, 31, 0, .null, []), (.aload_n 0, 1, 0, 0, .null, []), (.getfield 47, 3, 9, 6, .null, []), (.aload_n 0, 1, 0, 0, .null, [])],
  [(.getfield 33, 3, 9, 3, .null, []), (.invokevirtual 186, 3, 44, 2, .null, []), (.aload_n 0, 1, 0, 0, .null, []), (.invokevirtual 211, 3, 58, 1, .null, []), (.aload_n 0, 1, 0, 0, .null, []), (.getfield 33, 3, 9, 3, .null, []), (.aload_n 0, 1, 0, 0, .null, []), (.getfield 26, 3, 9, 2, .null, []), (.aload_n 0, 1, 0, 0, .null, []), (.getfield 26, 3, 9, 2, .null, []), (.getfield 158, 3, 4, 4, .null, []), (.iconst 0, 1, 0, 0, .int 0, []), (.invokevirtual 207, 3, 51, 4, .null, []), (.iinc 3 1, 3, 3, 0, .int 1, []), (.goto (-42), 3, 10, 0, .null, []), (.aload_n 0, 1, 0, 0, .null, [])],
  [(.getfield 33, 3, 9, 3, .null, []), (.aload_n 0, 1, 0, 0, .null, []), (.getfield 26, 3, 9, 2, .null, []), (.invokevirtual 144, 3, 35, 2, .null, []), (.ireturn, 1, 0, 0, .null, [])]]
def M_Sp_drift : am_M := (⟨"SpiteLine", "drift", "(I)I"⟩, prog_1_method_14_code, 4, (some .int), 9, (5, 115), K_Sp_drift, [[0, 1, 2, 5, 6, 7, 10, 11, 12, 13, 14, 15, 16, 19, 20, 23], [24, 27, 30, 31, 34, 35, 38, 39, 42, 43, 46, 49, 50, 53, 56, 59], [60, 63, 64, 67, 70]])
def K_Sp_drawDay : List (List am_I) := [[(.aload_n 0, 1, 0, 0, .null, []), (.getfield 26, 3, 9, 2, .null, []), (.getfield 122, 3, 4, 2, .null, []), (.ifCond .le 49, 3, 27, 0, .null, []), (.aload_n 0, 1, 0, 0, .null, []), (.getfield 68, 3, 9, 9, .null, []), (.aload_n 0, 1, 0, 0, .null, []), (.getfield 26, 3, 9, 2, .null, []), (.getfield 122, 3, 4, 2, .null, []), (.invokevirtual 278, 3, 59, 2, .null, []), (.istore_n 1, 1, 1, 0, .null, []), (.aload_n 0, 1, 0, 0, .null, []), (.getfield 68, 3, 9, 9, .null, []), (.bipush 10, 2, 0, 0, .int 10, []), (.invokevirtual 278, 3, 59, 2, .null, []), (.istore_n 2, 1, 2, 0, .null, [])],
  [(.aload_n 0, 1, 0, 0, .null, []), (.getfield 26, 3, 9, 2, .null, []), (.iload_n 1, 1, 1, 0, .null, []), (.invokevirtual 148, 3, 38, 2, .null, []), (.ifCond .eq 13, 3, 27, 0, .null, []), (.aload_n 0, 1, 0, 0, .null, []), (.getfield 33, 3, 9, 3, .null, []), (.getfield 161, 3, 6, 1, .null, []), (.iload_n 1, 1, 1, 0, .null, []), (.iload_n 2, 1, 2, 0, .null, []), (.iastore, 1, 0, 0, .null, []), (.aload_n 0, 1, 0, 0, .null, []), (.getfield 33, 3, 9, 3, .null, []), (.aload_n 0, 1, 0, 0, .null, []), (.getfield 68, 3, 9, 9, .null, []), (.bipush 6, 2, 0, 0, .int 6, [])],
  [(.invokevirtual 278, 3, 59, 2, .null, []), (.putfield 131, 3, 6, 4, .null, []), (.return_, 1, 0, 0, .null, [])]]
def M_Sp_drawDay : am_M := (⟨"SpiteLine", "drawDay", "()V"⟩, prog_1_method_36_code, 3, none, 9, (1, 21), K_Sp_drawDay, [[0, 1, 4, 7, 10, 11, 14, 15, 18, 21, 24, 25, 26, 29, 31, 34], [35, 36, 39, 40, 43, 46, 47, 50, 53, 54, 55, 56, 57, 60, 61, 64], [66, 69, 72]])
def K_Draws_next : List (List am_I) := [[(.aload_n 0, 1, 0, 0, .null, []), (.aload_n 0, 1, 0, 0, .null, []), (.getfield 7, 3, 2, 0, .null, []), (.i2l, 1, 0, 0, .null, []), (.ldc2_w 13, 3, 0, 0, .long 1103515245, []), (.lmul, 1, 0, 0, .null, []), (.ldc2_w 15, 3, 0, 0, .long 12345, []), (.ladd, 1, 0, 0, .null, []), (.ldc2_w 17, 3, 0, 0, .long 2147483647, []), (.land, 1, 0, 0, .null, []), (.l2i, 1, 0, 0, .null, []), (.putfield 7, 3, 2, 0, .null, []), (.iload_n 1, 1, 1, 0, .null, []), (.ifCond .le 15, 3, 21, 0, .null, []), (.aload_n 0, 1, 0, 0, .null, []), (.getfield 7, 3, 2, 0, .null, [])],
  [(.ldc 19, 2, 0, 0, .int 65536, []), (.idiv, 1, 0, 0, .null, []), (.iload_n 1, 1, 1, 0, .null, []), (.irem, 1, 0, 0, .null, []), (.goto 4, 3, 22, 0, .null, []), (.iconst 0, 1, 0, 0, .int 0, []), (.ireturn, 1, 0, 0, .null, [])]]
def M_Draws_next : am_M := (⟨"SpiteLine$Draws", "next", "(I)I"⟩, prog_4_method_2_code, 2, (some .int), 2, (0, 0), K_Draws_next, [[0, 1, 2, 5, 6, 9, 10, 13, 14, 17, 18, 19, 22, 23, 26, 27], [30, 32, 33, 34, 35, 38, 39]])
def K_Sp_undo : List (List am_I) := [[(.iload_n 1, 1, 1, 0, .null, []), (.iconst 1, 1, 0, 0, .int 1, []), (.if_icmp .lt 9, 3, 6, 0, .null, []), (.iload_n 1, 1, 1, 0, .null, []), (.bipush 30, 2, 0, 0, .int 30, []), (.if_icmp .le 6, 3, 8, 0, .null, []), (.ldc 83, 2, 0, 0, .int (-1000000002), []), (.ireturn, 1, 0, 0, .null, []), (.aload_n 0, 1, 0, 0, .null, []), (.getfield 47, 3, 9, 6, .null, []), (.iload_n 1, 1, 1, 0, .null, []), (.aload_n 0, 1, 0, 0, .null, []), (.getfield 33, 3, 9, 3, .null, []), (.invokevirtual 214, 3, 61, 3, .null, []), (.ifCond .eq 13, 3, 19, 0, .null, []), (.aload_n 0, 1, 0, 0, .null, [])],
  [(.getfield 33, 3, 9, 3, .null, []), (.getfield 134, 3, 6, 5, .null, []), (.goto 5, 3, 20, 0, .null, []), (.ldc 203, 2, 0, 0, .int (-1000000003), []), (.ireturn, 1, 0, 0, .null, [])]]
def M_Sp_undo : am_M := (⟨"SpiteLine", "undo", "(I)I"⟩, prog_1_method_15_code, 2, (some .int), 9, (3, 69), K_Sp_undo, [[0, 1, 2, 5, 6, 8, 11, 13, 14, 15, 18, 19, 20, 23, 26, 29], [30, 33, 36, 39, 41]])
def K_Deeds_takeBack : List (List am_I) := [[(.iload_n 1, 1, 1, 0, .null, []), (.iconst 1, 1, 0, 0, .int 1, []), (.if_icmp .lt 11, 3, 7, 0, .null, []), (.iload_n 1, 1, 1, 0, .null, []), (.aload_n 0, 1, 0, 0, .null, []), (.getfield 21, 3, 1, 2, .null, []), (.if_icmp .le 5, 3, 9, 0, .null, []), (.iconst 0, 1, 0, 0, .int 0, []), (.ireturn, 1, 0, 0, .null, []), (.aload_n 0, 1, 0, 0, .null, []), (.dup, 1, 0, 0, .null, []), (.getfield 21, 3, 1, 2, .null, []), (.iload_n 1, 1, 1, 0, .null, []), (.isub, 1, 0, 0, .null, []), (.putfield 21, 3, 1, 2, .null, []), (.aload_n 2, 1, 2, 0, .null, [])],
  [(.aload_n 0, 1, 0, 0, .null, []), (.getfield 11, 3, 1, 0, .null, []), (.aload_n 0, 1, 0, 0, .null, []), (.getfield 17, 3, 1, 1, .null, []), (.aload_n 0, 1, 0, 0, .null, []), (.getfield 21, 3, 1, 2, .null, []), (.iadd, 1, 0, 0, .null, []), (.bipush 30, 2, 0, 0, .int 30, []), (.irem, 1, 0, 0, .null, []), (.aaload, 1, 0, 0, .null, []), (.invokevirtual 25, 3, 29, 2, .null, []), (.iconst 1, 1, 0, 0, .int 1, []), (.ireturn, 1, 0, 0, .null, [])]]
def M_Deeds_takeBack : am_M := (⟨"SpiteLine$Deeds", "takeBack", "(ILSpiteLine$Scene;)Z"⟩, prog_3_method_3_code, 3, (some .boolean), 1, (2, 47), K_Deeds_takeBack, [[0, 1, 2, 5, 6, 7, 10, 13, 14, 15, 16, 17, 20, 21, 22, 25], [26, 27, 30, 31, 34, 35, 38, 39, 41, 42, 43, 46, 47]])
def K_Sp_stops : List (List am_I) := [[(.aload_n 0, 1, 0, 0, .null, []), (.getfield 33, 3, 9, 3, .null, []), (.aload_n 0, 1, 0, 0, .null, []), (.getfield 26, 3, 9, 2, .null, []), (.iconst 0, 1, 0, 0, .int 0, []), (.invokevirtual 218, 3, 52, 3, .null, []), (.ireturn, 1, 0, 0, .null, [])]]
def M_Sp_stops : am_M := (⟨"SpiteLine", "stops", "()I"⟩, prog_1_method_16_code, 1, (some .int), 9, (4, 90), K_Sp_stops, [[0, 1, 4, 5, 8, 9, 12]])
def K_Sp_calm : List (List am_I) := [[(.iload_n 1, 1, 1, 0, .null, []), (.aload_n 0, 1, 0, 0, .null, []), (.getfield 26, 3, 9, 2, .null, []), (.invokevirtual 221, 3, 53, 1, .null, []), (.iconst (-1), 1, 0, 0, .int (-1), []), (.ixor, 1, 0, 0, .null, []), (.iand, 1, 0, 0, .null, []), (.ifCond .eq 6, 3, 10, 0, .null, []), (.ldc 151, 2, 0, 0, .int (-1000000001), []), (.ireturn, 1, 0, 0, .null, []), (.iconst 0, 1, 0, 0, .int 0, []), (.istore_n 2, 1, 2, 0, .null, []), (.iconst 0, 1, 0, 0, .int 0, []), (.istore_n 3, 1, 3, 0, .null, []), (.iload_n 3, 1, 3, 0, .null, []), (.aload_n 0, 1, 0, 0, .null, [])],
  [(.getfield 26, 3, 9, 2, .null, []), (.getfield 122, 3, 4, 2, .null, []), (.if_icmp .ge 56, 3, 48, 0, .null, []), (.iload_n 1, 1, 1, 0, .null, []), (.aload_n 0, 1, 0, 0, .null, []), (.getfield 33, 3, 9, 3, .null, []), (.getfield 152, 3, 6, 0, .null, []), (.iload_n 3, 1, 3, 0, .null, []), (.iaload, 1, 0, 0, .null, []), (.invokestatic 167, 3, 26, 2, .null, []), (.iconst 1, 1, 0, 0, .int 1, []), (.if_icmp .ne 33, 3, 46, 0, .null, []), (.iload_n 2, 1, 2, 0, .null, []), (.iconst 0, 1, 0, 0, .int 0, []), (.aload_n 0, 1, 0, 0, .null, []), (.getfield 33, 3, 9, 3, .null, [])],
  [(.iload_n 3, 1, 3, 0, .null, []), (.iconst 0, 1, 0, 0, .int 0, []), (.invokevirtual 174, 3, 33, 3, .null, []), (.aload_n 0, 1, 0, 0, .null, []), (.getfield 33, 3, 9, 3, .null, []), (.aload_n 0, 1, 0, 0, .null, []), (.getfield 26, 3, 9, 2, .null, []), (.invokevirtual 225, 3, 34, 2, .null, []), (.isub, 1, 0, 0, .null, []), (.iconst 1, 1, 0, 0, .int 1, []), (.iadd, 1, 0, 0, .null, []), (.invokestatic 228, 3, 1002, 0, .null, []), (.iadd, 1, 0, 0, .null, []), (.istore_n 2, 1, 2, 0, .null, []), (.iinc 3 1, 3, 3, 0, .int 1, []), (.goto (-61), 3, 14, 0, .null, [])],
  [(.iload_n 2, 1, 2, 0, .null, []), (.ireturn, 1, 0, 0, .null, [])]]
def M_Sp_calm : am_M := (⟨"SpiteLine", "calm", "(I)I"⟩, prog_1_method_17_code, 4, (some .int), 9, (2, 44), K_Sp_calm, [[0, 1, 2, 5, 8, 9, 10, 11, 14, 16, 17, 18, 19, 20, 21, 22], [23, 26, 29, 32, 33, 34, 37, 40, 41, 42, 45, 46, 49, 50, 51, 52], [55, 56, 57, 60, 61, 64, 65, 68, 71, 72, 73, 74, 77, 78, 79, 82], [85, 86]])
def K_Sp_journey : List (List am_I) := [[(.aload_n 0, 1, 0, 0, .null, []), (.getfield 26, 3, 9, 2, .null, []), (.iload_n 1, 1, 1, 0, .null, []), (.invokevirtual 148, 3, 38, 2, .null, []), (.ifCond .ne 6, 3, 7, 0, .null, []), (.ldc 151, 2, 0, 0, .int (-1000000001), []), (.ireturn, 1, 0, 0, .null, []), (.aload_n 0, 1, 0, 0, .null, []), (.getfield 37, 3, 9, 4, .null, []), (.aload_n 0, 1, 0, 0, .null, []), (.getfield 33, 3, 9, 3, .null, []), (.invokevirtual 110, 3, 29, 2, .null, []), (.iconst 0, 1, 0, 0, .int 0, []), (.istore_n 2, 1, 2, 0, .null, []), (.iload_n 2, 1, 2, 0, .null, []), (.bipush 20, 2, 0, 0, .int 20, [])],
  [(.if_icmp .gt 45, 3, 37, 0, .null, []), (.aload_n 0, 1, 0, 0, .null, []), (.getfield 37, 3, 9, 4, .null, []), (.aload_n 0, 1, 0, 0, .null, []), (.getfield 26, 3, 9, 2, .null, []), (.iload_n 1, 1, 1, 0, .null, []), (.invokevirtual 231, 3, 36, 3, .null, []), (.ifCond .eq 5, 3, 26, 0, .null, []), (.iload_n 2, 1, 2, 0, .null, []), (.ireturn, 1, 0, 0, .null, []), (.aload_n 0, 1, 0, 0, .null, []), (.getfield 37, 3, 9, 4, .null, []), (.aload_n 0, 1, 0, 0, .null, []), (.getfield 26, 3, 9, 2, .null, []), (.aload_n 0, 1, 0, 0, .null, []), (.getfield 26, 3, 9, 2, .null, [])],
  [(.getfield 158, 3, 4, 4, .null, []), (.iconst 0, 1, 0, 0, .int 0, []), (.invokevirtual 207, 3, 51, 4, .null, []), (.iinc 2 1, 3, 2, 0, .int 1, []), (.goto (-45), 3, 14, 0, .null, []), (.iconst (-1), 1, 0, 0, .int (-1), []), (.ireturn, 1, 0, 0, .null, [])]]
def M_Sp_journey : am_M := (⟨"SpiteLine", "journey", "(I)I"⟩, prog_1_method_18_code, 3, (some .int), 9, (5, 115), K_Sp_journey, [[0, 1, 4, 5, 8, 11, 13, 14, 15, 18, 19, 22, 25, 26, 27, 28], [30, 33, 34, 37, 38, 41, 42, 45, 48, 49, 50, 51, 54, 55, 58, 59], [62, 65, 66, 69, 72, 75, 76]])
def K_Sp_never : List (List am_I) := [[(.iload_n 1, 1, 1, 0, .null, []), (.ifCond .lt 9, 3, 5, 0, .null, []), (.iload_n 1, 1, 1, 0, .null, []), (.bipush 20, 2, 0, 0, .int 20, []), (.if_icmp .le 6, 3, 7, 0, .null, []), (.ldc 83, 2, 0, 0, .int (-1000000002), []), (.ireturn, 1, 0, 0, .null, []), (.aload_n 0, 1, 0, 0, .null, []), (.getfield 37, 3, 9, 4, .null, []), (.aload_n 0, 1, 0, 0, .null, []), (.getfield 33, 3, 9, 3, .null, []), (.invokevirtual 110, 3, 29, 2, .null, []), (.aload_n 0, 1, 0, 0, .null, []), (.getfield 26, 3, 9, 2, .null, []), (.invokevirtual 221, 3, 53, 1, .null, []), (.istore_n 2, 1, 2, 0, .null, [])],
  [(.iconst 0, 1, 0, 0, .int 0, []), (.istore_n 3, 1, 3, 0, .null, []), (.iload_n 3, 1, 3, 0, .null, []), (.iload_n 1, 1, 1, 0, .null, []), (.if_icmp .ge 40, 3, 40, 0, .null, []), (.aload_n 0, 1, 0, 0, .null, []), (.getfield 37, 3, 9, 4, .null, []), (.aload_n 0, 1, 0, 0, .null, []), (.getfield 26, 3, 9, 2, .null, []), (.aload_n 0, 1, 0, 0, .null, []), (.getfield 26, 3, 9, 2, .null, []), (.getfield 158, 3, 4, 4, .null, []), (.iconst 0, 1, 0, 0, .int 0, []), (.invokevirtual 207, 3, 51, 4, .null, []), (.iload_n 2, 1, 2, 0, .null, []), (.aload_n 0, 1, 0, 0, .null, [])],
  [(.getfield 37, 3, 9, 4, .null, []), (.getfield 137, 3, 6, 6, .null, []), (.iconst (-1), 1, 0, 0, .int (-1), []), (.ixor, 1, 0, 0, .null, []), (.iand, 1, 0, 0, .null, []), (.istore_n 2, 1, 2, 0, .null, []), (.iinc 3 1, 3, 3, 0, .int 1, []), (.goto (-39), 3, 18, 0, .null, []), (.iload_n 2, 1, 2, 0, .null, []), (.ireturn, 1, 0, 0, .null, [])]]
def M_Sp_never : am_M := (⟨"SpiteLine", "never", "(I)I"⟩, prog_1_method_19_code, 4, (some .int), 9, (5, 115), K_Sp_never, [[0, 1, 4, 5, 7, 10, 12, 13, 14, 17, 18, 21, 24, 25, 28, 31], [32, 33, 34, 35, 36, 39, 40, 43, 44, 47, 48, 51, 54, 55, 58, 59], [60, 63, 66, 67, 68, 69, 70, 73, 76, 77]])
def K_Sp_cut : List (List am_I) := [[(.aload_n 0, 1, 0, 0, .null, []), (.getfield 26, 3, 9, 2, .null, []), (.iload_n 1, 1, 1, 0, .null, []), (.invokevirtual 148, 3, 38, 2, .null, []), (.ifCond .ne 6, 3, 7, 0, .null, []), (.ldc 151, 2, 0, 0, .int (-1000000001), []), (.ireturn, 1, 0, 0, .null, []), (.aload_n 0, 1, 0, 0, .null, []), (.getfield 33, 3, 9, 3, .null, []), (.aload_n 0, 1, 0, 0, .null, []), (.getfield 26, 3, 9, 2, .null, []), (.iload_n 1, 1, 1, 0, .null, []), (.invokevirtual 231, 3, 36, 3, .null, []), (.ifCond .eq 5, 3, 16, 0, .null, []), (.iconst (-1), 1, 0, 0, .int (-1), []), (.ireturn, 1, 0, 0, .null, [])],
  [(.aload_n 0, 1, 0, 0, .null, []), (.iload_n 1, 1, 1, 0, .null, []), (.iconst 0, 1, 0, 0, .int 0, []), (.invokevirtual 235, 3, 67, 3, .null, []), (.ifCond .ne 5, 3, 23, 0, .null, []), (.iconst 0, 1, 0, 0, .int 0, []), (.ireturn, 1, 0, 0, .null, []), (.iconst 0, 1, 0, 0, .int 0, []), (.istore_n 2, 1, 2, 0, .null, []), (.iload_n 2, 1, 2, 0, .null, []), (.aload_n 0, 1, 0, 0, .null, []), (.getfield 26, 3, 9, 2, .null, []), (.getfield 125, 3, 4, 0, .null, []), (.if_icmp .ge 24, 3, 43, 0, .null, []), (.aload_n 0, 1, 0, 0, .null, []), (.iload_n 1, 1, 1, 0, .null, [])],
  [(.iconst 1, 1, 0, 0, .int 1, []), (.iload_n 2, 1, 2, 0, .null, []), (.ishl, 1, 0, 0, .null, []), (.invokevirtual 235, 3, 67, 3, .null, []), (.ifCond .ne 7, 3, 41, 0, .null, []), (.iconst 1, 1, 0, 0, .int 1, []), (.iload_n 2, 1, 2, 0, .null, []), (.ishl, 1, 0, 0, .null, []), (.ireturn, 1, 0, 0, .null, []), (.iinc 2 1, 3, 2, 0, .int 1, []), (.goto (-29), 3, 25, 0, .null, []), (.iconst (-1), 1, 0, 0, .int (-1), []), (.ireturn, 1, 0, 0, .null, [])]]
def M_Sp_cut : am_M := (⟨"SpiteLine", "cut", "(I)I"⟩, prog_1_method_20_code, 3, (some .int), 9, (6, 137), K_Sp_cut, [[0, 1, 4, 5, 8, 11, 13, 14, 15, 18, 19, 22, 23, 26, 29, 30], [31, 32, 33, 34, 37, 40, 41, 42, 43, 44, 45, 46, 49, 52, 55, 56], [57, 58, 59, 60, 63, 66, 67, 68, 69, 70, 73, 76, 77]])
def K_Sp_arrivesThough : List (List am_I) := [[(.aload_n 0, 1, 0, 0, .null, []), (.getfield 37, 3, 9, 4, .null, []), (.aload_n 0, 1, 0, 0, .null, []), (.getfield 33, 3, 9, 3, .null, []), (.invokevirtual 110, 3, 29, 2, .null, []), (.aload_n 0, 1, 0, 0, .null, []), (.getfield 37, 3, 9, 4, .null, []), (.aload_n 0, 1, 0, 0, .null, []), (.getfield 26, 3, 9, 2, .null, []), (.aload_n 0, 1, 0, 0, .null, []), (.getfield 26, 3, 9, 2, .null, []), (.getfield 158, 3, 4, 4, .null, []), (.iload_n 2, 1, 2, 0, .null, []), (.invokevirtual 207, 3, 51, 4, .null, []), (.aload_n 0, 1, 0, 0, .null, []), (.getfield 37, 3, 9, 4, .null, [])],
  [(.aload_n 0, 1, 0, 0, .null, []), (.getfield 26, 3, 9, 2, .null, []), (.iload_n 1, 1, 1, 0, .null, []), (.invokevirtual 231, 3, 36, 3, .null, []), (.ireturn, 1, 0, 0, .null, [])]]
def M_Sp_arrivesThough : am_M := (⟨"SpiteLine", "arrivesThough", "(II)Z"⟩, prog_1_method_37_code, 3, (some .boolean), 9, (5, 115), K_Sp_arrivesThough, [[0, 1, 4, 5, 8, 11, 12, 15, 16, 19, 20, 23, 26, 27, 30, 31], [34, 35, 38, 39, 42]])
def K_Sp_aunts : List (List am_I) := [[(.aload_n 0, 1, 0, 0, .null, []), (.getfield 26, 3, 9, 2, .null, []), (.iload_n 1, 1, 1, 0, .null, []), (.invokevirtual 148, 3, 38, 2, .null, []), (.ifCond .eq 14, 3, 10, 0, .null, []), (.aload_n 0, 1, 0, 0, .null, []), (.getfield 26, 3, 9, 2, .null, []), (.iload_n 2, 1, 2, 0, .null, []), (.invokevirtual 177, 3, 40, 2, .null, []), (.ifCond .ne 6, 3, 12, 0, .null, []), (.ldc 151, 2, 0, 0, .int (-1000000001), []), (.ireturn, 1, 0, 0, .null, []), (.iconst 0, 1, 0, 0, .int 0, []), (.istore_n 3, 1, 3, 0, .null, []), (.iconst 0, 1, 0, 0, .int 0, []), (.istore 4, 2, 4, 0, .null, [])],
  [(.iload 4, 2, 4, 0, .null, []), (.aload_n 0, 1, 0, 0, .null, []), (.getfield 26, 3, 9, 2, .null, []), (.getfield 122, 3, 4, 2, .null, []), (.if_icmp .ge 33, 3, 38, 0, .null, []), (.iload 4, 2, 4, 0, .null, []), (.iload_n 1, 1, 1, 0, .null, []), (.if_icmp .eq 21, 3, 36, 0, .null, []), (.aload_n 0, 1, 0, 0, .null, []), (.iload_n 1, 1, 1, 0, .null, []), (.iload 4, 2, 4, 0, .null, []), (.invokevirtual 239, 3, 69, 3, .null, []), (.iload_n 2, 1, 2, 0, .null, []), (.if_icmp .ne 10, 3, 36, 0, .null, []), (.iload_n 3, 1, 3, 0, .null, []), (.iconst 1, 1, 0, 0, .int 1, [])],
  [(.iload 4, 2, 4, 0, .null, []), (.ishl, 1, 0, 0, .null, []), (.ior, 1, 0, 0, .null, []), (.istore_n 3, 1, 3, 0, .null, []), (.iinc 4 1, 3, 4, 0, .int 1, []), (.goto (-39), 3, 16, 0, .null, []), (.aload_n 0, 1, 0, 0, .null, []), (.iload_n 1, 1, 1, 0, .null, []), (.iconst (-1), 1, 0, 0, .int (-1), []), (.invokevirtual 239, 3, 69, 3, .null, []), (.iload_n 2, 1, 2, 0, .null, []), (.if_icmp .ne 9, 3, 48, 0, .null, []), (.iload_n 3, 1, 3, 0, .null, []), (.sipush 256, 3, 0, 0, .int 256, []), (.ior, 1, 0, 0, .null, []), (.istore_n 3, 1, 3, 0, .null, [])],
  [(.iload_n 3, 1, 3, 0, .null, []), (.ireturn, 1, 0, 0, .null, [])]]
def M_Sp_aunts : am_M := (⟨"SpiteLine", "aunts", "(II)I"⟩, prog_1_method_21_code, 5, (some .int), 9, (6, 137), K_Sp_aunts, [[0, 1, 4, 5, 8, 11, 12, 15, 16, 19, 22, 24, 25, 26, 27, 28], [30, 32, 33, 36, 39, 42, 44, 45, 48, 49, 50, 52, 55, 56, 59, 60], [61, 63, 64, 65, 66, 69, 72, 73, 74, 75, 78, 79, 82, 83, 86, 87], [88, 89]])
def K_Sp_endsAt : List (List am_I) := [[(.aload_n 0, 1, 0, 0, .null, []), (.getfield 26, 3, 9, 2, .null, []), (.getfield 158, 3, 4, 4, .null, []), (.iconst 0, 1, 0, 0, .int 0, []), (.aload_n 0, 1, 0, 0, .null, []), (.getfield 40, 3, 9, 5, .null, []), (.iconst 0, 1, 0, 0, .int 0, []), (.bipush 8, 2, 0, 0, .int 8, []), (.invokestatic 281, 3, 1001, 0, .null, []), (.aload_n 0, 1, 0, 0, .null, []), (.getfield 40, 3, 9, 5, .null, []), (.iload_n 1, 1, 1, 0, .null, []), (.iload_n 2, 1, 2, 0, .null, []), (.iastore, 1, 0, 0, .null, []), (.aload_n 0, 1, 0, 0, .null, []), (.getfield 37, 3, 9, 4, .null, [])],
  [(.aload_n 0, 1, 0, 0, .null, []), (.getfield 33, 3, 9, 3, .null, []), (.invokevirtual 110, 3, 29, 2, .null, []), (.aload_n 0, 1, 0, 0, .null, []), (.getfield 37, 3, 9, 4, .null, []), (.aload_n 0, 1, 0, 0, .null, []), (.getfield 26, 3, 9, 2, .null, []), (.aload_n 0, 1, 0, 0, .null, []), (.getfield 40, 3, 9, 5, .null, []), (.iconst 0, 1, 0, 0, .int 0, []), (.invokevirtual 207, 3, 51, 4, .null, []), (.aload_n 0, 1, 0, 0, .null, []), (.getfield 37, 3, 9, 4, .null, []), (.getfield 152, 3, 6, 0, .null, []), (.iload_n 1, 1, 1, 0, .null, []), (.iaload, 1, 0, 0, .null, [])],
  [(.ireturn, 1, 0, 0, .null, [])]]
def M_Sp_endsAt : am_M := (⟨"SpiteLine", "endsAt", "(II)I"⟩, prog_1_method_38_code, 3, (some .int), 9, (5, 115), K_Sp_endsAt, [[0, 1, 4, 7, 8, 9, 12, 13, 15, 18, 19, 22, 23, 24, 25, 26], [29, 30, 33, 36, 37, 40, 41, 44, 45, 48, 49, 52, 53, 56, 59, 60], [61]])
def K_Sp_chance : List (List am_I) := [[(.aload_n 0, 1, 0, 0, .null, []), (.getfield 26, 3, 9, 2, .null, []), (.iload_n 1, 1, 1, 0, .null, []), (.invokevirtual 177, 3, 40, 2, .null, []), (.ifCond .ne 6, 3, 7, 0, .null, []), (.ldc 151, 2, 0, 0, .int (-1000000001), []), (.ireturn, 1, 0, 0, .null, []), (.iload_n 2, 1, 2, 0, .null, []), (.ifCond .lt 9, 3, 12, 0, .null, []), (.iload_n 2, 1, 2, 0, .null, []), (.bipush 100, 2, 0, 0, .int 100, []), (.if_icmp .le 6, 3, 14, 0, .null, []), (.ldc 83, 2, 0, 0, .int (-1000000002), []), (.ireturn, 1, 0, 0, .null, []), (.ldc2_w 242, 3, 0, 0, .long 1000000000, []), (.lstore_n 3, 1, 3, 0, .null, [])],
  [(.iconst 0, 1, 0, 0, .int 0, []), (.istore 5, 2, 5, 0, .null, []), (.iload 5, 2, 5, 0, .null, []), (.aload_n 0, 1, 0, 0, .null, []), (.getfield 26, 3, 9, 2, .null, []), (.getfield 122, 3, 4, 2, .null, []), (.if_icmp .ge 55, 3, 51, 0, .null, []), (.aload_n 0, 1, 0, 0, .null, []), (.getfield 33, 3, 9, 3, .null, []), (.getfield 152, 3, 6, 0, .null, []), (.iload 5, 2, 5, 0, .null, []), (.iaload, 1, 0, 0, .null, []), (.iload_n 1, 1, 1, 0, .null, []), (.if_icmp .ne 35, 3, 49, 0, .null, []), (.bipush 100, 2, 0, 0, .int 100, []), (.iload_n 2, 1, 2, 0, .null, [])],
  [(.aload_n 0, 1, 0, 0, .null, []), (.getfield 33, 3, 9, 3, .null, []), (.iload 5, 2, 5, 0, .null, []), (.iconst 0, 1, 0, 0, .int 0, []), (.invokevirtual 174, 3, 33, 3, .null, []), (.imul, 1, 0, 0, .null, []), (.invokestatic 244, 3, 1003, 0, .null, []), (.istore 6, 2, 6, 0, .null, []), (.lload_n 3, 1, 3, 0, .null, []), (.bipush 100, 2, 0, 0, .int 100, []), (.iload 6, 2, 6, 0, .null, []), (.isub, 1, 0, 0, .null, []), (.i2l, 1, 0, 0, .null, []), (.lmul, 1, 0, 0, .null, []), (.ldc2_w 247, 3, 0, 0, .long 100, []), (.ldiv, 1, 0, 0, .null, [])],
  [(.lstore_n 3, 1, 3, 0, .null, []), (.iinc 5 1, 3, 5, 0, .int 1, []), (.goto (-61), 3, 18, 0, .null, []), (.lload_n 3, 1, 3, 0, .null, []), (.l2i, 1, 0, 0, .null, []), (.ireturn, 1, 0, 0, .null, [])]]
def M_Sp_chance : am_M := (⟨"SpiteLine", "chance", "(II)I"⟩, prog_1_method_22_code, 7, (some .int), 9, (2, 44), K_Sp_chance, [[0, 1, 4, 5, 8, 11, 13, 14, 15, 18, 19, 21, 24, 26, 27, 30], [31, 32, 34, 36, 37, 40, 43, 46, 47, 50, 53, 55, 56, 57, 60, 62], [63, 64, 67, 69, 70, 73, 74, 77, 79, 80, 82, 84, 85, 86, 87, 90], [91, 92, 95, 98, 99, 100]])
def K_Sp_ran : List (List am_I) := [[(.aload_n 0, 1, 0, 0, .null, []), (.getfield 26, 3, 9, 2, .null, []), (.iload_n 1, 1, 1, 0, .null, []), (.invokevirtual 177, 3, 40, 2, .null, []), (.ifCond .ne 6, 3, 7, 0, .null, []), (.ldc 151, 2, 0, 0, .int (-1000000001), []), (.ireturn, 1, 0, 0, .null, []), (.aload_n 0, 1, 0, 0, .null, []), (.getfield 54, 3, 9, 7, .null, []), (.iload_n 1, 1, 1, 0, .null, []), (.iload_n 2, 1, 2, 0, .null, []), (.invokevirtual 249, 3, 72, 3, .null, []), (.ifCond .eq 13, 3, 17, 0, .null, []), (.aload_n 0, 1, 0, 0, .null, []), (.getfield 54, 3, 9, 7, .null, []), (.getfield 116, 3, 8, 2, .null, [])],
  [(.goto 5, 3, 18, 0, .null, []), (.ldc 91, 2, 0, 0, .int (-1000000004), []), (.ireturn, 1, 0, 0, .null, [])]]
def M_Sp_ran : am_M := (⟨"SpiteLine", "ran", "(IZ)I"⟩, prog_1_method_23_code, 3, (some .int), 9, (1, 22), K_Sp_ran, [[0, 1, 4, 5, 8, 11, 13, 14, 15, 18, 19, 20, 23, 26, 27, 30], [33, 36, 38]])
def K_Witness_add : List (List am_I) := [[(.aload_n 0, 1, 0, 0, .null, []), (.getfield 19, 3, 8, 2, .null, []), (.ifCond .lt 12, 3, 7, 0, .null, []), (.aload_n 0, 1, 0, 0, .null, []), (.getfield 19, 3, 8, 2, .null, []), (.bipush 8, 2, 0, 0, .int 8, []), (.if_icmp .lt 5, 3, 9, 0, .null, []), (.iconst 0, 1, 0, 0, .int 0, []), (.ireturn, 1, 0, 0, .null, []), (.aload_n 0, 1, 0, 0, .null, []), (.getfield 9, 3, 8, 0, .null, []), (.aload_n 0, 1, 0, 0, .null, []), (.getfield 19, 3, 8, 2, .null, []), (.iload_n 1, 1, 1, 0, .null, []), (.iastore, 1, 0, 0, .null, []), (.aload_n 0, 1, 0, 0, .null, [])],
  [(.getfield 15, 3, 8, 1, .null, []), (.aload_n 0, 1, 0, 0, .null, []), (.getfield 19, 3, 8, 2, .null, []), (.iload_n 2, 1, 2, 0, .null, []), (.bastore, 1, 0, 0, .null, []), (.aload_n 0, 1, 0, 0, .null, []), (.dup, 1, 0, 0, .null, []), (.getfield 19, 3, 8, 2, .null, []), (.iconst 1, 1, 0, 0, .int 1, []), (.iadd, 1, 0, 0, .null, []), (.putfield 19, 3, 8, 2, .null, []), (.iconst 1, 1, 0, 0, .int 1, []), (.ireturn, 1, 0, 0, .null, [])]]
def M_Witness_add : am_M := (⟨"SpiteLine$Witness", "add", "(IZ)Z"⟩, prog_10_method_2_code, 3, (some .boolean), 8, (0, 0), K_Witness_add, [[0, 1, 4, 7, 8, 11, 13, 16, 17, 18, 19, 22, 23, 26, 27, 28], [29, 32, 33, 36, 37, 38, 39, 40, 43, 44, 45, 48, 49]])
def K_Sp_hoped : List (List am_I) := [[(.aload_n 0, 1, 0, 0, .null, []), (.getfield 54, 3, 9, 7, .null, []), (.aload_n 0, 1, 0, 0, .null, []), (.getfield 26, 3, 9, 2, .null, []), (.aload_n 0, 1, 0, 0, .null, []), (.getfield 33, 3, 9, 3, .null, []), (.invokevirtual 252, 3, 74, 3, .null, []), (.istore_n 2, 1, 2, 0, .null, []), (.iload_n 1, 1, 1, 0, .null, []), (.iconst (-1), 1, 0, 0, .int (-1), []), (.if_icmp .ne 5, 3, 13, 0, .null, []), (.iload_n 2, 1, 2, 0, .null, []), (.ireturn, 1, 0, 0, .null, []), (.iload_n 1, 1, 1, 0, .null, []), (.ifCond .lt 20, 3, 24, 0, .null, []), (.iload_n 1, 1, 1, 0, .null, [])],
  [(.iload_n 2, 1, 2, 0, .null, []), (.if_icmp .ge 15, 3, 24, 0, .null, []), (.aload_n 0, 1, 0, 0, .null, []), (.getfield 54, 3, 9, 7, .null, []), (.getfield 256, 3, 8, 3, .null, []), (.iload_n 1, 1, 1, 0, .null, []), (.iaload, 1, 0, 0, .null, []), (.goto 4, 3, 25, 0, .null, []), (.iconst (-1), 1, 0, 0, .int (-1), []), (.ireturn, 1, 0, 0, .null, [])]]
def M_Sp_hoped : am_M := (⟨"SpiteLine", "hoped", "(I)I"⟩, prog_1_method_24_code, 3, (some .int), 9, (6, 137), K_Sp_hoped, [[0, 1, 4, 5, 8, 9, 12, 15, 16, 17, 18, 21, 22, 23, 24, 27], [28, 29, 32, 33, 36, 39, 40, 41, 44, 45]])
def K_Witness_find : List (List am_I) := [[(.aload_n 0, 1, 0, 0, .null, []), (.iconst 0, 1, 0, 0, .int 0, []), (.putfield 26, 3, 8, 4, .null, []), (.aload_n 0, 1, 0, 0, .null, []), (.aload_n 1, 1, 1, 0, .null, []), (.aload_n 2, 1, 2, 0, .null, []), (.iconst 0, 1, 0, 0, .int 0, []), (.invokevirtual 29, 3, 75, 4, .null, []), (.iconst 0, 1, 0, 0, .int 0, []), (.istore_n 3, 1, 3, 0, .null, []), (.iload_n 3, 1, 3, 0, .null, []), (.aload_n 1, 1, 1, 0, .null, []), (.getfield 33, 3, 4, 2, .null, []), (.if_icmp .ge 18, 3, 23, 0, .null, []), (.aload_n 0, 1, 0, 0, .null, []), (.aload_n 1, 1, 1, 0, .null, [])],
  [(.aload_n 2, 1, 2, 0, .null, []), (.iconst 1, 1, 0, 0, .int 1, []), (.iload_n 3, 1, 3, 0, .null, []), (.ishl, 1, 0, 0, .null, []), (.invokevirtual 29, 3, 75, 4, .null, []), (.iinc 3 1, 3, 3, 0, .int 1, []), (.goto (-20), 3, 10, 0, .null, []), (.iconst 1, 1, 0, 0, .int 1, []), (.istore_n 3, 1, 3, 0, .null, []), (.iload_n 3, 1, 3, 0, .null, []), (.aload_n 1, 1, 1, 0, .null, []), (.getfield 33, 3, 4, 2, .null, []), (.if_icmp .ge 38, 3, 49, 0, .null, []), (.iconst 0, 1, 0, 0, .int 0, []), (.istore 4, 2, 4, 0, .null, []), (.iload 4, 2, 4, 0, .null, [])],
  [(.iload_n 3, 1, 3, 0, .null, []), (.if_icmp .ge 23, 3, 47, 0, .null, []), (.aload_n 0, 1, 0, 0, .null, []), (.aload_n 1, 1, 1, 0, .null, []), (.aload_n 2, 1, 2, 0, .null, []), (.iconst 1, 1, 0, 0, .int 1, []), (.iload_n 3, 1, 3, 0, .null, []), (.ishl, 1, 0, 0, .null, []), (.iconst 1, 1, 0, 0, .int 1, []), (.iload 4, 2, 4, 0, .null, []), (.ishl, 1, 0, 0, .null, []), (.ior, 1, 0, 0, .null, []), (.invokevirtual 29, 3, 75, 4, .null, []), (.iinc 4 1, 3, 4, 0, .int 1, []), (.goto (-23), 3, 31, 0, .null, []), (.iinc 3 1, 3, 3, 0, .int 1, [])],
  [(.goto (-40), 3, 25, 0, .null, []), (.aload_n 0, 1, 0, 0, .null, []), (.getfield 26, 3, 8, 4, .null, []), (.ireturn, 1, 0, 0, .null, [])]]
def M_Witness_find : am_M := (⟨"SpiteLine$Witness", "find", "(LSpiteLine$Line;LSpiteLine$Scene;)I"⟩, prog_10_method_3_code, 5, (some .int), 8, (5, 113), K_Witness_find, [[0, 1, 2, 5, 6, 7, 8, 9, 12, 13, 14, 15, 16, 19, 22, 23], [24, 25, 26, 27, 28, 31, 34, 37, 38, 39, 40, 41, 44, 47, 48, 50], [52, 53, 56, 57, 58, 59, 60, 61, 62, 63, 65, 66, 67, 70, 73, 76], [79, 82, 83, 86]])
def K_Witness_tryHopeful : List (List am_I) := [[(.aload_n 0, 1, 0, 0, .null, []), (.getfield 26, 3, 8, 4, .null, []), (.bipush 37, 2, 0, 0, .int 37, []), (.if_icmp .ge 36, 3, 23, 0, .null, []), (.aload_n 0, 1, 0, 0, .null, []), (.aload_n 2, 1, 2, 0, .null, []), (.aload_n 1, 1, 1, 0, .null, []), (.iload_n 3, 1, 3, 0, .null, []), (.invokevirtual 38, 3, 52, 3, .null, []), (.invokevirtual 44, 3, 76, 2, .null, []), (.ifCond .eq 23, 3, 23, 0, .null, []), (.aload_n 0, 1, 0, 0, .null, []), (.getfield 23, 3, 8, 3, .null, []), (.aload_n 0, 1, 0, 0, .null, []), (.getfield 26, 3, 8, 4, .null, []), (.iload_n 3, 1, 3, 0, .null, [])],
  [(.iastore, 1, 0, 0, .null, []), (.aload_n 0, 1, 0, 0, .null, []), (.dup, 1, 0, 0, .null, []), (.getfield 26, 3, 8, 4, .null, []), (.iconst 1, 1, 0, 0, .int 1, []), (.iadd, 1, 0, 0, .null, []), (.putfield 26, 3, 8, 4, .null, []), (.return_, 1, 0, 0, .null, [])]]
def M_Witness_tryHopeful : am_M := (⟨"SpiteLine$Witness", "tryHopeful", "(LSpiteLine$Line;LSpiteLine$Scene;I)V"⟩, prog_10_method_4_code, 4, none, 8, (4, 90), K_Witness_tryHopeful, [[0, 1, 4, 6, 9, 10, 11, 12, 13, 16, 19, 22, 23, 26, 27, 30], [31, 32, 33, 34, 37, 38, 39, 42]])
def K_Witness_fits : List (List am_I) := [[(.iconst 0, 1, 0, 0, .int 0, []), (.istore_n 2, 1, 2, 0, .null, []), (.iload_n 2, 1, 2, 0, .null, []), (.aload_n 0, 1, 0, 0, .null, []), (.getfield 19, 3, 8, 2, .null, []), (.if_icmp .ge 39, 3, 26, 0, .null, []), (.iload_n 1, 1, 1, 0, .null, []), (.aload_n 0, 1, 0, 0, .null, []), (.getfield 9, 3, 8, 0, .null, []), (.iload_n 2, 1, 2, 0, .null, []), (.iaload, 1, 0, 0, .null, []), (.invokestatic 48, 3, 26, 2, .null, []), (.iconst 1, 1, 0, 0, .int 1, []), (.if_icmp .ne 7, 3, 16, 0, .null, []), (.iconst 1, 1, 0, 0, .int 1, []), (.goto 4, 3, 17, 0, .null, [])],
  [(.iconst 0, 1, 0, 0, .int 0, []), (.aload_n 0, 1, 0, 0, .null, []), (.getfield 15, 3, 8, 1, .null, []), (.iload_n 2, 1, 2, 0, .null, []), (.baload, 1, 0, 0, .null, []), (.if_icmp .eq 5, 3, 24, 0, .null, []), (.iconst 0, 1, 0, 0, .int 0, []), (.ireturn, 1, 0, 0, .null, []), (.iinc 2 1, 3, 2, 0, .int 1, []), (.goto (-41), 3, 2, 0, .null, []), (.iconst 1, 1, 0, 0, .int 1, []), (.ireturn, 1, 0, 0, .null, [])]]
def M_Witness_fits : am_M := (⟨"SpiteLine$Witness", "fits", "(I)Z"⟩, prog_10_method_5_code, 3, (some .boolean), 8, (1, 21), K_Witness_fits, [[0, 1, 2, 3, 4, 7, 10, 11, 12, 15, 16, 17, 20, 21, 24, 25], [28, 29, 30, 33, 34, 35, 38, 39, 40, 43, 46, 47]])
def K_Sp_sure : List (List am_I) := [[(.aload_n 0, 1, 0, 0, .null, []), (.getfield 54, 3, 9, 7, .null, []), (.aload_n 0, 1, 0, 0, .null, []), (.getfield 26, 3, 9, 2, .null, []), (.aload_n 0, 1, 0, 0, .null, []), (.getfield 33, 3, 9, 3, .null, []), (.invokevirtual 252, 3, 74, 3, .null, []), (.istore_n 1, 1, 1, 0, .null, []), (.iload_n 1, 1, 1, 0, .null, []), (.ifCond .ne 5, 3, 12, 0, .null, []), (.iconst 0, 1, 0, 0, .int 0, []), (.ireturn, 1, 0, 0, .null, []), (.aload_n 0, 1, 0, 0, .null, []), (.getfield 26, 3, 9, 2, .null, []), (.invokevirtual 259, 3, 78, 1, .null, []), (.istore_n 2, 1, 2, 0, .null, [])],
  [(.iconst 0, 1, 0, 0, .int 0, []), (.istore_n 3, 1, 3, 0, .null, []), (.iload_n 3, 1, 3, 0, .null, []), (.iload_n 1, 1, 1, 0, .null, []), (.if_icmp .ge 21, 3, 31, 0, .null, []), (.iload_n 2, 1, 2, 0, .null, []), (.aload_n 0, 1, 0, 0, .null, []), (.getfield 54, 3, 9, 7, .null, []), (.getfield 256, 3, 8, 3, .null, []), (.iload_n 3, 1, 3, 0, .null, []), (.iaload, 1, 0, 0, .null, []), (.iand, 1, 0, 0, .null, []), (.istore_n 2, 1, 2, 0, .null, []), (.iinc 3 1, 3, 3, 0, .int 1, []), (.goto (-20), 3, 18, 0, .null, []), (.iload_n 2, 1, 2, 0, .null, [])],
  [(.ireturn, 1, 0, 0, .null, [])]]
def M_Sp_sure : am_M := (⟨"SpiteLine", "sure", "()I"⟩, prog_1_method_25_code, 4, (some .int), 9, (6, 137), K_Sp_sure, [[0, 1, 4, 5, 8, 9, 12, 15, 16, 17, 20, 21, 22, 23, 26, 29], [30, 31, 32, 33, 34, 37, 38, 39, 42, 45, 46, 47, 48, 49, 52, 55], [56]])
def K_Line_allPersons : List (List am_I) := [[(.iconst 1, 1, 0, 0, .int 1, []), (.aload_n 0, 1, 0, 0, .null, []), (.getfield 18, 3, 4, 2, .null, []), (.ishl, 1, 0, 0, .null, []), (.iconst 1, 1, 0, 0, .int 1, []), (.isub, 1, 0, 0, .null, []), (.ireturn, 1, 0, 0, .null, [])]]
def M_Line_allPersons : am_M := (⟨"SpiteLine$Line", "allPersons", "()I"⟩, prog_6_method_8_code, 1, (some .int), 4, (0, 0), K_Line_allPersons, [[0, 1, 2, 5, 6, 7, 8]])
def K_Sp_look : List (List am_I) := [[(.aload_n 0, 1, 0, 0, .null, []), (.getfield 54, 3, 9, 7, .null, []), (.aload_n 0, 1, 0, 0, .null, []), (.getfield 26, 3, 9, 2, .null, []), (.aload_n 0, 1, 0, 0, .null, []), (.getfield 33, 3, 9, 3, .null, []), (.invokevirtual 252, 3, 74, 3, .null, []), (.istore_n 1, 1, 1, 0, .null, []), (.iconst (-1), 1, 0, 0, .int (-1), []), (.istore_n 2, 1, 2, 0, .null, []), (.iload_n 1, 1, 1, 0, .null, []), (.istore_n 3, 1, 3, 0, .null, []), (.iconst 0, 1, 0, 0, .int 0, []), (.istore 4, 2, 4, 0, .null, []), (.iload 4, 2, 4, 0, .null, []), (.aload_n 0, 1, 0, 0, .null, [])],
  [(.getfield 26, 3, 9, 2, .null, []), (.getfield 122, 3, 4, 2, .null, []), (.if_icmp .ge 32, 3, 33, 0, .null, []), (.aload_n 0, 1, 0, 0, .null, []), (.getfield 54, 3, 9, 7, .null, []), (.iload 4, 2, 4, 0, .null, []), (.invokevirtual 262, 3, 80, 2, .null, []), (.istore 5, 2, 5, 0, .null, []), (.iload 5, 2, 5, 0, .null, []), (.iload_n 3, 1, 3, 0, .null, []), (.if_icmp .ge 9, 3, 31, 0, .null, []), (.iload 5, 2, 5, 0, .null, []), (.istore_n 3, 1, 3, 0, .null, []), (.iload 4, 2, 4, 0, .null, []), (.istore_n 2, 1, 2, 0, .null, []), (.iinc 4 1, 3, 4, 0, .int 1, [])],
  [(.goto (-38), 3, 14, 0, .null, []), (.iload_n 2, 1, 2, 0, .null, []), (.ireturn, 1, 0, 0, .null, [])]]
def M_Sp_look : am_M := (⟨"SpiteLine", "look", "()I"⟩, prog_1_method_26_code, 6, (some .int), 9, (6, 137), K_Sp_look, [[0, 1, 4, 5, 8, 9, 12, 15, 16, 17, 18, 19, 20, 21, 23, 25], [26, 29, 32, 35, 36, 39, 41, 44, 46, 48, 49, 52, 54, 55, 57, 58], [61, 64, 65]])
def K_Witness_greatestPart : List (List am_I) := [[(.iconst 0, 1, 0, 0, .int 0, []), (.istore_n 2, 1, 2, 0, .null, []), (.iconst 0, 1, 0, 0, .int 0, []), (.istore_n 3, 1, 3, 0, .null, []), (.iload_n 3, 1, 3, 0, .null, []), (.aload_n 0, 1, 0, 0, .null, []), (.getfield 26, 3, 8, 4, .null, []), (.if_icmp .ge 22, 3, 19, 0, .null, []), (.iload_n 2, 1, 2, 0, .null, []), (.aload_n 0, 1, 0, 0, .null, []), (.getfield 23, 3, 8, 3, .null, []), (.iload_n 3, 1, 3, 0, .null, []), (.iaload, 1, 0, 0, .null, []), (.iload_n 1, 1, 1, 0, .null, []), (.invokestatic 48, 3, 26, 2, .null, []), (.iadd, 1, 0, 0, .null, [])],
  [(.istore_n 2, 1, 2, 0, .null, []), (.iinc 3 1, 3, 3, 0, .int 1, []), (.goto (-24), 3, 4, 0, .null, []), (.iload_n 2, 1, 2, 0, .null, []), (.aload_n 0, 1, 0, 0, .null, []), (.getfield 26, 3, 8, 4, .null, []), (.iload_n 2, 1, 2, 0, .null, []), (.isub, 1, 0, 0, .null, []), (.invokestatic 52, 3, 1002, 0, .null, []), (.ireturn, 1, 0, 0, .null, [])]]
def M_Witness_greatestPart : am_M := (⟨"SpiteLine$Witness", "greatestPart", "(I)I"⟩, prog_10_method_6_code, 4, (some .int), 8, (1, 21), K_Witness_greatestPart, [[0, 1, 2, 3, 4, 5, 6, 9, 12, 13, 14, 17, 18, 19, 20, 23], [24, 25, 28, 31, 32, 33, 36, 37, 38, 41]])
def K_Sp_write : List (List am_I) := [[(.aload_n 0, 1, 0, 0, .null, []), (.getfield 26, 3, 9, 2, .null, []), (.iload_n 1, 1, 1, 0, .null, []), (.invokevirtual 148, 3, 38, 2, .null, []), (.ifCond .eq 14, 3, 10, 0, .null, []), (.aload_n 0, 1, 0, 0, .null, []), (.getfield 26, 3, 9, 2, .null, []), (.iload_n 2, 1, 2, 0, .null, []), (.invokevirtual 177, 3, 40, 2, .null, []), (.ifCond .ne 6, 3, 12, 0, .null, []), (.ldc 151, 2, 0, 0, .int (-1000000001), []), (.ireturn, 1, 0, 0, .null, []), (.aload_n 0, 1, 0, 0, .null, []), (.getfield 61, 3, 9, 8, .null, []), (.iload_n 1, 1, 1, 0, .null, []), (.iload_n 2, 1, 2, 0, .null, [])],
  [(.invokevirtual 265, 3, 82, 3, .null, []), (.ifCond .eq 13, 3, 22, 0, .null, []), (.aload_n 0, 1, 0, 0, .null, []), (.getfield 61, 3, 9, 8, .null, []), (.getfield 117, 3, 0, 2, .null, []), (.goto 5, 3, 23, 0, .null, []), (.ldc 91, 2, 0, 0, .int (-1000000004), []), (.ireturn, 1, 0, 0, .null, [])]]
def M_Sp_write : am_M := (⟨"SpiteLine", "write", "(II)I"⟩, prog_1_method_27_code, 3, (some .int), 9, (1, 22), K_Sp_write, [[0, 1, 4, 5, 8, 11, 12, 15, 16, 19, 22, 24, 25, 26, 29, 30], [31, 34, 37, 38, 41, 44, 47, 49]])
def K_Book_add : List (List am_I) := [[(.aload_n 0, 1, 0, 0, .null, []), (.getfield 18, 3, 0, 2, .null, []), (.ifCond .lt 12, 3, 7, 0, .null, []), (.aload_n 0, 1, 0, 0, .null, []), (.getfield 18, 3, 0, 2, .null, []), (.bipush 20, 2, 0, 0, .int 20, []), (.if_icmp .lt 5, 3, 9, 0, .null, []), (.iconst 0, 1, 0, 0, .int 0, []), (.ireturn, 1, 0, 0, .null, []), (.aload_n 0, 1, 0, 0, .null, []), (.getfield 9, 3, 0, 0, .null, []), (.aload_n 0, 1, 0, 0, .null, []), (.getfield 18, 3, 0, 2, .null, []), (.iload_n 1, 1, 1, 0, .null, []), (.iastore, 1, 0, 0, .null, []), (.aload_n 0, 1, 0, 0, .null, [])],
  [(.getfield 15, 3, 0, 1, .null, []), (.aload_n 0, 1, 0, 0, .null, []), (.getfield 18, 3, 0, 2, .null, []), (.iload_n 2, 1, 2, 0, .null, []), (.iastore, 1, 0, 0, .null, []), (.aload_n 0, 1, 0, 0, .null, []), (.dup, 1, 0, 0, .null, []), (.getfield 18, 3, 0, 2, .null, []), (.iconst 1, 1, 0, 0, .int 1, []), (.iadd, 1, 0, 0, .null, []), (.putfield 18, 3, 0, 2, .null, []), (.iconst 1, 1, 0, 0, .int 1, []), (.ireturn, 1, 0, 0, .null, [])]]
def M_Book_add : am_M := (⟨"SpiteLine$Book", "add", "(II)Z"⟩, prog_2_method_2_code, 3, (some .boolean), 0, (0, 0), K_Book_add, [[0, 1, 4, 7, 8, 11, 13, 16, 17, 18, 19, 22, 23, 26, 27, 28], [29, 32, 33, 36, 37, 38, 39, 40, 43, 44, 45, 48, 49]])
def K_Sp_judge : List (List am_I) := [[(.aload_n 0, 1, 0, 0, .null, []), (.getfield 61, 3, 9, 8, .null, []), (.aload_n 0, 1, 0, 0, .null, []), (.getfield 33, 3, 9, 3, .null, []), (.invokevirtual 267, 3, 84, 2, .null, []), (.ireturn, 1, 0, 0, .null, [])]]
def M_Sp_judge : am_M := (⟨"SpiteLine", "judge", "()I"⟩, prog_1_method_28_code, 1, (some .int), 9, (1, 22), K_Sp_judge, [[0, 1, 4, 5, 8, 11]])
def K_Book_firstWrong : List (List am_I) := [[(.iconst 0, 1, 0, 0, .int 0, []), (.istore_n 2, 1, 2, 0, .null, []), (.iload_n 2, 1, 2, 0, .null, []), (.aload_n 0, 1, 0, 0, .null, []), (.getfield 18, 3, 0, 2, .null, []), (.if_icmp .ge 31, 3, 22, 0, .null, []), (.aload_n 1, 1, 1, 0, .null, []), (.getfield 22, 3, 6, 0, .null, []), (.aload_n 0, 1, 0, 0, .null, []), (.getfield 9, 3, 0, 0, .null, []), (.iload_n 2, 1, 2, 0, .null, []), (.iaload, 1, 0, 0, .null, []), (.iaload, 1, 0, 0, .null, []), (.aload_n 0, 1, 0, 0, .null, []), (.getfield 15, 3, 0, 1, .null, []), (.iload_n 2, 1, 2, 0, .null, [])],
  [(.iaload, 1, 0, 0, .null, []), (.if_icmp .eq 5, 3, 20, 0, .null, []), (.iload_n 2, 1, 2, 0, .null, []), (.ireturn, 1, 0, 0, .null, []), (.iinc 2 1, 3, 2, 0, .int 1, []), (.goto (-33), 3, 2, 0, .null, []), (.iconst (-1), 1, 0, 0, .int (-1), []), (.ireturn, 1, 0, 0, .null, [])]]
def M_Book_firstWrong : am_M := (⟨"SpiteLine$Book", "firstWrong", "(LSpiteLine$Scene;)I"⟩, prog_2_method_3_code, 3, (some .int), 0, (0, 0), K_Book_firstWrong, [[0, 1, 2, 3, 4, 7, 10, 11, 14, 15, 18, 19, 20, 21, 22, 25], [26, 27, 30, 31, 32, 35, 38, 39]])
def K_Sp_tear : List (List am_I) := [[(.aload_n 0, 1, 0, 0, .null, []), (.getfield 54, 3, 9, 7, .null, []), (.getfield 116, 3, 8, 2, .null, []), (.aload_n 0, 1, 0, 0, .null, []), (.getfield 61, 3, 9, 8, .null, []), (.getfield 117, 3, 0, 2, .null, []), (.iadd, 1, 0, 0, .null, []), (.istore_n 1, 1, 1, 0, .null, []), (.aload_n 0, 1, 0, 0, .null, []), (.getfield 54, 3, 9, 7, .null, []), (.iconst 0, 1, 0, 0, .int 0, []), (.putfield 116, 3, 8, 2, .null, []), (.aload_n 0, 1, 0, 0, .null, []), (.getfield 61, 3, 9, 8, .null, []), (.iconst 0, 1, 0, 0, .int 0, []), (.putfield 117, 3, 0, 2, .null, [])],
  [(.iload_n 1, 1, 1, 0, .null, []), (.ireturn, 1, 0, 0, .null, [])]]
def M_Sp_tear : am_M := (⟨"SpiteLine", "tear", "()I"⟩, prog_1_method_29_code, 2, (some .int), 9, (0, 0), K_Sp_tear, [[0, 1, 4, 7, 8, 11, 14, 15, 16, 17, 20, 21, 24, 25, 28, 29], [32, 33]])
def K_Sp_seed : List (List am_I) := [[(.iload_n 1, 1, 1, 0, .null, []), (.ifCond .ge 6, 3, 4, 0, .null, []), (.ldc 83, 2, 0, 0, .int (-1000000002), []), (.ireturn, 1, 0, 0, .null, []), (.aload_n 0, 1, 0, 0, .null, []), (.getfield 68, 3, 9, 9, .null, []), (.getfield 271, 3, 2, 0, .null, []), (.istore_n 2, 1, 2, 0, .null, []), (.aload_n 0, 1, 0, 0, .null, []), (.getfield 68, 3, 9, 9, .null, []), (.iload_n 1, 1, 1, 0, .null, []), (.putfield 271, 3, 2, 0, .null, []), (.iload_n 2, 1, 2, 0, .null, []), (.ireturn, 1, 0, 0, .null, [])]]
def M_Sp_seed : am_M := (⟨"SpiteLine", "seed", "(I)I"⟩, prog_1_method_30_code, 3, (some .int), 9, (0, 0), K_Sp_seed, [[0, 1, 4, 6, 7, 8, 11, 14, 15, 16, 19, 20, 23, 24]])
def K_Sp_keep : List (List am_I) := [[(.iload_n 1, 1, 1, 0, .null, []), (.ifCond .lt 8, 3, 5, 0, .null, []), (.iload_n 1, 1, 1, 0, .null, []), (.iconst 2, 1, 0, 0, .int 2, []), (.if_icmp .lt 6, 3, 7, 0, .null, []), (.ldc 151, 2, 0, 0, .int (-1000000001), []), (.ireturn, 1, 0, 0, .null, []), (.aload_n 0, 1, 0, 0, .null, []), (.getfield 74, 3, 9, 10, .null, []), (.iload_n 1, 1, 1, 0, .null, []), (.aaload, 1, 0, 0, .null, []), (.getfield 274, 3, 3, 0, .null, []), (.aload_n 0, 1, 0, 0, .null, []), (.getfield 33, 3, 9, 3, .null, []), (.invokevirtual 110, 3, 29, 2, .null, []), (.aload_n 0, 1, 0, 0, .null, [])],
  [(.getfield 74, 3, 9, 10, .null, []), (.iload_n 1, 1, 1, 0, .null, []), (.aaload, 1, 0, 0, .null, []), (.aload_n 0, 1, 0, 0, .null, []), (.getfield 68, 3, 9, 9, .null, []), (.getfield 271, 3, 2, 0, .null, []), (.putfield 275, 3, 3, 1, .null, []), (.aload_n 0, 1, 0, 0, .null, []), (.getfield 74, 3, 9, 10, .null, []), (.iload_n 1, 1, 1, 0, .null, []), (.aaload, 1, 0, 0, .null, []), (.iconst 1, 1, 0, 0, .int 1, []), (.putfield 118, 3, 3, 2, .null, []), (.aload_n 0, 1, 0, 0, .null, []), (.getfield 47, 3, 9, 6, .null, []), (.iconst 0, 1, 0, 0, .int 0, [])],
  [(.putfield 113, 3, 1, 2, .null, []), (.iconst 1, 1, 0, 0, .int 1, []), (.ireturn, 1, 0, 0, .null, [])]]
def M_Sp_keep : am_M := (⟨"SpiteLine", "keep", "(I)I"⟩, prog_1_method_31_code, 2, (some .int), 9, (2, 47), K_Sp_keep, [[0, 1, 4, 5, 6, 9, 11, 12, 13, 16, 17, 18, 21, 22, 25, 28], [29, 32, 33, 34, 35, 38, 41, 44, 45, 48, 49, 50, 51, 54, 55, 58], [59, 62, 63]])
def K_Sp_goBack : List (List am_I) := [[(.iload_n 1, 1, 1, 0, .null, []), (.ifCond .lt 8, 3, 5, 0, .null, []), (.iload_n 1, 1, 1, 0, .null, []), (.iconst 2, 1, 0, 0, .int 2, []), (.if_icmp .lt 6, 3, 7, 0, .null, []), (.ldc 151, 2, 0, 0, .int (-1000000001), []), (.ireturn, 1, 0, 0, .null, []), (.aload_n 0, 1, 0, 0, .null, []), (.getfield 74, 3, 9, 10, .null, []), (.iload_n 1, 1, 1, 0, .null, []), (.aaload, 1, 0, 0, .null, []), (.getfield 118, 3, 3, 2, .null, []), (.ifCond .ne 6, 3, 15, 0, .null, []), (.ldc 203, 2, 0, 0, .int (-1000000003), []), (.ireturn, 1, 0, 0, .null, []), (.aload_n 0, 1, 0, 0, .null, [])],
  [(.getfield 33, 3, 9, 3, .null, []), (.aload_n 0, 1, 0, 0, .null, []), (.getfield 74, 3, 9, 10, .null, []), (.iload_n 1, 1, 1, 0, .null, []), (.aaload, 1, 0, 0, .null, []), (.getfield 274, 3, 3, 0, .null, []), (.invokevirtual 110, 3, 29, 2, .null, []), (.aload_n 0, 1, 0, 0, .null, []), (.getfield 68, 3, 9, 9, .null, []), (.aload_n 0, 1, 0, 0, .null, []), (.getfield 74, 3, 9, 10, .null, []), (.iload_n 1, 1, 1, 0, .null, []), (.aaload, 1, 0, 0, .null, []), (.getfield 275, 3, 3, 1, .null, []), (.putfield 271, 3, 2, 0, .null, []), (.aload_n 0, 1, 0, 0, .null, [])],
  [(.getfield 47, 3, 9, 6, .null, []), (.iconst 0, 1, 0, 0, .int 0, []), (.putfield 113, 3, 1, 2, .null, []), (.iconst 1, 1, 0, 0, .int 1, []), (.ireturn, 1, 0, 0, .null, [])]]
def M_Sp_goBack : am_M := (⟨"SpiteLine", "goBack", "(I)I"⟩, prog_1_method_32_code, 2, (some .int), 9, (2, 47), K_Sp_goBack, [[0, 1, 4, 5, 6, 9, 11, 12, 13, 16, 17, 18, 21, 24, 26, 27], [28, 31, 32, 35, 36, 37, 40, 43, 44, 47, 48, 51, 52, 53, 56, 59], [60, 63, 64, 67, 68]])
def K_Mo_init : List (List am_I) := [[(.aload_n 0, 1, 0, 0, .null, []), (.invokespecial 1, 3, 1000, 0, .null, []), (.aload_n 0, 1, 0, 0, .null, []), (.sipush 200, 3, 0, 0, .int 200, []), (.newarray .int, 2, 0, 0, .null, []), (.putfield 7, 3, 10, 0, .null, []), (.aload_n 0, 1, 0, 0, .null, []), (.iconst 3, 1, 0, 0, .int 3, []), (.newarray .int, 2, 0, 0, .null, []), (.putfield 13, 3, 10, 7, .null, []), (.aload_n 0, 1, 0, 0, .null, []), (.bipush 40, 2, 0, 0, .int 40, []), (.newarray .int, 2, 0, 0, .null, []), (.putfield 16, 3, 10, 8, .null, []), (.aload_n 0, 1, 0, 0, .null, []), (.bipush 8, 2, 0, 0, .int 8, [])],
  [(.newarray .int, 2, 0, 0, .null, []), (.putfield 19, 3, 10, 15, .null, []), (.aload_n 0, 1, 0, 0, .null, []), (.bipush 8, 2, 0, 0, .int 8, []), (.newarray .int, 2, 0, 0, .null, []), (.putfield 22, 3, 10, 16, .null, []), (.aload_n 0, 1, 0, 0, .null, []), (.bipush 8, 2, 0, 0, .int 8, []), (.newarray .int, 2, 0, 0, .null, []), (.putfield 25, 3, 10, 17, .null, []), (.aload_n 0, 1, 0, 0, .null, []), (.bipush 8, 2, 0, 0, .int 8, []), (.newarray .int, 2, 0, 0, .null, []), (.putfield 28, 3, 10, 18, .null, []), (.aload_n 0, 1, 0, 0, .null, []), (.bipush 8, 2, 0, 0, .int 8, [])],
  [(.newarray .int, 2, 0, 0, .null, []), (.putfield 31, 3, 10, 19, .null, []), (.aload_n 0, 1, 0, 0, .null, []), (.bipush 8, 2, 0, 0, .int 8, []), (.newarray .int, 2, 0, 0, .null, []), (.putfield 34, 3, 10, 20, .null, []), (.aload_n 0, 1, 0, 0, .null, []), (.sipush 1080, 3, 0, 0, .int 1080, []), (.newarray .int, 2, 0, 0, .null, []), (.putfield 37, 3, 10, 21, .null, []), (.aload_n 0, 1, 0, 0, .null, []), (.bipush 36, 2, 0, 0, .int 36, []), (.newarray .int, 2, 0, 0, .null, []), (.putfield 40, 3, 10, 23, .null, []), (.aload_n 0, 1, 0, 0, .null, []), (.bipush 8, 2, 0, 0, .int 8, [])],
  [(.newarray .int, 2, 0, 0, .null, []), (.putfield 43, 3, 10, 25, .null, []), (.aload_n 0, 1, 0, 0, .null, []), (.bipush 8, 2, 0, 0, .int 8, []), (.newarray .int, 2, 0, 0, .null, []), (.putfield 46, 3, 10, 26, .null, []), (.aload_n 0, 1, 0, 0, .null, []), (.bipush 37, 2, 0, 0, .int 37, []), (.newarray .int, 2, 0, 0, .null, []), (.putfield 49, 3, 10, 28, .null, []), (.aload_n 0, 1, 0, 0, .null, []), (.bipush 40, 2, 0, 0, .int 40, []), (.newarray .int, 2, 0, 0, .null, []), (.putfield 52, 3, 10, 30, .null, []), (.aload_n 0, 1, 0, 0, .null, []), (.bipush 72, 2, 0, 0, .int 72, [])],
  [(.newarray .int, 2, 0, 0, .null, []), (.putfield 55, 3, 10, 32, .null, []), (.aload_n 0, 1, 0, 0, .null, []), (.iconst 2, 1, 0, 0, .int 2, []), (.newarray .long, 2, 0, 0, .null, []), (.putfield 58, 3, 10, 33, .null, []), (.aload_n 0, 1, 0, 0, .null, []), (.iconst 2, 1, 0, 0, .int 2, []), (.newarray .int, 2, 0, 0, .null, []), (.putfield 62, 3, 10, 34, .null, []), (.aload_n 0, 1, 0, 0, .null, []), (.iconst (-1), 1, 0, 0, .int (-1), []), (.putfield 65, 3, 10, 2, .null, []), (.return_, 1, 0, 0, .null, [])]]
def M_Mo_init : am_M := (⟨"SpiteLineModel", "<init>", "()V"⟩, prog_12_method_1_code, 1, none, 10, (1, 20), K_Mo_init, [[0, 1, 4, 5, 8, 10, 13, 14, 15, 17, 20, 21, 23, 25, 28, 29], [31, 33, 36, 37, 39, 41, 44, 45, 47, 49, 52, 53, 55, 57, 60, 61], [63, 65, 68, 69, 71, 73, 76, 77, 80, 82, 85, 86, 88, 90, 93, 94], [96, 98, 101, 102, 104, 106, 109, 110, 112, 114, 117, 118, 120, 122, 125, 126], [128, 130, 133, 134, 135, 137, 140, 141, 142, 144, 147, 148, 149, 152]])
def K_Mo_feed : List (List am_I) := [[(.iload_n 1, 1, 1, 0, .null, []), (.iconst 0, 1, 0, 0, .int 0, []), (.sipush 255, 3, 0, 0, .int 255, []), (.invokestatic 69, 3, 91, 3, .null, []), (.ifCond .ne 6, 3, 7, 0, .null, []), (.ldc 73, 2, 0, 0, .int (-1000000002), []), (.ireturn, 1, 0, 0, .null, []), (.aload_n 0, 1, 0, 0, .null, []), (.getfield 74, 3, 10, 1, .null, []), (.sipush 200, 3, 0, 0, .int 200, []), (.if_icmp .ne 6, 3, 13, 0, .null, []), (.ldc 77, 2, 0, 0, .int (-1000000004), []), (.ireturn, 1, 0, 0, .null, []), (.aload_n 0, 1, 0, 0, .null, []), (.getfield 7, 3, 10, 0, .null, []), (.aload_n 0, 1, 0, 0, .null, [])],
  [(.getfield 74, 3, 10, 1, .null, []), (.iload_n 1, 1, 1, 0, .null, []), (.iastore, 1, 0, 0, .null, []), (.aload_n 0, 1, 0, 0, .null, []), (.dup, 1, 0, 0, .null, []), (.getfield 74, 3, 10, 1, .null, []), (.iconst 1, 1, 0, 0, .int 1, []), (.iadd, 1, 0, 0, .null, []), (.putfield 74, 3, 10, 1, .null, []), (.aload_n 0, 1, 0, 0, .null, []), (.getfield 74, 3, 10, 1, .null, []), (.ireturn, 1, 0, 0, .null, [])]]
def M_Mo_feed : am_M := (⟨"SpiteLineModel", "feed", "(I)I"⟩, prog_12_method_5_code, 2, (some .int), 10, (1, 22), K_Mo_feed, [[0, 1, 2, 5, 8, 11, 13, 14, 15, 18, 21, 24, 26, 27, 28, 31], [32, 35, 36, 37, 38, 39, 42, 43, 44, 47, 48, 51]])
def K_Mo_in : List (List am_I) := [[(.iload_n 0, 1, 0, 0, .null, []), (.iload_n 1, 1, 1, 0, .null, []), (.if_icmp .lt 12, 3, 8, 0, .null, []), (.iload_n 0, 1, 0, 0, .null, []), (.iload_n 2, 1, 2, 0, .null, []), (.if_icmp .gt 7, 3, 8, 0, .null, []), (.iconst 1, 1, 0, 0, .int 1, []), (.goto 4, 3, 9, 0, .null, []), (.iconst 0, 1, 0, 0, .int 0, []), (.ireturn, 1, 0, 0, .null, [])]]
def M_Mo_in : am_M := (⟨"SpiteLineModel", "in", "(III)Z"⟩, prog_12_method_2_code, 3, (some .boolean), 10, (0, 0), K_Mo_in, [[0, 1, 2, 5, 6, 7, 10, 11, 14, 15]])
def K_Mo_line : List (List am_I) := [[(.aload_n 0, 1, 0, 0, .null, []), (.iconst 0, 1, 0, 0, .int 0, []), (.putfield 78, 3, 10, 3, .null, []), (.aload_n 0, 1, 0, 0, .null, []), (.invokevirtual 88, 3, 93, 1, .null, []), (.aload_n 0, 1, 0, 0, .null, []), (.getfield 78, 3, 10, 3, .null, []), (.aload_n 0, 1, 0, 0, .null, []), (.getfield 74, 3, 10, 1, .null, []), (.if_icmp .ne 7, 3, 12, 0, .null, []), (.iconst 1, 1, 0, 0, .int 1, []), (.goto 4, 3, 13, 0, .null, []), (.iconst 0, 1, 0, 0, .int 0, []), (.istore_n 1, 1, 1, 0, .null, []), (.iload_n 1, 1, 1, 0, .null, []), (.ifCond .ne 10, 3, 19, 0, .null, [])],
  [(.aload_n 0, 1, 0, 0, .null, []), (.invokevirtual 118, 3, 95, 1, .null, []), (.ifCond .eq 7, 3, 21, 0, .null, []), (.iconst 1, 1, 0, 0, .int 1, []), (.goto 4, 3, 22, 0, .null, []), (.iconst 0, 1, 0, 0, .int 0, []), (.istore_n 2, 1, 2, 0, .null, []), (.aload_n 0, 1, 0, 0, .null, []), (.iconst 0, 1, 0, 0, .int 0, []), (.putfield 74, 3, 10, 1, .null, []), (.iload_n 2, 1, 2, 0, .null, []), (.ifCond .ne 19, 3, 37, 0, .null, []), (.aload_n 0, 1, 0, 0, .null, []), (.aload_n 0, 1, 0, 0, .null, []), (.getfield 78, 3, 10, 3, .null, []), (.putfield 65, 3, 10, 2, .null, [])],
  [(.bipush (-10), 2, 0, 0, .int (-10), []), (.aload_n 0, 1, 0, 0, .null, []), (.getfield 85, 3, 10, 4, .null, []), (.isub, 1, 0, 0, .null, []), (.ireturn, 1, 0, 0, .null, []), (.aload_n 0, 1, 0, 0, .null, []), (.iconst (-1), 1, 0, 0, .int (-1), []), (.putfield 65, 3, 10, 2, .null, []), (.aload_n 0, 1, 0, 0, .null, []), (.iload_n 1, 1, 1, 0, .null, []), (.ifCond .eq 7, 3, 45, 0, .null, []), (.iconst 0, 1, 0, 0, .int 0, []), (.goto 9, 3, 49, 0, .null, []), (.aload_n 0, 1, 0, 0, .null, []), (.getfield 13, 3, 10, 7, .null, []), (.iconst 0, 1, 0, 0, .int 0, [])],
  [(.iaload, 1, 0, 0, .null, []), (.putfield 121, 3, 10, 9, .null, []), (.aload_n 0, 1, 0, 0, .null, []), (.iload_n 1, 1, 1, 0, .null, []), (.ifCond .eq 7, 3, 55, 0, .null, []), (.iconst 0, 1, 0, 0, .int 0, []), (.goto 9, 3, 59, 0, .null, []), (.aload_n 0, 1, 0, 0, .null, []), (.getfield 13, 3, 10, 7, .null, []), (.iconst 1, 1, 0, 0, .int 1, []), (.iaload, 1, 0, 0, .null, []), (.putfield 124, 3, 10, 10, .null, []), (.aload_n 0, 1, 0, 0, .null, []), (.iload_n 1, 1, 1, 0, .null, []), (.ifCond .eq 7, 3, 65, 0, .null, []), (.iconst 0, 1, 0, 0, .int 0, [])],
  [(.goto 9, 3, 69, 0, .null, []), (.aload_n 0, 1, 0, 0, .null, []), (.getfield 13, 3, 10, 7, .null, []), (.iconst 2, 1, 0, 0, .int 2, []), (.iaload, 1, 0, 0, .null, []), (.putfield 127, 3, 10, 11, .null, []), (.aload_n 0, 1, 0, 0, .null, []), (.iload_n 1, 1, 1, 0, .null, []), (.ifCond .eq 7, 3, 75, 0, .null, []), (.iconst 0, 1, 0, 0, .int 0, []), (.goto 7, 3, 77, 0, .null, []), (.aload_n 0, 1, 0, 0, .null, []), (.getfield 105, 3, 10, 6, .null, []), (.putfield 130, 3, 10, 12, .null, []), (.iconst 0, 1, 0, 0, .int 0, []), (.istore_n 3, 1, 3, 0, .null, [])],
  [(.iload_n 3, 1, 3, 0, .null, []), (.aload_n 0, 1, 0, 0, .null, []), (.getfield 130, 3, 10, 12, .null, []), (.if_icmp .ge 107, 3, 160, 0, .null, []), (.aload_n 0, 1, 0, 0, .null, []), (.getfield 19, 3, 10, 15, .null, []), (.iload_n 3, 1, 3, 0, .null, []), (.aload_n 0, 1, 0, 0, .null, []), (.getfield 16, 3, 10, 8, .null, []), (.iconst 5, 1, 0, 0, .int 5, []), (.iload_n 3, 1, 3, 0, .null, []), (.imul, 1, 0, 0, .null, []), (.iaload, 1, 0, 0, .null, []), (.iastore, 1, 0, 0, .null, []), (.aload_n 0, 1, 0, 0, .null, []), (.getfield 22, 3, 10, 16, .null, [])],
  [(.iload_n 3, 1, 3, 0, .null, []), (.aload_n 0, 1, 0, 0, .null, []), (.getfield 16, 3, 10, 8, .null, []), (.iconst 5, 1, 0, 0, .int 5, []), (.iload_n 3, 1, 3, 0, .null, []), (.imul, 1, 0, 0, .null, []), (.iconst 1, 1, 0, 0, .int 1, []), (.iadd, 1, 0, 0, .null, []), (.iaload, 1, 0, 0, .null, []), (.iastore, 1, 0, 0, .null, []), (.aload_n 0, 1, 0, 0, .null, []), (.getfield 25, 3, 10, 17, .null, []), (.iload_n 3, 1, 3, 0, .null, []), (.aload_n 0, 1, 0, 0, .null, []), (.getfield 16, 3, 10, 8, .null, []), (.iconst 5, 1, 0, 0, .int 5, [])],
  [(.iload_n 3, 1, 3, 0, .null, []), (.imul, 1, 0, 0, .null, []), (.iconst 2, 1, 0, 0, .int 2, []), (.iadd, 1, 0, 0, .null, []), (.iaload, 1, 0, 0, .null, []), (.iastore, 1, 0, 0, .null, []), (.aload_n 0, 1, 0, 0, .null, []), (.getfield 28, 3, 10, 18, .null, []), (.iload_n 3, 1, 3, 0, .null, []), (.aload_n 0, 1, 0, 0, .null, []), (.getfield 16, 3, 10, 8, .null, []), (.iconst 5, 1, 0, 0, .int 5, []), (.iload_n 3, 1, 3, 0, .null, []), (.imul, 1, 0, 0, .null, []), (.iconst 3, 1, 0, 0, .int 3, []), (.iadd, 1, 0, 0, .null, [])],
  [(.iaload, 1, 0, 0, .null, []), (.iastore, 1, 0, 0, .null, []), (.aload_n 0, 1, 0, 0, .null, []), (.getfield 31, 3, 10, 19, .null, []), (.iload_n 3, 1, 3, 0, .null, []), (.aload_n 0, 1, 0, 0, .null, []), (.getfield 16, 3, 10, 8, .null, []), (.iconst 5, 1, 0, 0, .int 5, []), (.iload_n 3, 1, 3, 0, .null, []), (.imul, 1, 0, 0, .null, []), (.iconst 4, 1, 0, 0, .int 4, []), (.iadd, 1, 0, 0, .null, []), (.iaload, 1, 0, 0, .null, []), (.iconst 2, 1, 0, 0, .int 2, []), (.irem, 1, 0, 0, .null, []), (.iastore, 1, 0, 0, .null, [])],
  [(.aload_n 0, 1, 0, 0, .null, []), (.getfield 34, 3, 10, 20, .null, []), (.iload_n 3, 1, 3, 0, .null, []), (.aload_n 0, 1, 0, 0, .null, []), (.getfield 16, 3, 10, 8, .null, []), (.iconst 5, 1, 0, 0, .int 5, []), (.iload_n 3, 1, 3, 0, .null, []), (.imul, 1, 0, 0, .null, []), (.iconst 4, 1, 0, 0, .int 4, []), (.iadd, 1, 0, 0, .null, []), (.iaload, 1, 0, 0, .null, []), (.iconst 2, 1, 0, 0, .int 2, []), (.idiv, 1, 0, 0, .null, []), (.iastore, 1, 0, 0, .null, []), (.iinc 3 1, 3, 3, 0, .int 1, []), (.goto (-109), 3, 80, 0, .null, [])],
  [(.aload_n 0, 1, 0, 0, .null, []), (.iconst 0, 1, 0, 0, .int 0, []), (.putfield 133, 3, 10, 13, .null, []), (.aload_n 0, 1, 0, 0, .null, []), (.iconst 0, 1, 0, 0, .int 0, []), (.putfield 136, 3, 10, 14, .null, []), (.aload_n 0, 1, 0, 0, .null, []), (.iconst 0, 1, 0, 0, .int 0, []), (.putfield 139, 3, 10, 22, .null, []), (.aload_n 0, 1, 0, 0, .null, []), (.iconst 0, 1, 0, 0, .int 0, []), (.putfield 142, 3, 10, 27, .null, []), (.aload_n 0, 1, 0, 0, .null, []), (.iconst 0, 1, 0, 0, .int 0, []), (.putfield 145, 3, 10, 31, .null, []), (.aload_n 0, 1, 0, 0, .null, [])],
  [(.getfield 62, 3, 10, 34, .null, []), (.iconst 0, 1, 0, 0, .int 0, []), (.iconst 0, 1, 0, 0, .int 0, []), (.iastore, 1, 0, 0, .null, []), (.aload_n 0, 1, 0, 0, .null, []), (.getfield 62, 3, 10, 34, .null, []), (.iconst 1, 1, 0, 0, .int 1, []), (.iconst 0, 1, 0, 0, .int 0, []), (.iastore, 1, 0, 0, .null, []), (.aload_n 0, 1, 0, 0, .null, []), (.getfield 130, 3, 10, 12, .null, []), (.ireturn, 1, 0, 0, .null, [])]]
def M_Mo_line : am_M := (⟨"SpiteLineModel", "line", "()I"⟩, prog_12_method_15_code, 4, (some .int), 10, (6, 130), K_Mo_line, [[0, 1, 2, 5, 6, 9, 10, 13, 14, 17, 20, 21, 24, 25, 26, 27], [30, 31, 34, 37, 38, 41, 42, 43, 44, 45, 48, 49, 52, 53, 54, 57], [60, 62, 63, 66, 67, 68, 69, 70, 73, 74, 75, 78, 79, 82, 83, 86], [87, 88, 91, 92, 93, 96, 97, 100, 101, 104, 105, 106, 109, 110, 111, 114], [115, 118, 119, 122, 123, 124, 127, 128, 129, 132, 133, 136, 137, 140, 143, 144], [145, 146, 147, 150, 153, 154, 157, 158, 159, 162, 163, 164, 165, 166, 167, 168], [171, 172, 173, 176, 177, 178, 179, 180, 181, 182, 183, 184, 187, 188, 189, 192], [193, 194, 195, 196, 197, 198, 199, 200, 203, 204, 205, 208, 209, 210, 211, 212], [213, 214, 215, 216, 219, 220, 221, 224, 225, 226, 227, 228, 229, 230, 231, 232], [233, 234, 237, 238, 239, 242, 243, 244, 245, 246, 247, 248, 249, 250, 251, 254], [257, 258, 259, 262, 263, 264, 267, 268, 269, 272, 273, 274, 277, 278, 279, 282], [283, 286, 287, 288, 289, 290, 293, 294, 295, 296, 297, 300]])
def K_Mo_skip : List (List am_I) := [[(.aload_n 0, 1, 0, 0, .null, []), (.invokevirtual 81, 3, 94, 1, .null, []), (.bipush 32, 2, 0, 0, .int 32, []), (.if_icmp .ne 16, 3, 11, 0, .null, []), (.aload_n 0, 1, 0, 0, .null, []), (.dup, 1, 0, 0, .null, []), (.getfield 78, 3, 10, 3, .null, []), (.iconst 1, 1, 0, 0, .int 1, []), (.iadd, 1, 0, 0, .null, []), (.putfield 78, 3, 10, 3, .null, []), (.goto (-19), 3, 0, 0, .null, []), (.return_, 1, 0, 0, .null, [])]]
def M_Mo_skip : am_M := (⟨"SpiteLineModel", "skip", "()V"⟩, prog_12_method_7_code, 1, none, 10, (1, 20), K_Mo_skip, [[0, 1, 4, 6, 9, 10, 11, 14, 15, 16, 19, 22]])
def K_Mo_here : List (List am_I) := [[(.aload_n 0, 1, 0, 0, .null, []), (.getfield 78, 3, 10, 3, .null, []), (.aload_n 0, 1, 0, 0, .null, []), (.getfield 74, 3, 10, 1, .null, []), (.if_icmp .ge 15, 3, 11, 0, .null, []), (.aload_n 0, 1, 0, 0, .null, []), (.getfield 7, 3, 10, 0, .null, []), (.aload_n 0, 1, 0, 0, .null, []), (.getfield 78, 3, 10, 3, .null, []), (.iaload, 1, 0, 0, .null, []), (.goto 4, 3, 12, 0, .null, []), (.iconst (-1), 1, 0, 0, .int (-1), []), (.ireturn, 1, 0, 0, .null, [])]]
def M_Mo_here : am_M := (⟨"SpiteLineModel", "here", "()I"⟩, prog_12_method_6_code, 1, (some .int), 10, (0, 0), K_Mo_here, [[0, 1, 4, 5, 8, 11, 12, 15, 16, 19, 20, 23, 24]])
def K_Mo_readsLine : List (List am_I) := [[(.aload_n 0, 1, 0, 0, .null, []), (.iconst 0, 1, 0, 0, .int 0, []), (.putfield 78, 3, 10, 3, .null, []), (.aload_n 0, 1, 0, 0, .null, []), (.iconst 0, 1, 0, 0, .int 0, []), (.putfield 105, 3, 10, 6, .null, []), (.aload_n 0, 1, 0, 0, .null, []), (.invokevirtual 111, 3, 96, 1, .null, []), (.istore_n 1, 1, 1, 0, .null, []), (.aload_n 0, 1, 0, 0, .null, []), (.invokevirtual 88, 3, 93, 1, .null, []), (.iload_n 1, 1, 1, 0, .null, []), (.ifCond .eq 78, 3, 50, 0, .null, []), (.aload_n 0, 1, 0, 0, .null, []), (.getfield 78, 3, 10, 3, .null, []), (.aload_n 0, 1, 0, 0, .null, [])],
  [(.getfield 74, 3, 10, 1, .null, []), (.if_icmp .ge 67, 3, 50, 0, .null, []), (.aload_n 0, 1, 0, 0, .null, []), (.invokevirtual 81, 3, 94, 1, .null, []), (.istore_n 2, 1, 2, 0, .null, []), (.iload_n 2, 1, 2, 0, .null, []), (.bipush 115, 2, 0, 0, .int 115, []), (.if_icmp .eq 18, 3, 31, 0, .null, []), (.iload_n 2, 1, 2, 0, .null, []), (.bipush 112, 2, 0, 0, .int 112, []), (.if_icmp .ne 20, 3, 35, 0, .null, []), (.aload_n 0, 1, 0, 0, .null, []), (.getfield 105, 3, 10, 6, .null, []), (.bipush 8, 2, 0, 0, .int 8, []), (.if_icmp .ne 11, 3, 35, 0, .null, []), (.aload_n 0, 1, 0, 0, .null, [])],
  [(.iconst 3, 1, 0, 0, .int 3, []), (.invokevirtual 91, 3, 98, 2, .null, []), (.goto 21, 3, 44, 0, .null, []), (.iload_n 2, 1, 2, 0, .null, []), (.bipush 112, 2, 0, 0, .int 112, []), (.if_icmp .ne 10, 3, 41, 0, .null, []), (.aload_n 0, 1, 0, 0, .null, []), (.invokevirtual 115, 3, 100, 1, .null, []), (.goto 8, 3, 44, 0, .null, []), (.aload_n 0, 1, 0, 0, .null, []), (.iconst 1, 1, 0, 0, .int 1, []), (.invokevirtual 91, 3, 98, 2, .null, []), (.istore_n 1, 1, 1, 0, .null, []), (.iload_n 1, 1, 1, 0, .null, []), (.ifCond .eq 7, 3, 49, 0, .null, []), (.aload_n 0, 1, 0, 0, .null, [])],
  [(.invokevirtual 88, 3, 93, 1, .null, []), (.goto (-76), 3, 11, 0, .null, []), (.iload_n 1, 1, 1, 0, .null, []), (.ireturn, 1, 0, 0, .null, [])]]
def M_Mo_readsLine : am_M := (⟨"SpiteLineModel", "readsLine", "()Z"⟩, prog_12_method_14_code, 3, (some .boolean), 10, (5, 108), K_Mo_readsLine, [[0, 1, 2, 5, 6, 7, 10, 11, 14, 15, 16, 19, 20, 23, 24, 27], [28, 31, 34, 35, 38, 39, 40, 42, 45, 46, 48, 51, 52, 55, 57, 60], [61, 62, 65, 68, 69, 71, 74, 75, 78, 81, 82, 83, 86, 87, 88, 91], [92, 95, 98, 99]])
def K_Mo_readsFirst : List (List am_I) := [[(.aload_n 0, 1, 0, 0, .null, []), (.bipush 115, 2, 0, 0, .int 115, []), (.invokevirtual 98, 3, 97, 2, .null, []), (.ifCond .ne 5, 3, 6, 0, .null, []), (.iconst 0, 1, 0, 0, .int 0, []), (.ireturn, 1, 0, 0, .null, []), (.iconst 0, 1, 0, 0, .int 0, []), (.istore_n 1, 1, 1, 0, .null, []), (.iload_n 1, 1, 1, 0, .null, []), (.iconst 3, 1, 0, 0, .int 3, []), (.if_icmp .ge 67, 3, 44, 0, .null, []), (.aload_n 0, 1, 0, 0, .null, []), (.iload_n 1, 1, 1, 0, .null, []), (.ifCond .ne 7, 3, 16, 0, .null, []), (.iconst 2, 1, 0, 0, .int 2, []), (.goto 13, 3, 22, 0, .null, [])],
  [(.iload_n 1, 1, 1, 0, .null, []), (.iconst 1, 1, 0, 0, .int 1, []), (.if_icmp .ne 7, 3, 21, 0, .null, []), (.iconst 1, 1, 0, 0, .int 1, []), (.goto 4, 3, 22, 0, .null, []), (.iconst 0, 1, 0, 0, .int 0, []), (.iload_n 1, 1, 1, 0, .null, []), (.ifCond .ne 8, 3, 26, 0, .null, []), (.bipush 8, 2, 0, 0, .int 8, []), (.goto 15, 3, 32, 0, .null, []), (.iload_n 1, 1, 1, 0, .null, []), (.iconst 1, 1, 0, 0, .int 1, []), (.if_icmp .ne 8, 3, 31, 0, .null, []), (.bipush 15, 2, 0, 0, .int 15, []), (.goto 5, 3, 32, 0, .null, []), (.bipush 9, 2, 0, 0, .int 9, [])],
  [(.invokevirtual 101, 3, 99, 3, .null, []), (.ifCond .ne 5, 3, 36, 0, .null, []), (.iconst 0, 1, 0, 0, .int 0, []), (.ireturn, 1, 0, 0, .null, []), (.aload_n 0, 1, 0, 0, .null, []), (.getfield 13, 3, 10, 7, .null, []), (.iload_n 1, 1, 1, 0, .null, []), (.aload_n 0, 1, 0, 0, .null, []), (.getfield 95, 3, 10, 5, .null, []), (.iastore, 1, 0, 0, .null, []), (.iinc 1 1, 3, 1, 0, .int 1, []), (.goto (-66), 3, 8, 0, .null, []), (.aload_n 0, 1, 0, 0, .null, []), (.bipush 59, 2, 0, 0, .int 59, []), (.invokevirtual 98, 3, 97, 2, .null, []), (.ireturn, 1, 0, 0, .null, [])]]
def M_Mo_readsFirst : am_M := (⟨"SpiteLineModel", "readsFirst", "()Z"⟩, prog_12_method_11_code, 2, (some .boolean), 10, (3, 64), K_Mo_readsFirst, [[0, 1, 3, 6, 9, 10, 11, 12, 13, 14, 15, 18, 19, 20, 23, 24], [27, 28, 29, 32, 33, 36, 37, 38, 41, 43, 46, 47, 48, 51, 53, 56], [58, 61, 64, 65, 66, 67, 70, 71, 72, 75, 76, 79, 82, 83, 85, 88]])
def K_Mo_sign : List (List am_I) := [[(.aload_n 0, 1, 0, 0, .null, []), (.invokevirtual 88, 3, 93, 1, .null, []), (.aload_n 0, 1, 0, 0, .null, []), (.invokevirtual 81, 3, 94, 1, .null, []), (.iload_n 1, 1, 1, 0, .null, []), (.if_icmp .eq 9, 3, 10, 0, .null, []), (.aload_n 0, 1, 0, 0, .null, []), (.iconst 1, 1, 0, 0, .int 1, []), (.invokevirtual 91, 3, 98, 2, .null, []), (.ireturn, 1, 0, 0, .null, []), (.aload_n 0, 1, 0, 0, .null, []), (.dup, 1, 0, 0, .null, []), (.getfield 78, 3, 10, 3, .null, []), (.iconst 1, 1, 0, 0, .int 1, []), (.iadd, 1, 0, 0, .null, []), (.putfield 78, 3, 10, 3, .null, [])],
  [(.iconst 1, 1, 0, 0, .int 1, []), (.ireturn, 1, 0, 0, .null, [])]]
def M_Mo_sign : am_M := (⟨"SpiteLineModel", "sign", "(I)Z"⟩, prog_12_method_9_code, 2, (some .boolean), 10, (2, 40), K_Mo_sign, [[0, 1, 4, 5, 8, 9, 12, 13, 14, 17, 18, 19, 20, 23, 24, 25], [28, 29]])
def K_Mo_fails : List (List am_I) := [[(.aload_n 0, 1, 0, 0, .null, []), (.iload_n 1, 1, 1, 0, .null, []), (.putfield 85, 3, 10, 4, .null, []), (.iconst 0, 1, 0, 0, .int 0, []), (.ireturn, 1, 0, 0, .null, [])]]
def M_Mo_fails : am_M := (⟨"SpiteLineModel", "fails", "(I)Z"⟩, prog_12_method_8_code, 2, (some .boolean), 10, (0, 0), K_Mo_fails, [[0, 1, 2, 5, 6]])
def K_Mo_number : List (List am_I) := [[(.aload_n 0, 1, 0, 0, .null, []), (.invokevirtual 88, 3, 93, 1, .null, []), (.iconst 0, 1, 0, 0, .int 0, []), (.istore_n 3, 1, 3, 0, .null, []), (.iconst 0, 1, 0, 0, .int 0, []), (.istore 4, 2, 4, 0, .null, []), (.aload_n 0, 1, 0, 0, .null, []), (.getfield 78, 3, 10, 3, .null, []), (.iload_n 3, 1, 3, 0, .null, []), (.iadd, 1, 0, 0, .null, []), (.aload_n 0, 1, 0, 0, .null, []), (.getfield 74, 3, 10, 1, .null, []), (.if_icmp .ge 62, 3, 45, 0, .null, []), (.aload_n 0, 1, 0, 0, .null, []), (.getfield 7, 3, 10, 0, .null, []), (.aload_n 0, 1, 0, 0, .null, [])],
  [(.getfield 78, 3, 10, 3, .null, []), (.iload_n 3, 1, 3, 0, .null, []), (.iadd, 1, 0, 0, .null, []), (.iaload, 1, 0, 0, .null, []), (.bipush 48, 2, 0, 0, .int 48, []), (.bipush 57, 2, 0, 0, .int 57, []), (.invokestatic 69, 3, 91, 3, .null, []), (.ifCond .eq 41, 3, 45, 0, .null, []), (.iload_n 3, 1, 3, 0, .null, []), (.iconst 3, 1, 0, 0, .int 3, []), (.if_icmp .ge 26, 3, 41, 0, .null, []), (.bipush 10, 2, 0, 0, .int 10, []), (.iload 4, 2, 4, 0, .null, []), (.imul, 1, 0, 0, .null, []), (.aload_n 0, 1, 0, 0, .null, []), (.getfield 7, 3, 10, 0, .null, [])],
  [(.aload_n 0, 1, 0, 0, .null, []), (.getfield 78, 3, 10, 3, .null, []), (.iload_n 3, 1, 3, 0, .null, []), (.iadd, 1, 0, 0, .null, []), (.iaload, 1, 0, 0, .null, []), (.iadd, 1, 0, 0, .null, []), (.bipush 48, 2, 0, 0, .int 48, []), (.isub, 1, 0, 0, .null, []), (.goto 5, 3, 42, 0, .null, []), (.iload 4, 2, 4, 0, .null, []), (.istore 4, 2, 4, 0, .null, []), (.iinc 3 1, 3, 3, 0, .int 1, []), (.goto (-69), 3, 6, 0, .null, []), (.iload_n 3, 1, 3, 0, .null, []), (.ifCond .ne 9, 3, 51, 0, .null, []), (.aload_n 0, 1, 0, 0, .null, [])],
  [(.iconst 1, 1, 0, 0, .int 1, []), (.invokevirtual 91, 3, 98, 2, .null, []), (.ireturn, 1, 0, 0, .null, []), (.iload_n 3, 1, 3, 0, .null, []), (.iconst 3, 1, 0, 0, .int 3, []), (.if_icmp .gt 13, 3, 59, 0, .null, []), (.iload 4, 2, 4, 0, .null, []), (.iload_n 1, 1, 1, 0, .null, []), (.iload_n 2, 1, 2, 0, .null, []), (.invokestatic 69, 3, 91, 3, .null, []), (.ifCond .ne 9, 3, 63, 0, .null, []), (.aload_n 0, 1, 0, 0, .null, []), (.iconst 2, 1, 0, 0, .int 2, []), (.invokevirtual 91, 3, 98, 2, .null, []), (.ireturn, 1, 0, 0, .null, []), (.aload_n 0, 1, 0, 0, .null, [])],
  [(.iload 4, 2, 4, 0, .null, []), (.putfield 95, 3, 10, 5, .null, []), (.aload_n 0, 1, 0, 0, .null, []), (.dup, 1, 0, 0, .null, []), (.getfield 78, 3, 10, 3, .null, []), (.iload_n 3, 1, 3, 0, .null, []), (.iadd, 1, 0, 0, .null, []), (.putfield 78, 3, 10, 3, .null, []), (.iconst 1, 1, 0, 0, .int 1, []), (.ireturn, 1, 0, 0, .null, [])]]
def M_Mo_number : am_M := (⟨"SpiteLineModel", "number", "(II)Z"⟩, prog_12_method_10_code, 5, (some .boolean), 10, (2, 40), K_Mo_number, [[0, 1, 4, 5, 6, 7, 9, 10, 13, 14, 15, 16, 19, 22, 23, 26], [27, 30, 31, 32, 33, 35, 37, 40, 43, 44, 45, 48, 50, 52, 53, 54], [57, 58, 61, 62, 63, 64, 65, 67, 68, 71, 73, 75, 78, 81, 82, 85], [86, 87, 90, 91, 92, 93, 96, 98, 99, 100, 103, 106, 107, 108, 111, 112], [113, 115, 118, 119, 120, 123, 124, 125, 128, 129]])
def K_Mo_readsPerson : List (List am_I) := [[(.iconst 5, 1, 0, 0, .int 5, []), (.aload_n 0, 1, 0, 0, .null, []), (.getfield 105, 3, 10, 6, .null, []), (.imul, 1, 0, 0, .null, []), (.istore_n 1, 1, 1, 0, .null, []), (.aload_n 0, 1, 0, 0, .null, []), (.dup, 1, 0, 0, .null, []), (.getfield 78, 3, 10, 3, .null, []), (.iconst 1, 1, 0, 0, .int 1, []), (.iadd, 1, 0, 0, .null, []), (.putfield 78, 3, 10, 3, .null, []), (.aload_n 0, 1, 0, 0, .null, []), (.iconst 0, 1, 0, 0, .int 0, []), (.aload_n 0, 1, 0, 0, .null, []), (.getfield 13, 3, 10, 7, .null, []), (.iconst 0, 1, 0, 0, .int 0, [])],
  [(.iaload, 1, 0, 0, .null, []), (.iconst 1, 1, 0, 0, .int 1, []), (.isub, 1, 0, 0, .null, []), (.invokevirtual 101, 3, 99, 3, .null, []), (.ifCond .ne 5, 3, 23, 0, .null, []), (.iconst 0, 1, 0, 0, .int 0, []), (.ireturn, 1, 0, 0, .null, []), (.aload_n 0, 1, 0, 0, .null, []), (.getfield 16, 3, 10, 8, .null, []), (.iload_n 1, 1, 1, 0, .null, []), (.aload_n 0, 1, 0, 0, .null, []), (.getfield 95, 3, 10, 5, .null, []), (.iastore, 1, 0, 0, .null, []), (.aload_n 0, 1, 0, 0, .null, []), (.invokevirtual 88, 3, 93, 1, .null, []), (.aload_n 0, 1, 0, 0, .null, [])],
  [(.getfield 78, 3, 10, 3, .null, []), (.istore_n 2, 1, 2, 0, .null, []), (.aload_n 0, 1, 0, 0, .null, []), (.iconst 0, 1, 0, 0, .int 0, []), (.aload_n 0, 1, 0, 0, .null, []), (.getfield 13, 3, 10, 7, .null, []), (.iconst 0, 1, 0, 0, .int 0, []), (.iaload, 1, 0, 0, .null, []), (.iconst 1, 1, 0, 0, .int 1, []), (.isub, 1, 0, 0, .null, []), (.invokevirtual 101, 3, 99, 3, .null, []), (.ifCond .ne 5, 3, 46, 0, .null, []), (.iconst 0, 1, 0, 0, .int 0, []), (.ireturn, 1, 0, 0, .null, []), (.aload_n 0, 1, 0, 0, .null, []), (.getfield 16, 3, 10, 8, .null, [])],
  [(.iload_n 1, 1, 1, 0, .null, []), (.iconst 1, 1, 0, 0, .int 1, []), (.iadd, 1, 0, 0, .null, []), (.aload_n 0, 1, 0, 0, .null, []), (.getfield 95, 3, 10, 5, .null, []), (.iastore, 1, 0, 0, .null, []), (.aload_n 0, 1, 0, 0, .null, []), (.getfield 95, 3, 10, 5, .null, []), (.aload_n 0, 1, 0, 0, .null, []), (.getfield 16, 3, 10, 8, .null, []), (.iload_n 1, 1, 1, 0, .null, []), (.iaload, 1, 0, 0, .null, []), (.if_icmp .ne 14, 3, 68, 0, .null, []), (.aload_n 0, 1, 0, 0, .null, []), (.iload_n 2, 1, 2, 0, .null, []), (.putfield 78, 3, 10, 3, .null, [])],
  [(.aload_n 0, 1, 0, 0, .null, []), (.iconst 4, 1, 0, 0, .int 4, []), (.invokevirtual 91, 3, 98, 2, .null, []), (.ireturn, 1, 0, 0, .null, []), (.aload_n 0, 1, 0, 0, .null, []), (.iload_n 1, 1, 1, 0, .null, []), (.iconst 2, 1, 0, 0, .int 2, []), (.iadd, 1, 0, 0, .null, []), (.invokevirtual 108, 3, 101, 2, .null, []), (.ifCond .eq 13, 3, 79, 0, .null, []), (.aload_n 0, 1, 0, 0, .null, []), (.iconst 0, 1, 0, 0, .int 0, []), (.bipush 9, 2, 0, 0, .int 9, []), (.invokevirtual 101, 3, 99, 3, .null, []), (.ifCond .ne 5, 3, 81, 0, .null, []), (.iconst 0, 1, 0, 0, .int 0, [])],
  [(.ireturn, 1, 0, 0, .null, []), (.aload_n 0, 1, 0, 0, .null, []), (.getfield 16, 3, 10, 8, .null, []), (.iload_n 1, 1, 1, 0, .null, []), (.iconst 3, 1, 0, 0, .int 3, []), (.iadd, 1, 0, 0, .null, []), (.aload_n 0, 1, 0, 0, .null, []), (.getfield 95, 3, 10, 5, .null, []), (.iastore, 1, 0, 0, .null, []), (.aload_n 0, 1, 0, 0, .null, []), (.iconst 0, 1, 0, 0, .int 0, []), (.iconst 3, 1, 0, 0, .int 3, []), (.invokevirtual 101, 3, 99, 3, .null, []), (.ifCond .ne 5, 3, 96, 0, .null, []), (.iconst 0, 1, 0, 0, .int 0, []), (.ireturn, 1, 0, 0, .null, [])],
  [(.aload_n 0, 1, 0, 0, .null, []), (.getfield 16, 3, 10, 8, .null, []), (.iload_n 1, 1, 1, 0, .null, []), (.iconst 4, 1, 0, 0, .int 4, []), (.iadd, 1, 0, 0, .null, []), (.aload_n 0, 1, 0, 0, .null, []), (.getfield 95, 3, 10, 5, .null, []), (.iastore, 1, 0, 0, .null, []), (.aload_n 0, 1, 0, 0, .null, []), (.dup, 1, 0, 0, .null, []), (.getfield 105, 3, 10, 6, .null, []), (.iconst 1, 1, 0, 0, .int 1, []), (.iadd, 1, 0, 0, .null, []), (.putfield 105, 3, 10, 6, .null, []), (.aload_n 0, 1, 0, 0, .null, []), (.bipush 59, 2, 0, 0, .int 59, [])],
  [(.invokevirtual 98, 3, 97, 2, .null, []), (.ireturn, 1, 0, 0, .null, [])]]
def M_Mo_readsPerson : am_M := (⟨"SpiteLineModel", "readsPerson", "()Z"⟩, prog_12_method_13_code, 3, (some .boolean), 10, (4, 86), K_Mo_readsPerson, [[0, 1, 2, 5, 6, 7, 8, 9, 12, 13, 14, 17, 18, 19, 20, 23], [24, 25, 26, 27, 30, 33, 34, 35, 36, 39, 40, 41, 44, 45, 46, 49], [50, 53, 54, 55, 56, 57, 60, 61, 62, 63, 64, 67, 70, 71, 72, 73], [76, 77, 78, 79, 80, 83, 84, 85, 88, 89, 92, 93, 94, 97, 98, 99], [102, 103, 104, 107, 108, 109, 110, 111, 112, 115, 118, 119, 120, 122, 125, 128], [129, 130, 131, 134, 135, 136, 137, 138, 141, 142, 143, 144, 145, 148, 151, 152], [153, 154, 157, 158, 159, 160, 161, 164, 165, 166, 167, 170, 171, 172, 175, 176], [178, 181]])
def K_Mo_readsMet : List (List am_I) := [[(.aload_n 0, 1, 0, 0, .null, []), (.invokevirtual 88, 3, 93, 1, .null, []), (.aload_n 0, 1, 0, 0, .null, []), (.getfield 78, 3, 10, 3, .null, []), (.istore_n 2, 1, 2, 0, .null, []), (.aload_n 0, 1, 0, 0, .null, []), (.iconst 0, 1, 0, 0, .int 0, []), (.bipush 9, 2, 0, 0, .int 9, []), (.invokevirtual 101, 3, 99, 3, .null, []), (.ifCond .ne 5, 3, 12, 0, .null, []), (.iconst 0, 1, 0, 0, .int 0, []), (.ireturn, 1, 0, 0, .null, []), (.aload_n 0, 1, 0, 0, .null, []), (.getfield 95, 3, 10, 5, .null, []), (.bipush 9, 2, 0, 0, .int 9, []), (.if_icmp .eq 25, 3, 28, 0, .null, [])],
  [(.aload_n 0, 1, 0, 0, .null, []), (.getfield 95, 3, 10, 5, .null, []), (.aload_n 0, 1, 0, 0, .null, []), (.getfield 105, 3, 10, 6, .null, []), (.if_icmp .lt 14, 3, 28, 0, .null, []), (.aload_n 0, 1, 0, 0, .null, []), (.iload_n 2, 1, 2, 0, .null, []), (.putfield 78, 3, 10, 3, .null, []), (.aload_n 0, 1, 0, 0, .null, []), (.iconst 2, 1, 0, 0, .int 2, []), (.invokevirtual 91, 3, 98, 2, .null, []), (.ireturn, 1, 0, 0, .null, []), (.aload_n 0, 1, 0, 0, .null, []), (.getfield 16, 3, 10, 8, .null, []), (.iload_n 1, 1, 1, 0, .null, []), (.aload_n 0, 1, 0, 0, .null, [])],
  [(.getfield 95, 3, 10, 5, .null, []), (.bipush 9, 2, 0, 0, .int 9, []), (.if_icmp .ne 7, 3, 37, 0, .null, []), (.iconst (-1), 1, 0, 0, .int (-1), []), (.goto 7, 3, 39, 0, .null, []), (.aload_n 0, 1, 0, 0, .null, []), (.getfield 95, 3, 10, 5, .null, []), (.iastore, 1, 0, 0, .null, []), (.iconst 1, 1, 0, 0, .int 1, []), (.ireturn, 1, 0, 0, .null, [])]]
def M_Mo_readsMet : am_M := (⟨"SpiteLineModel", "readsMet", "(I)Z"⟩, prog_12_method_12_code, 3, (some .boolean), 10, (3, 64), K_Mo_readsMet, [[0, 1, 4, 5, 8, 9, 10, 11, 13, 16, 19, 20, 21, 22, 25, 27], [30, 31, 34, 35, 38, 41, 42, 43, 46, 47, 48, 51, 52, 53, 56, 57], [58, 61, 63, 66, 67, 70, 71, 74, 75, 76]])
def K_Mo_fault : List (List am_I) := [[(.aload_n 0, 1, 0, 0, .null, []), (.getfield 65, 3, 10, 2, .null, []), (.ireturn, 1, 0, 0, .null, [])]]
def M_Mo_fault : am_M := (⟨"SpiteLineModel", "fault", "()I"⟩, prog_12_method_16_code, 1, (some .int), 10, (0, 0), K_Mo_fault, [[0, 1, 4]])
def K_Mo_told : List (List am_I) := [[(.iload_n 1, 1, 1, 0, .null, []), (.tableswitch 123 0 11 #[63, 68, 73, 78, 83, 88, 93, 98, 103, 108, 113, 118], 63, 38, 0, .null, [(0, 2), (1, 5), (2, 8), (3, 11), (4, 14), (5, 17), (6, 20), (7, 23), (8, 26), (9, 29), (10, 32), (11, 35)]), (.aload_n 0, 1, 0, 0, .null, []), (.getfield 121, 3, 10, 9, .null, []), (.ireturn, 1, 0, 0, .null, []), (.aload_n 0, 1, 0, 0, .null, []), (.getfield 124, 3, 10, 10, .null, []), (.ireturn, 1, 0, 0, .null, []), (.aload_n 0, 1, 0, 0, .null, []), (.getfield 127, 3, 10, 11, .null, []), (.ireturn, 1, 0, 0, .null, []), (.aload_n 0, 1, 0, 0, .null, []), (.getfield 130, 3, 10, 12, .null, []), (.ireturn, 1, 0, 0, .null, []), (.aload_n 0, 1, 0, 0, .null, []), (.getfield 74, 3, 10, 1, .null, [])],
  [(.ireturn, 1, 0, 0, .null, []), (.aload_n 0, 1, 0, 0, .null, []), (.getfield 133, 3, 10, 13, .null, []), (.ireturn, 1, 0, 0, .null, []), (.aload_n 0, 1, 0, 0, .null, []), (.getfield 136, 3, 10, 14, .null, []), (.ireturn, 1, 0, 0, .null, []), (.aload_n 0, 1, 0, 0, .null, []), (.invokevirtual 155, 3, 104, 1, .null, []), (.ireturn, 1, 0, 0, .null, []), (.aload_n 0, 1, 0, 0, .null, []), (.invokevirtual 158, 3, 107, 1, .null, []), (.ireturn, 1, 0, 0, .null, []), (.aload_n 0, 1, 0, 0, .null, []), (.getfield 142, 3, 10, 27, .null, []), (.ireturn, 1, 0, 0, .null, [])],
  [(.aload_n 0, 1, 0, 0, .null, []), (.getfield 145, 3, 10, 31, .null, []), (.ireturn, 1, 0, 0, .null, []), (.aload_n 0, 1, 0, 0, .null, []), (.getfield 139, 3, 10, 22, .null, []), (.ireturn, 1, 0, 0, .null, []), (.ldc 73, 2, 0, 0, .int (-1000000002), []), (.ireturn, 1, 0, 0, .null, [])]]
def M_Mo_told : am_M := (⟨"SpiteLineModel", "told", "(I)I"⟩, prog_12_method_23_code, 2, (some .int), 10, (3, 66), K_Mo_told, [[0, 1, 64, 65, 68, 69, 70, 73, 74, 75, 78, 79, 80, 83, 84, 85], [88, 89, 90, 93, 94, 95, 98, 99, 100, 103, 104, 105, 108, 109, 110, 113], [114, 115, 118, 119, 120, 123, 124, 126]])
def K_Mo_awaitedSet : List (List am_I) := [[(.iconst 0, 1, 0, 0, .int 0, []), (.istore_n 1, 1, 1, 0, .null, []), (.iconst 0, 1, 0, 0, .int 0, []), (.istore_n 2, 1, 2, 0, .null, []), (.iload_n 2, 1, 2, 0, .null, []), (.aload_n 0, 1, 0, 0, .null, []), (.getfield 121, 3, 10, 9, .null, []), (.if_icmp .ge 27, 3, 22, 0, .null, []), (.iload_n 1, 1, 1, 0, .null, []), (.aload_n 0, 1, 0, 0, .null, []), (.iload_n 2, 1, 2, 0, .null, []), (.invokevirtual 152, 3, 105, 2, .null, []), (.ifCond .eq 9, 3, 17, 0, .null, []), (.iconst 1, 1, 0, 0, .int 1, []), (.iload_n 2, 1, 2, 0, .null, []), (.ishl, 1, 0, 0, .null, [])],
  [(.goto 4, 3, 18, 0, .null, []), (.iconst 0, 1, 0, 0, .int 0, []), (.ior, 1, 0, 0, .null, []), (.istore_n 1, 1, 1, 0, .null, []), (.iinc 2 1, 3, 2, 0, .int 1, []), (.goto (-29), 3, 4, 0, .null, []), (.iload_n 1, 1, 1, 0, .null, []), (.ireturn, 1, 0, 0, .null, [])]]
def M_Mo_awaitedSet : am_M := (⟨"SpiteLineModel", "awaitedSet", "()I"⟩, prog_12_method_21_code, 3, (some .int), 10, (2, 44), K_Mo_awaitedSet, [[0, 1, 2, 3, 4, 5, 6, 9, 12, 13, 14, 15, 18, 21, 22, 23], [24, 27, 28, 29, 30, 33, 36, 37]])
def K_Mo_isAwaited : List (List am_I) := [[(.iconst 0, 1, 0, 0, .int 0, []), (.istore_n 2, 1, 2, 0, .null, []), (.iconst 0, 1, 0, 0, .int 0, []), (.istore_n 3, 1, 3, 0, .null, []), (.iload_n 3, 1, 3, 0, .null, []), (.aload_n 0, 1, 0, 0, .null, []), (.getfield 130, 3, 10, 12, .null, []), (.if_icmp .ge 46, 3, 31, 0, .null, []), (.iload_n 2, 1, 2, 0, .null, []), (.ifCond .ne 30, 3, 25, 0, .null, []), (.aload_n 0, 1, 0, 0, .null, []), (.getfield 19, 3, 10, 15, .null, []), (.iload_n 3, 1, 3, 0, .null, []), (.iaload, 1, 0, 0, .null, []), (.iload_n 1, 1, 1, 0, .null, []), (.if_icmp .ne 24, 3, 27, 0, .null, [])],
  [(.aload_n 0, 1, 0, 0, .null, []), (.iload_n 3, 1, 3, 0, .null, []), (.invokevirtual 148, 3, 106, 2, .null, []), (.aload_n 0, 1, 0, 0, .null, []), (.getfield 124, 3, 10, 10, .null, []), (.aload_n 0, 1, 0, 0, .null, []), (.getfield 127, 3, 10, 11, .null, []), (.iadd, 1, 0, 0, .null, []), (.if_icmp .lt 7, 3, 27, 0, .null, []), (.iconst 1, 1, 0, 0, .int 1, []), (.goto 4, 3, 28, 0, .null, []), (.iconst 0, 1, 0, 0, .int 0, []), (.istore_n 2, 1, 2, 0, .null, []), (.iinc 3 1, 3, 3, 0, .int 1, []), (.goto (-48), 3, 4, 0, .null, []), (.iload_n 2, 1, 2, 0, .null, [])],
  [(.ireturn, 1, 0, 0, .null, [])]]
def M_Mo_isAwaited : am_M := (⟨"SpiteLineModel", "isAwaited", "(I)Z"⟩, prog_12_method_20_code, 4, (some .boolean), 10, (1, 21), K_Mo_isAwaited, [[0, 1, 2, 3, 4, 5, 6, 9, 12, 13, 16, 17, 20, 21, 22, 23], [26, 27, 28, 31, 32, 35, 36, 39, 40, 43, 44, 47, 48, 49, 52, 55], [56]])
def K_Mo_shows : List (List am_I) := [[(.aload_n 0, 1, 0, 0, .null, []), (.getfield 28, 3, 10, 18, .null, []), (.iload_n 1, 1, 1, 0, .null, []), (.iaload, 1, 0, 0, .null, []), (.iconst 2, 1, 0, 0, .int 2, []), (.aload_n 0, 1, 0, 0, .null, []), (.getfield 31, 3, 10, 19, .null, []), (.iload_n 1, 1, 1, 0, .null, []), (.iaload, 1, 0, 0, .null, []), (.imul, 1, 0, 0, .null, []), (.iadd, 1, 0, 0, .null, []), (.iconst 3, 1, 0, 0, .int 3, []), (.aload_n 0, 1, 0, 0, .null, []), (.getfield 34, 3, 10, 20, .null, []), (.iload_n 1, 1, 1, 0, .null, []), (.iaload, 1, 0, 0, .null, [])],
  [(.imul, 1, 0, 0, .null, []), (.iadd, 1, 0, 0, .null, []), (.ireturn, 1, 0, 0, .null, [])]]
def M_Mo_shows : am_M := (⟨"SpiteLineModel", "shows", "(I)I"⟩, prog_12_method_19_code, 2, (some .int), 10, (0, 0), K_Mo_shows, [[0, 1, 4, 5, 6, 7, 8, 11, 12, 13, 14, 15, 16, 17, 20, 21], [22, 23, 24]])
def K_Mo_arrivedSet : List (List am_I) := [[(.iconst 0, 1, 0, 0, .int 0, []), (.istore_n 1, 1, 1, 0, .null, []), (.iconst 0, 1, 0, 0, .int 0, []), (.istore_n 2, 1, 2, 0, .null, []), (.iload_n 2, 1, 2, 0, .null, []), (.aload_n 0, 1, 0, 0, .null, []), (.getfield 130, 3, 10, 12, .null, []), (.if_icmp .ge 34, 3, 27, 0, .null, []), (.iload_n 1, 1, 1, 0, .null, []), (.aload_n 0, 1, 0, 0, .null, []), (.getfield 19, 3, 10, 15, .null, []), (.iload_n 2, 1, 2, 0, .null, []), (.iaload, 1, 0, 0, .null, []), (.aload_n 0, 1, 0, 0, .null, []), (.getfield 22, 3, 10, 16, .null, []), (.iload_n 2, 1, 2, 0, .null, [])],
  [(.iaload, 1, 0, 0, .null, []), (.if_icmp .ne 9, 3, 22, 0, .null, []), (.iconst 1, 1, 0, 0, .int 1, []), (.iload_n 2, 1, 2, 0, .null, []), (.ishl, 1, 0, 0, .null, []), (.goto 4, 3, 23, 0, .null, []), (.iconst 0, 1, 0, 0, .int 0, []), (.ior, 1, 0, 0, .null, []), (.istore_n 1, 1, 1, 0, .null, []), (.iinc 2 1, 3, 2, 0, .int 1, []), (.goto (-36), 3, 4, 0, .null, []), (.iload_n 1, 1, 1, 0, .null, []), (.ireturn, 1, 0, 0, .null, [])]]
def M_Mo_arrivedSet : am_M := (⟨"SpiteLineModel", "arrivedSet", "()I"⟩, prog_12_method_22_code, 3, (some .int), 10, (0, 0), K_Mo_arrivedSet, [[0, 1, 2, 3, 4, 5, 6, 9, 12, 13, 14, 17, 18, 19, 20, 23], [24, 25, 28, 29, 30, 31, 34, 35, 36, 37, 40, 43, 44]])
def K_Mo_person : List (List am_I) := [[(.aload_n 0, 1, 0, 0, .null, []), (.iload_n 1, 1, 1, 0, .null, []), (.invokevirtual 161, 3, 109, 2, .null, []), (.ifCond .ne 6, 3, 6, 0, .null, []), (.ldc 164, 2, 0, 0, .int (-1000000001), []), (.ireturn, 1, 0, 0, .null, []), (.iload_n 2, 1, 2, 0, .null, []), (.tableswitch 117 0 7 #[48, 55, 62, 69, 76, 83, 90, 96], 48, 55, 0, .null, [(0, 8), (1, 13), (2, 18), (3, 23), (4, 28), (5, 33), (6, 38), (7, 42)]), (.aload_n 0, 1, 0, 0, .null, []), (.getfield 19, 3, 10, 15, .null, []), (.iload_n 1, 1, 1, 0, .null, []), (.iaload, 1, 0, 0, .null, []), (.ireturn, 1, 0, 0, .null, []), (.aload_n 0, 1, 0, 0, .null, []), (.getfield 22, 3, 10, 16, .null, []), (.iload_n 1, 1, 1, 0, .null, [])],
  [(.iaload, 1, 0, 0, .null, []), (.ireturn, 1, 0, 0, .null, []), (.aload_n 0, 1, 0, 0, .null, []), (.getfield 25, 3, 10, 17, .null, []), (.iload_n 1, 1, 1, 0, .null, []), (.iaload, 1, 0, 0, .null, []), (.ireturn, 1, 0, 0, .null, []), (.aload_n 0, 1, 0, 0, .null, []), (.getfield 28, 3, 10, 18, .null, []), (.iload_n 1, 1, 1, 0, .null, []), (.iaload, 1, 0, 0, .null, []), (.ireturn, 1, 0, 0, .null, []), (.aload_n 0, 1, 0, 0, .null, []), (.getfield 31, 3, 10, 19, .null, []), (.iload_n 1, 1, 1, 0, .null, []), (.iaload, 1, 0, 0, .null, [])],
  [(.ireturn, 1, 0, 0, .null, []), (.aload_n 0, 1, 0, 0, .null, []), (.getfield 34, 3, 10, 20, .null, []), (.iload_n 1, 1, 1, 0, .null, []), (.iaload, 1, 0, 0, .null, []), (.ireturn, 1, 0, 0, .null, []), (.aload_n 0, 1, 0, 0, .null, []), (.iload_n 1, 1, 1, 0, .null, []), (.invokevirtual 148, 3, 106, 2, .null, []), (.ireturn, 1, 0, 0, .null, []), (.aload_n 0, 1, 0, 0, .null, []), (.getfield 19, 3, 10, 15, .null, []), (.iload_n 1, 1, 1, 0, .null, []), (.iaload, 1, 0, 0, .null, []), (.aload_n 0, 1, 0, 0, .null, []), (.getfield 22, 3, 10, 16, .null, [])],
  [(.iload_n 1, 1, 1, 0, .null, []), (.iaload, 1, 0, 0, .null, []), (.if_icmp .ne 7, 3, 53, 0, .null, []), (.iconst 1, 1, 0, 0, .int 1, []), (.goto 4, 3, 54, 0, .null, []), (.iconst 0, 1, 0, 0, .int 0, []), (.ireturn, 1, 0, 0, .null, []), (.ldc 73, 2, 0, 0, .int (-1000000002), []), (.ireturn, 1, 0, 0, .null, [])]]
def M_Mo_person : am_M := (⟨"SpiteLineModel", "person", "(II)I"⟩, prog_12_method_24_code, 3, (some .int), 10, (2, 43), K_Mo_person, [[0, 1, 2, 5, 8, 10, 11, 12, 60, 61, 64, 65, 66, 67, 68, 71], [72, 73, 74, 75, 78, 79, 80, 81, 82, 85, 86, 87, 88, 89, 92, 93], [94, 95, 96, 99, 100, 101, 102, 103, 104, 107, 108, 109, 112, 113, 114, 115], [118, 119, 120, 123, 124, 127, 128, 129, 131]])
def K_Mo_isPerson : List (List am_I) := [[(.iload_n 1, 1, 1, 0, .null, []), (.iconst 0, 1, 0, 0, .int 0, []), (.aload_n 0, 1, 0, 0, .null, []), (.getfield 130, 3, 10, 12, .null, []), (.iconst 1, 1, 0, 0, .int 1, []), (.isub, 1, 0, 0, .null, []), (.invokestatic 69, 3, 91, 3, .null, []), (.ireturn, 1, 0, 0, .null, [])]]
def M_Mo_isPerson : am_M := (⟨"SpiteLineModel", "isPerson", "(I)Z"⟩, prog_12_method_17_code, 2, (some .boolean), 10, (1, 22), K_Mo_isPerson, [[0, 1, 2, 3, 6, 7, 8, 11]])
def K_Mo_station : List (List am_I) := [[(.aload_n 0, 1, 0, 0, .null, []), (.iload_n 1, 1, 1, 0, .null, []), (.invokevirtual 165, 3, 111, 2, .null, []), (.ifCond .ne 6, 3, 6, 0, .null, []), (.ldc 164, 2, 0, 0, .int (-1000000001), []), (.ireturn, 1, 0, 0, .null, []), (.iload_n 2, 1, 2, 0, .null, []), (.iconst 0, 1, 0, 0, .int 0, []), (.iconst 1, 1, 0, 0, .int 1, []), (.invokestatic 69, 3, 91, 3, .null, []), (.ifCond .ne 6, 3, 13, 0, .null, []), (.ldc 73, 2, 0, 0, .int (-1000000002), []), (.ireturn, 1, 0, 0, .null, []), (.iconst 0, 1, 0, 0, .int 0, []), (.istore_n 3, 1, 3, 0, .null, []), (.iconst 0, 1, 0, 0, .int 0, [])],
  [(.istore 4, 2, 4, 0, .null, []), (.iconst 0, 1, 0, 0, .int 0, []), (.istore 5, 2, 5, 0, .null, []), (.iload 5, 2, 5, 0, .null, []), (.aload_n 0, 1, 0, 0, .null, []), (.getfield 130, 3, 10, 12, .null, []), (.if_icmp .ge 51, 3, 48, 0, .null, []), (.aload_n 0, 1, 0, 0, .null, []), (.getfield 19, 3, 10, 15, .null, []), (.iload 5, 2, 5, 0, .null, []), (.iaload, 1, 0, 0, .null, []), (.iload_n 1, 1, 1, 0, .null, []), (.if_icmp .ne 34, 3, 46, 0, .null, []), (.iload_n 3, 1, 3, 0, .null, []), (.iconst 1, 1, 0, 0, .int 1, []), (.iload 5, 2, 5, 0, .null, [])],
  [(.ishl, 1, 0, 0, .null, []), (.ior, 1, 0, 0, .null, []), (.istore_n 3, 1, 3, 0, .null, []), (.aload_n 0, 1, 0, 0, .null, []), (.iload 5, 2, 5, 0, .null, []), (.invokevirtual 148, 3, 106, 2, .null, []), (.iload 4, 2, 4, 0, .null, []), (.if_icmp .le 12, 3, 44, 0, .null, []), (.aload_n 0, 1, 0, 0, .null, []), (.iload 5, 2, 5, 0, .null, []), (.invokevirtual 148, 3, 106, 2, .null, []), (.goto 5, 3, 45, 0, .null, []), (.iload 4, 2, 4, 0, .null, []), (.istore 4, 2, 4, 0, .null, []), (.iinc 5 1, 3, 5, 0, .int 1, []), (.goto (-54), 3, 19, 0, .null, [])],
  [(.iload_n 2, 1, 2, 0, .null, []), (.ifCond .ne 7, 3, 52, 0, .null, []), (.iload_n 3, 1, 3, 0, .null, []), (.goto 5, 3, 53, 0, .null, []), (.iload 4, 2, 4, 0, .null, []), (.ireturn, 1, 0, 0, .null, [])]]
def M_Mo_station : am_M := (⟨"SpiteLineModel", "station", "(II)I"⟩, prog_12_method_25_code, 6, (some .int), 10, (2, 43), K_Mo_station, [[0, 1, 2, 5, 8, 10, 11, 12, 13, 14, 17, 20, 22, 23, 24, 25], [26, 28, 29, 31, 33, 34, 37, 40, 41, 44, 46, 47, 48, 51, 52, 53], [55, 56, 57, 58, 59, 61, 64, 66, 69, 70, 72, 75, 78, 80, 82, 85], [88, 89, 92, 93, 96, 98]])
def K_Mo_isStation : List (List am_I) := [[(.iload_n 1, 1, 1, 0, .null, []), (.iconst 0, 1, 0, 0, .int 0, []), (.aload_n 0, 1, 0, 0, .null, []), (.getfield 121, 3, 10, 9, .null, []), (.iconst 1, 1, 0, 0, .int 1, []), (.isub, 1, 0, 0, .null, []), (.invokestatic 69, 3, 91, 3, .null, []), (.ireturn, 1, 0, 0, .null, [])]]
def M_Mo_isStation : am_M := (⟨"SpiteLineModel", "isStation", "(I)Z"⟩, prog_12_method_18_code, 2, (some .boolean), 10, (1, 22), K_Mo_isStation, [[0, 1, 2, 3, 6, 7, 8, 11]])
def K_Mo_mien : List (List am_I) := [[(.aload_n 0, 1, 0, 0, .null, []), (.iload_n 1, 1, 1, 0, .null, []), (.invokevirtual 161, 3, 109, 2, .null, []), (.ifCond .ne 6, 3, 6, 0, .null, []), (.ldc 164, 2, 0, 0, .int (-1000000001), []), (.ireturn, 1, 0, 0, .null, []), (.iload_n 2, 1, 2, 0, .null, []), (.iconst 0, 1, 0, 0, .int 0, []), (.bipush 9, 2, 0, 0, .int 9, []), (.invokestatic 69, 3, 91, 3, .null, []), (.ifCond .ne 6, 3, 13, 0, .null, []), (.ldc 73, 2, 0, 0, .int (-1000000002), []), (.ireturn, 1, 0, 0, .null, []), (.aload_n 0, 1, 0, 0, .null, []), (.invokevirtual 172, 3, 113, 1, .null, []), (.aload_n 0, 1, 0, 0, .null, [])],
  [(.getfield 28, 3, 10, 18, .null, []), (.iload_n 1, 1, 1, 0, .null, []), (.iaload, 1, 0, 0, .null, []), (.istore_n 3, 1, 3, 0, .null, []), (.aload_n 0, 1, 0, 0, .null, []), (.getfield 28, 3, 10, 18, .null, []), (.iload_n 1, 1, 1, 0, .null, []), (.iload_n 2, 1, 2, 0, .null, []), (.iastore, 1, 0, 0, .null, []), (.iload_n 3, 1, 3, 0, .null, []), (.ireturn, 1, 0, 0, .null, [])]]
def M_Mo_mien : am_M := (⟨"SpiteLineModel", "mien", "(II)I"⟩, prog_12_method_29_code, 4, (some .int), 10, (2, 44), K_Mo_mien, [[0, 1, 2, 5, 8, 10, 11, 12, 13, 15, 18, 21, 23, 24, 25, 28], [29, 32, 33, 34, 35, 36, 39, 40, 41, 42, 43]])
def K_Mo_notes : List (List am_I) := [[(.aload_n 0, 1, 0, 0, .null, []), (.getfield 139, 3, 10, 22, .null, []), (.bipush 30, 2, 0, 0, .int 30, []), (.if_icmp .ne 43, 3, 27, 0, .null, []), (.iconst 0, 1, 0, 0, .int 0, []), (.istore_n 1, 1, 1, 0, .null, []), (.iload_n 1, 1, 1, 0, .null, []), (.sipush 1044, 3, 0, 0, .int 1044, []), (.if_icmp .ge 24, 3, 21, 0, .null, []), (.aload_n 0, 1, 0, 0, .null, []), (.getfield 37, 3, 10, 21, .null, []), (.iload_n 1, 1, 1, 0, .null, []), (.aload_n 0, 1, 0, 0, .null, []), (.getfield 37, 3, 10, 21, .null, []), (.iload_n 1, 1, 1, 0, .null, []), (.bipush 36, 2, 0, 0, .int 36, [])],
  [(.iadd, 1, 0, 0, .null, []), (.iaload, 1, 0, 0, .null, []), (.iastore, 1, 0, 0, .null, []), (.iinc 1 1, 3, 1, 0, .int 1, []), (.goto (-25), 3, 6, 0, .null, []), (.aload_n 0, 1, 0, 0, .null, []), (.dup, 1, 0, 0, .null, []), (.getfield 139, 3, 10, 22, .null, []), (.iconst 1, 1, 0, 0, .int 1, []), (.isub, 1, 0, 0, .null, []), (.putfield 139, 3, 10, 22, .null, []), (.aload_n 0, 1, 0, 0, .null, []), (.aload_n 0, 1, 0, 0, .null, []), (.getfield 37, 3, 10, 21, .null, []), (.bipush 36, 2, 0, 0, .int 36, []), (.aload_n 0, 1, 0, 0, .null, [])],
  [(.getfield 139, 3, 10, 22, .null, []), (.imul, 1, 0, 0, .null, []), (.invokevirtual 168, 3, 114, 3, .null, []), (.aload_n 0, 1, 0, 0, .null, []), (.dup, 1, 0, 0, .null, []), (.getfield 139, 3, 10, 22, .null, []), (.iconst 1, 1, 0, 0, .int 1, []), (.iadd, 1, 0, 0, .null, []), (.putfield 139, 3, 10, 22, .null, []), (.return_, 1, 0, 0, .null, [])]]
def M_Mo_notes : am_M := (⟨"SpiteLineModel", "notes", "()V"⟩, prog_12_method_28_code, 2, none, 10, (1, 23), K_Mo_notes, [[0, 1, 4, 6, 9, 10, 11, 12, 15, 18, 19, 22, 23, 24, 27, 28], [30, 31, 32, 33, 36, 39, 40, 41, 44, 45, 46, 49, 50, 51, 54, 56], [57, 60, 61, 64, 65, 66, 69, 70, 71, 74]])
def K_Mo_laysBy : List (List am_I) := [[(.aload_n 1, 1, 1, 0, .null, []), (.iload_n 2, 1, 2, 0, .null, []), (.aload_n 0, 1, 0, 0, .null, []), (.getfield 133, 3, 10, 13, .null, []), (.iastore, 1, 0, 0, .null, []), (.aload_n 1, 1, 1, 0, .null, []), (.iload_n 2, 1, 2, 0, .null, []), (.iconst 1, 1, 0, 0, .int 1, []), (.iadd, 1, 0, 0, .null, []), (.aload_n 0, 1, 0, 0, .null, []), (.getfield 136, 3, 10, 14, .null, []), (.iastore, 1, 0, 0, .null, []), (.aload_n 1, 1, 1, 0, .null, []), (.iload_n 2, 1, 2, 0, .null, []), (.iconst 2, 1, 0, 0, .int 2, []), (.iadd, 1, 0, 0, .null, [])],
  [(.aload_n 0, 1, 0, 0, .null, []), (.getfield 127, 3, 10, 11, .null, []), (.iastore, 1, 0, 0, .null, []), (.iconst 0, 1, 0, 0, .int 0, []), (.istore_n 3, 1, 3, 0, .null, []), (.iload_n 3, 1, 3, 0, .null, []), (.bipush 8, 2, 0, 0, .int 8, []), (.if_icmp .ge 64, 3, 70, 0, .null, []), (.aload_n 1, 1, 1, 0, .null, []), (.iload_n 2, 1, 2, 0, .null, []), (.iconst 3, 1, 0, 0, .int 3, []), (.iadd, 1, 0, 0, .null, []), (.iload_n 3, 1, 3, 0, .null, []), (.iadd, 1, 0, 0, .null, []), (.aload_n 0, 1, 0, 0, .null, []), (.getfield 19, 3, 10, 15, .null, [])],
  [(.iload_n 3, 1, 3, 0, .null, []), (.iaload, 1, 0, 0, .null, []), (.iastore, 1, 0, 0, .null, []), (.aload_n 1, 1, 1, 0, .null, []), (.iload_n 2, 1, 2, 0, .null, []), (.bipush 11, 2, 0, 0, .int 11, []), (.iadd, 1, 0, 0, .null, []), (.iload_n 3, 1, 3, 0, .null, []), (.iadd, 1, 0, 0, .null, []), (.aload_n 0, 1, 0, 0, .null, []), (.getfield 28, 3, 10, 18, .null, []), (.iload_n 3, 1, 3, 0, .null, []), (.iaload, 1, 0, 0, .null, []), (.iastore, 1, 0, 0, .null, []), (.aload_n 1, 1, 1, 0, .null, []), (.iload_n 2, 1, 2, 0, .null, [])],
  [(.bipush 19, 2, 0, 0, .int 19, []), (.iadd, 1, 0, 0, .null, []), (.iload_n 3, 1, 3, 0, .null, []), (.iadd, 1, 0, 0, .null, []), (.aload_n 0, 1, 0, 0, .null, []), (.getfield 31, 3, 10, 19, .null, []), (.iload_n 3, 1, 3, 0, .null, []), (.iaload, 1, 0, 0, .null, []), (.iastore, 1, 0, 0, .null, []), (.aload_n 1, 1, 1, 0, .null, []), (.iload_n 2, 1, 2, 0, .null, []), (.bipush 27, 2, 0, 0, .int 27, []), (.iadd, 1, 0, 0, .null, []), (.iload_n 3, 1, 3, 0, .null, []), (.iadd, 1, 0, 0, .null, []), (.aload_n 0, 1, 0, 0, .null, [])],
  [(.getfield 34, 3, 10, 20, .null, []), (.iload_n 3, 1, 3, 0, .null, []), (.iaload, 1, 0, 0, .null, []), (.iastore, 1, 0, 0, .null, []), (.iinc 3 1, 3, 3, 0, .int 1, []), (.goto (-64), 3, 21, 0, .null, []), (.return_, 1, 0, 0, .null, [])]]
def M_Mo_laysBy : am_M := (⟨"SpiteLineModel", "laysBy", "([II)V"⟩, prog_12_method_26_code, 4, none, 10, (0, 0), K_Mo_laysBy, [[0, 1, 2, 3, 6, 7, 8, 9, 10, 11, 12, 15, 16, 17, 18, 19], [20, 21, 24, 25, 26, 27, 28, 30, 33, 34, 35, 36, 37, 38, 39, 40], [43, 44, 45, 46, 47, 48, 50, 51, 52, 53, 54, 57, 58, 59, 60, 61], [62, 64, 65, 66, 67, 68, 71, 72, 73, 74, 75, 76, 78, 79, 80, 81], [82, 85, 86, 87, 88, 91, 94]])
def K_Mo_feet : List (List am_I) := [[(.aload_n 0, 1, 0, 0, .null, []), (.iload_n 1, 1, 1, 0, .null, []), (.invokevirtual 161, 3, 109, 2, .null, []), (.ifCond .ne 6, 3, 6, 0, .null, []), (.ldc 164, 2, 0, 0, .int (-1000000001), []), (.ireturn, 1, 0, 0, .null, []), (.aload_n 0, 1, 0, 0, .null, []), (.invokevirtual 172, 3, 113, 1, .null, []), (.aload_n 0, 1, 0, 0, .null, []), (.getfield 31, 3, 10, 19, .null, []), (.iload_n 1, 1, 1, 0, .null, []), (.iaload, 1, 0, 0, .null, []), (.istore_n 3, 1, 3, 0, .null, []), (.aload_n 0, 1, 0, 0, .null, []), (.getfield 31, 3, 10, 19, .null, []), (.iload_n 1, 1, 1, 0, .null, [])],
  [(.iload_n 2, 1, 2, 0, .null, []), (.ifCond .eq 7, 3, 20, 0, .null, []), (.iconst 1, 1, 0, 0, .int 1, []), (.goto 4, 3, 21, 0, .null, []), (.iconst 0, 1, 0, 0, .int 0, []), (.iastore, 1, 0, 0, .null, []), (.iload_n 3, 1, 3, 0, .null, []), (.ireturn, 1, 0, 0, .null, [])]]
def M_Mo_feet : am_M := (⟨"SpiteLineModel", "feet", "(IZ)I"⟩, prog_12_method_30_code, 4, (some .int), 10, (2, 44), K_Mo_feet, [[0, 1, 2, 5, 8, 10, 11, 12, 15, 16, 19, 20, 21, 22, 23, 26], [27, 28, 31, 32, 35, 36, 37, 38]])
def K_Mo_flowers : List (List am_I) := [[(.aload_n 0, 1, 0, 0, .null, []), (.iload_n 1, 1, 1, 0, .null, []), (.invokevirtual 161, 3, 109, 2, .null, []), (.ifCond .ne 6, 3, 6, 0, .null, []), (.ldc 164, 2, 0, 0, .int (-1000000001), []), (.ireturn, 1, 0, 0, .null, []), (.aload_n 0, 1, 0, 0, .null, []), (.invokevirtual 172, 3, 113, 1, .null, []), (.aload_n 0, 1, 0, 0, .null, []), (.getfield 34, 3, 10, 20, .null, []), (.iload_n 1, 1, 1, 0, .null, []), (.iaload, 1, 0, 0, .null, []), (.istore_n 3, 1, 3, 0, .null, []), (.aload_n 0, 1, 0, 0, .null, []), (.getfield 34, 3, 10, 20, .null, []), (.iload_n 1, 1, 1, 0, .null, [])],
  [(.iload_n 2, 1, 2, 0, .null, []), (.ifCond .eq 7, 3, 20, 0, .null, []), (.iconst 1, 1, 0, 0, .int 1, []), (.goto 4, 3, 21, 0, .null, []), (.iconst 0, 1, 0, 0, .int 0, []), (.iastore, 1, 0, 0, .null, []), (.iload_n 3, 1, 3, 0, .null, []), (.ireturn, 1, 0, 0, .null, [])]]
def M_Mo_flowers : am_M := (⟨"SpiteLineModel", "flowers", "(IZ)I"⟩, prog_12_method_31_code, 4, (some .int), 10, (2, 44), K_Mo_flowers, [[0, 1, 2, 5, 8, 10, 11, 12, 15, 16, 19, 20, 21, 22, 23, 26], [27, 28, 31, 32, 35, 36, 37, 38]])
def K_Mo_walk : List (List am_I) := [[(.aload_n 0, 1, 0, 0, .null, []), (.iload_n 1, 1, 1, 0, .null, []), (.invokevirtual 161, 3, 109, 2, .null, []), (.ifCond .eq 11, 3, 8, 0, .null, []), (.aload_n 0, 1, 0, 0, .null, []), (.iload_n 2, 1, 2, 0, .null, []), (.invokevirtual 165, 3, 111, 2, .null, []), (.ifCond .ne 6, 3, 10, 0, .null, []), (.ldc 164, 2, 0, 0, .int (-1000000001), []), (.ireturn, 1, 0, 0, .null, []), (.aload_n 0, 1, 0, 0, .null, []), (.invokevirtual 172, 3, 113, 1, .null, []), (.iload_n 2, 1, 2, 0, .null, []), (.aload_n 0, 1, 0, 0, .null, []), (.getfield 19, 3, 10, 15, .null, []), (.iload_n 1, 1, 1, 0, .null, [])],
  [(.iaload, 1, 0, 0, .null, []), (.isub, 1, 0, 0, .null, []), (.istore_n 3, 1, 3, 0, .null, []), (.aload_n 0, 1, 0, 0, .null, []), (.getfield 19, 3, 10, 15, .null, []), (.iload_n 1, 1, 1, 0, .null, []), (.iload_n 2, 1, 2, 0, .null, []), (.iastore, 1, 0, 0, .null, []), (.iload_n 3, 1, 3, 0, .null, []), (.ifCond .ge 8, 3, 29, 0, .null, []), (.iload_n 3, 1, 3, 0, .null, []), (.ineg, 1, 0, 0, .null, []), (.goto 4, 3, 30, 0, .null, []), (.iload_n 3, 1, 3, 0, .null, []), (.ireturn, 1, 0, 0, .null, [])]]
def M_Mo_walk : am_M := (⟨"SpiteLineModel", "walk", "(II)I"⟩, prog_12_method_32_code, 4, (some .int), 10, (2, 44), K_Mo_walk, [[0, 1, 2, 5, 8, 9, 10, 13, 16, 18, 19, 20, 23, 24, 25, 28], [29, 30, 31, 32, 33, 36, 37, 38, 39, 40, 43, 44, 45, 48, 49]])
def K_Mo_fog : List (List am_I) := [[(.iload_n 1, 1, 1, 0, .null, []), (.iconst 0, 1, 0, 0, .int 0, []), (.bipush 9, 2, 0, 0, .int 9, []), (.invokestatic 69, 3, 91, 3, .null, []), (.ifCond .ne 6, 3, 7, 0, .null, []), (.ldc 73, 2, 0, 0, .int (-1000000002), []), (.ireturn, 1, 0, 0, .null, []), (.aload_n 0, 1, 0, 0, .null, []), (.getfield 121, 3, 10, 9, .null, []), (.ifCond .ne 6, 3, 12, 0, .null, []), (.ldc 175, 2, 0, 0, .int (-1000000003), []), (.ireturn, 1, 0, 0, .null, []), (.aload_n 0, 1, 0, 0, .null, []), (.invokevirtual 172, 3, 113, 1, .null, []), (.aload_n 0, 1, 0, 0, .null, []), (.getfield 127, 3, 10, 11, .null, [])],
  [(.istore_n 2, 1, 2, 0, .null, []), (.aload_n 0, 1, 0, 0, .null, []), (.iload_n 1, 1, 1, 0, .null, []), (.putfield 127, 3, 10, 11, .null, []), (.iload_n 2, 1, 2, 0, .null, []), (.ireturn, 1, 0, 0, .null, [])]]
def M_Mo_fog : am_M := (⟨"SpiteLineModel", "fog", "(I)I"⟩, prog_12_method_33_code, 3, (some .int), 10, (2, 44), K_Mo_fog, [[0, 1, 2, 4, 7, 10, 12, 13, 14, 17, 20, 22, 23, 24, 27, 28], [31, 32, 33, 34, 37, 38]])
def K_Mo_train : List (List am_I) := [[(.iload_n 1, 1, 1, 0, .null, []), (.iconst 1, 1, 0, 0, .int 1, []), (.bipush 20, 2, 0, 0, .int 20, []), (.invokestatic 69, 3, 91, 3, .null, []), (.ifCond .ne 6, 3, 7, 0, .null, []), (.ldc 73, 2, 0, 0, .int (-1000000002), []), (.ireturn, 1, 0, 0, .null, []), (.aload_n 0, 1, 0, 0, .null, []), (.getfield 121, 3, 10, 9, .null, []), (.ifCond .ne 6, 3, 12, 0, .null, []), (.ldc 175, 2, 0, 0, .int (-1000000003), []), (.ireturn, 1, 0, 0, .null, []), (.aload_n 0, 1, 0, 0, .null, []), (.getfield 133, 3, 10, 13, .null, []), (.sipush 9000, 3, 0, 0, .int 9000, []), (.if_icmp .le 6, 3, 18, 0, .null, [])],
  [(.ldc 77, 2, 0, 0, .int (-1000000004), []), (.ireturn, 1, 0, 0, .null, []), (.iconst 0, 1, 0, 0, .int 0, []), (.istore_n 2, 1, 2, 0, .null, []), (.iload_n 2, 1, 2, 0, .null, []), (.iload_n 1, 1, 1, 0, .null, []), (.if_icmp .ge 18, 3, 30, 0, .null, []), (.aload_n 0, 1, 0, 0, .null, []), (.invokevirtual 172, 3, 113, 1, .null, []), (.aload_n 0, 1, 0, 0, .null, []), (.iconst 0, 1, 0, 0, .int 0, []), (.invokevirtual 183, 3, 120, 2, .null, []), (.iinc 2 1, 3, 2, 0, .int 1, []), (.goto (-17), 3, 20, 0, .null, []), (.aload_n 0, 1, 0, 0, .null, []), (.invokevirtual 158, 3, 107, 1, .null, [])],
  [(.ireturn, 1, 0, 0, .null, [])]]
def M_Mo_train : am_M := (⟨"SpiteLineModel", "train", "(I)I"⟩, prog_12_method_36_code, 3, (some .int), 10, (3, 70), K_Mo_train, [[0, 1, 2, 4, 7, 10, 12, 13, 14, 17, 20, 22, 23, 24, 27, 30], [33, 35, 36, 37, 38, 39, 40, 43, 44, 47, 48, 49, 52, 55, 58, 59], [62]])
def K_Mo_run : List (List am_I) := [[(.iconst 0, 1, 0, 0, .int 0, []), (.istore_n 2, 1, 2, 0, .null, []), (.iconst 0, 1, 0, 0, .int 0, []), (.istore_n 3, 1, 3, 0, .null, []), (.iload_n 3, 1, 3, 0, .null, []), (.aload_n 0, 1, 0, 0, .null, []), (.getfield 121, 3, 10, 9, .null, []), (.if_icmp .ge 152, 3, 86, 0, .null, []), (.iload_n 1, 1, 1, 0, .null, []), (.iload_n 3, 1, 3, 0, .null, []), (.invokestatic 176, 3, 121, 2, .null, []), (.ifCond .ne 15, 3, 18, 0, .null, []), (.aload_n 0, 1, 0, 0, .null, []), (.iload_n 3, 1, 3, 0, .null, []), (.invokevirtual 152, 3, 105, 2, .null, []), (.ifCond .ne 7, 3, 18, 0, .null, [])],
  [(.iconst 1, 1, 0, 0, .int 1, []), (.goto 4, 3, 19, 0, .null, []), (.iconst 0, 1, 0, 0, .int 0, []), (.istore 4, 2, 4, 0, .null, []), (.iconst 0, 1, 0, 0, .int 0, []), (.istore 5, 2, 5, 0, .null, []), (.iconst 0, 1, 0, 0, .int 0, []), (.istore 6, 2, 6, 0, .null, []), (.iload 6, 2, 6, 0, .null, []), (.aload_n 0, 1, 0, 0, .null, []), (.getfield 130, 3, 10, 12, .null, []), (.if_icmp .ge 33, 3, 44, 0, .null, []), (.iload 5, 2, 5, 0, .null, []), (.aload_n 0, 1, 0, 0, .null, []), (.getfield 19, 3, 10, 15, .null, []), (.iload 6, 2, 6, 0, .null, [])],
  [(.iaload, 1, 0, 0, .null, []), (.iload_n 3, 1, 3, 0, .null, []), (.if_icmp .ne 10, 3, 39, 0, .null, []), (.iconst 1, 1, 0, 0, .int 1, []), (.iload 6, 2, 6, 0, .null, []), (.ishl, 1, 0, 0, .null, []), (.goto 4, 3, 40, 0, .null, []), (.iconst 0, 1, 0, 0, .int 0, []), (.ior, 1, 0, 0, .null, []), (.istore 5, 2, 5, 0, .null, []), (.iinc 6 1, 3, 6, 0, .int 1, []), (.goto (-36), 3, 24, 0, .null, []), (.iload 4, 2, 4, 0, .null, []), (.ifCond .eq 73, 3, 84, 0, .null, []), (.iload_n 2, 1, 2, 0, .null, []), (.iconst 1, 1, 0, 0, .int 1, [])],
  [(.iload_n 3, 1, 3, 0, .null, []), (.ishl, 1, 0, 0, .null, []), (.ior, 1, 0, 0, .null, []), (.istore_n 2, 1, 2, 0, .null, []), (.aload_n 0, 1, 0, 0, .null, []), (.iload_n 3, 1, 3, 0, .null, []), (.iconst 0, 1, 0, 0, .int 0, []), (.invokevirtual 179, 3, 122, 3, .null, []), (.iconst 0, 1, 0, 0, .int 0, []), (.istore 6, 2, 6, 0, .null, []), (.iload 6, 2, 6, 0, .null, []), (.aload_n 0, 1, 0, 0, .null, []), (.getfield 130, 3, 10, 12, .null, []), (.if_icmp .ge 49, 3, 84, 0, .null, []), (.aload_n 0, 1, 0, 0, .null, []), (.getfield 19, 3, 10, 15, .null, [])],
  [(.iload 6, 2, 6, 0, .null, []), (.iload 5, 2, 5, 0, .null, []), (.iload 6, 2, 6, 0, .null, []), (.invokestatic 176, 3, 121, 2, .null, []), (.ifCond .eq 19, 3, 77, 0, .null, []), (.aload_n 0, 1, 0, 0, .null, []), (.getfield 22, 3, 10, 16, .null, []), (.iload 6, 2, 6, 0, .null, []), (.iaload, 1, 0, 0, .null, []), (.iload_n 3, 1, 3, 0, .null, []), (.if_icmp .le 8, 3, 77, 0, .null, []), (.bipush (-2), 2, 0, 0, .int (-2), []), (.goto 10, 3, 81, 0, .null, []), (.aload_n 0, 1, 0, 0, .null, []), (.getfield 19, 3, 10, 15, .null, []), (.iload 6, 2, 6, 0, .null, [])],
  [(.iaload, 1, 0, 0, .null, []), (.iastore, 1, 0, 0, .null, []), (.iinc 6 1, 3, 6, 0, .int 1, []), (.goto (-52), 3, 58, 0, .null, []), (.iinc 3 1, 3, 3, 0, .int 1, []), (.goto (-154), 3, 4, 0, .null, []), (.aload_n 0, 1, 0, 0, .null, []), (.aload_n 0, 1, 0, 0, .null, []), (.getfield 121, 3, 10, 9, .null, []), (.iconst 1, 1, 0, 0, .int 1, []), (.isub, 1, 0, 0, .null, []), (.iconst 1, 1, 0, 0, .int 1, []), (.invokevirtual 179, 3, 122, 3, .null, []), (.aload_n 0, 1, 0, 0, .null, []), (.iload_n 2, 1, 2, 0, .null, []), (.putfield 136, 3, 10, 14, .null, [])],
  [(.aload_n 0, 1, 0, 0, .null, []), (.dup, 1, 0, 0, .null, []), (.getfield 133, 3, 10, 13, .null, []), (.iconst 1, 1, 0, 0, .int 1, []), (.iadd, 1, 0, 0, .null, []), (.putfield 133, 3, 10, 13, .null, []), (.return_, 1, 0, 0, .null, [])]]
def M_Mo_run : am_M := (⟨"SpiteLineModel", "run", "(I)V"⟩, prog_12_method_35_code, 7, none, 10, (2, 44), K_Mo_run, [[0, 1, 2, 3, 4, 5, 6, 9, 12, 13, 14, 17, 20, 21, 22, 25], [28, 29, 32, 33, 35, 36, 38, 39, 41, 43, 44, 47, 50, 52, 53, 56], [58, 59, 60, 63, 64, 66, 67, 70, 71, 72, 74, 77, 80, 82, 85, 86], [87, 88, 89, 90, 91, 92, 93, 94, 97, 98, 100, 102, 103, 106, 109, 110], [113, 115, 117, 119, 122, 125, 126, 129, 131, 132, 133, 136, 138, 141, 142, 145], [147, 148, 149, 152, 155, 158, 161, 162, 163, 166, 167, 168, 169, 172, 173, 174], [177, 178, 179, 182, 183, 184, 187]])
def K_Mo_has : List (List am_I) := [[(.iload_n 0, 1, 0, 0, .null, []), (.iload_n 1, 1, 1, 0, .null, []), (.ishr, 1, 0, 0, .null, []), (.iconst 1, 1, 0, 0, .int 1, []), (.iand, 1, 0, 0, .null, []), (.iconst 1, 1, 0, 0, .int 1, []), (.if_icmp .ne 7, 3, 9, 0, .null, []), (.iconst 1, 1, 0, 0, .int 1, []), (.goto 4, 3, 10, 0, .null, []), (.iconst 0, 1, 0, 0, .int 0, []), (.ireturn, 1, 0, 0, .null, [])]]
def M_Mo_has : am_M := (⟨"SpiteLineModel", "has", "(II)Z"⟩, prog_12_method_3_code, 2, (some .boolean), 10, (0, 0), K_Mo_has, [[0, 1, 2, 3, 4, 5, 6, 9, 10, 13, 14]])
def K_Mo_getOut : List (List am_I) := [[(.iconst 0, 1, 0, 0, .int 0, []), (.istore_n 3, 1, 3, 0, .null, []), (.iload_n 3, 1, 3, 0, .null, []), (.aload_n 0, 1, 0, 0, .null, []), (.getfield 130, 3, 10, 12, .null, []), (.if_icmp .ge 78, 3, 48, 0, .null, []), (.aload_n 0, 1, 0, 0, .null, []), (.getfield 25, 3, 10, 17, .null, []), (.iload_n 3, 1, 3, 0, .null, []), (.iaload, 1, 0, 0, .null, []), (.iconst (-1), 1, 0, 0, .int (-1), []), (.if_icmp .eq 22, 3, 23, 0, .null, []), (.aload_n 0, 1, 0, 0, .null, []), (.getfield 19, 3, 10, 15, .null, []), (.aload_n 0, 1, 0, 0, .null, []), (.getfield 25, 3, 10, 17, .null, [])],
  [(.iload_n 3, 1, 3, 0, .null, []), (.iaload, 1, 0, 0, .null, []), (.iaload, 1, 0, 0, .null, []), (.iload_n 1, 1, 1, 0, .null, []), (.if_icmp .ne 7, 3, 23, 0, .null, []), (.iconst 1, 1, 0, 0, .int 1, []), (.goto 4, 3, 24, 0, .null, []), (.iconst 0, 1, 0, 0, .int 0, []), (.istore 4, 2, 4, 0, .null, []), (.aload_n 0, 1, 0, 0, .null, []), (.getfield 19, 3, 10, 15, .null, []), (.iload_n 3, 1, 3, 0, .null, []), (.iaload, 1, 0, 0, .null, []), (.bipush (-2), 2, 0, 0, .int (-2), []), (.if_icmp .ne 29, 3, 46, 0, .null, []), (.iload_n 2, 1, 2, 0, .null, [])],
  [(.ifCond .ne 18, 3, 41, 0, .null, []), (.aload_n 0, 1, 0, 0, .null, []), (.getfield 22, 3, 10, 16, .null, []), (.iload_n 3, 1, 3, 0, .null, []), (.iaload, 1, 0, 0, .null, []), (.iload_n 1, 1, 1, 0, .null, []), (.if_icmp .ne 15, 3, 46, 0, .null, []), (.iload 4, 2, 4, 0, .null, []), (.ifCond .ne 10, 3, 46, 0, .null, []), (.aload_n 0, 1, 0, 0, .null, []), (.getfield 19, 3, 10, 15, .null, []), (.iload_n 3, 1, 3, 0, .null, []), (.iload_n 1, 1, 1, 0, .null, []), (.iastore, 1, 0, 0, .null, []), (.iinc 3 1, 3, 3, 0, .int 1, []), (.goto (-80), 3, 2, 0, .null, [])],
  [(.return_, 1, 0, 0, .null, [])]]
def M_Mo_getOut : am_M := (⟨"SpiteLineModel", "getOut", "(IZ)V"⟩, prog_12_method_34_code, 5, none, 10, (0, 0), K_Mo_getOut, [[0, 1, 2, 3, 4, 7, 10, 11, 14, 15, 16, 17, 20, 21, 24, 25], [28, 29, 30, 31, 32, 35, 36, 39, 40, 42, 43, 46, 47, 48, 50, 53], [54, 57, 58, 61, 62, 63, 64, 67, 69, 72, 73, 76, 77, 78, 79, 82], [85]])
def K_Mo_drift : List (List am_I) := [[(.iload_n 1, 1, 1, 0, .null, []), (.iconst 1, 1, 0, 0, .int 1, []), (.bipush 20, 2, 0, 0, .int 20, []), (.invokestatic 69, 3, 91, 3, .null, []), (.ifCond .ne 6, 3, 7, 0, .null, []), (.ldc 73, 2, 0, 0, .int (-1000000002), []), (.ireturn, 1, 0, 0, .null, []), (.aload_n 0, 1, 0, 0, .null, []), (.getfield 121, 3, 10, 9, .null, []), (.ifCond .ne 6, 3, 12, 0, .null, []), (.ldc 175, 2, 0, 0, .int (-1000000003), []), (.ireturn, 1, 0, 0, .null, []), (.aload_n 0, 1, 0, 0, .null, []), (.getfield 133, 3, 10, 13, .null, []), (.sipush 9000, 3, 0, 0, .int 9000, []), (.if_icmp .le 6, 3, 18, 0, .null, [])],
  [(.ldc 77, 2, 0, 0, .int (-1000000004), []), (.ireturn, 1, 0, 0, .null, []), (.iconst 0, 1, 0, 0, .int 0, []), (.istore_n 2, 1, 2, 0, .null, []), (.iload_n 2, 1, 2, 0, .null, []), (.iload_n 1, 1, 1, 0, .null, []), (.if_icmp .ge 56, 3, 50, 0, .null, []), (.aload_n 0, 1, 0, 0, .null, []), (.invokevirtual 172, 3, 113, 1, .null, []), (.aload_n 0, 1, 0, 0, .null, []), (.getfield 130, 3, 10, 12, .null, []), (.ifCond .le 24, 3, 40, 0, .null, []), (.aload_n 0, 1, 0, 0, .null, []), (.aload_n 0, 1, 0, 0, .null, []), (.getfield 130, 3, 10, 12, .null, []), (.invokevirtual 199, 3, 124, 2, .null, [])],
  [(.istore_n 3, 1, 3, 0, .null, []), (.aload_n 0, 1, 0, 0, .null, []), (.getfield 28, 3, 10, 18, .null, []), (.iload_n 3, 1, 3, 0, .null, []), (.aload_n 0, 1, 0, 0, .null, []), (.bipush 10, 2, 0, 0, .int 10, []), (.invokevirtual 199, 3, 124, 2, .null, []), (.iastore, 1, 0, 0, .null, []), (.aload_n 0, 1, 0, 0, .null, []), (.aload_n 0, 1, 0, 0, .null, []), (.bipush 6, 2, 0, 0, .int 6, []), (.invokevirtual 199, 3, 124, 2, .null, []), (.putfield 127, 3, 10, 11, .null, []), (.aload_n 0, 1, 0, 0, .null, []), (.iconst 0, 1, 0, 0, .int 0, []), (.invokevirtual 183, 3, 120, 2, .null, [])],
  [(.iinc 2 1, 3, 2, 0, .int 1, []), (.goto (-55), 3, 20, 0, .null, []), (.aload_n 0, 1, 0, 0, .null, []), (.invokevirtual 158, 3, 107, 1, .null, []), (.ireturn, 1, 0, 0, .null, [])]]
def M_Mo_drift : am_M := (⟨"SpiteLineModel", "drift", "(I)I"⟩, prog_12_method_38_code, 4, (some .int), 10, (3, 70), K_Mo_drift, [[0, 1, 2, 4, 7, 10, 12, 13, 14, 17, 20, 22, 23, 24, 27, 30], [33, 35, 36, 37, 38, 39, 40, 43, 44, 47, 48, 51, 54, 55, 56, 59], [62, 63, 64, 67, 68, 69, 71, 74, 75, 76, 77, 79, 82, 85, 86, 87], [90, 93, 96, 97, 100]])
def K_Mo_drawn : List (List am_I) := [[(.aload_n 0, 1, 0, 0, .null, []), (.aload_n 0, 1, 0, 0, .null, []), (.getfield 187, 3, 10, 24, .null, []), (.ldc2_w 191, 3, 0, 0, .long 1103515245, []), (.lmul, 1, 0, 0, .null, []), (.ldc2_w 193, 3, 0, 0, .long 12345, []), (.ladd, 1, 0, 0, .null, []), (.ldc2_w 195, 3, 0, 0, .long 2147483648, []), (.lrem, 1, 0, 0, .null, []), (.putfield 187, 3, 10, 24, .null, []), (.aload_n 0, 1, 0, 0, .null, []), (.getfield 187, 3, 10, 24, .null, []), (.ldc2_w 197, 3, 0, 0, .long 65536, []), (.ldiv, 1, 0, 0, .null, []), (.iload_n 1, 1, 1, 0, .null, []), (.i2l, 1, 0, 0, .null, [])],
  [(.lrem, 1, 0, 0, .null, []), (.l2i, 1, 0, 0, .null, []), (.ireturn, 1, 0, 0, .null, [])]]
def M_Mo_drawn : am_M := (⟨"SpiteLineModel", "drawn", "(I)I"⟩, prog_12_method_37_code, 2, (some .int), 10, (0, 0), K_Mo_drawn, [[0, 1, 2, 5, 8, 9, 12, 13, 16, 17, 20, 21, 24, 27, 28, 29], [30, 31, 32]])
def K_Mo_undo : List (List am_I) := [[(.iload_n 1, 1, 1, 0, .null, []), (.iconst 1, 1, 0, 0, .int 1, []), (.bipush 30, 2, 0, 0, .int 30, []), (.invokestatic 69, 3, 91, 3, .null, []), (.ifCond .ne 6, 3, 7, 0, .null, []), (.ldc 73, 2, 0, 0, .int (-1000000002), []), (.ireturn, 1, 0, 0, .null, []), (.aload_n 0, 1, 0, 0, .null, []), (.getfield 139, 3, 10, 22, .null, []), (.iload_n 1, 1, 1, 0, .null, []), (.if_icmp .ge 6, 3, 13, 0, .null, []), (.ldc 175, 2, 0, 0, .int (-1000000003), []), (.ireturn, 1, 0, 0, .null, []), (.aload_n 0, 1, 0, 0, .null, []), (.dup, 1, 0, 0, .null, []), (.getfield 139, 3, 10, 22, .null, [])],
  [(.iload_n 1, 1, 1, 0, .null, []), (.isub, 1, 0, 0, .null, []), (.putfield 139, 3, 10, 22, .null, []), (.aload_n 0, 1, 0, 0, .null, []), (.aload_n 0, 1, 0, 0, .null, []), (.getfield 37, 3, 10, 21, .null, []), (.bipush 36, 2, 0, 0, .int 36, []), (.aload_n 0, 1, 0, 0, .null, []), (.getfield 139, 3, 10, 22, .null, []), (.imul, 1, 0, 0, .null, []), (.invokevirtual 202, 3, 126, 3, .null, []), (.aload_n 0, 1, 0, 0, .null, []), (.getfield 133, 3, 10, 13, .null, []), (.ireturn, 1, 0, 0, .null, [])]]
def M_Mo_undo : am_M := (⟨"SpiteLineModel", "undo", "(I)I"⟩, prog_12_method_39_code, 2, (some .int), 10, (1, 23), K_Mo_undo, [[0, 1, 2, 4, 7, 10, 12, 13, 14, 17, 18, 21, 23, 24, 25, 26], [29, 30, 31, 34, 35, 36, 39, 41, 42, 45, 46, 49, 50, 53]])
def K_Mo_read : List (List am_I) := [[(.aload_n 0, 1, 0, 0, .null, []), (.aload_n 1, 1, 1, 0, .null, []), (.iload_n 2, 1, 2, 0, .null, []), (.iaload, 1, 0, 0, .null, []), (.putfield 133, 3, 10, 13, .null, []), (.aload_n 0, 1, 0, 0, .null, []), (.aload_n 1, 1, 1, 0, .null, []), (.iload_n 2, 1, 2, 0, .null, []), (.iconst 1, 1, 0, 0, .int 1, []), (.iadd, 1, 0, 0, .null, []), (.iaload, 1, 0, 0, .null, []), (.putfield 136, 3, 10, 14, .null, []), (.aload_n 0, 1, 0, 0, .null, []), (.aload_n 1, 1, 1, 0, .null, []), (.iload_n 2, 1, 2, 0, .null, []), (.iconst 2, 1, 0, 0, .int 2, [])],
  [(.iadd, 1, 0, 0, .null, []), (.iaload, 1, 0, 0, .null, []), (.putfield 127, 3, 10, 11, .null, []), (.iconst 0, 1, 0, 0, .int 0, []), (.istore_n 3, 1, 3, 0, .null, []), (.iload_n 3, 1, 3, 0, .null, []), (.bipush 8, 2, 0, 0, .int 8, []), (.if_icmp .ge 64, 3, 70, 0, .null, []), (.aload_n 0, 1, 0, 0, .null, []), (.getfield 19, 3, 10, 15, .null, []), (.iload_n 3, 1, 3, 0, .null, []), (.aload_n 1, 1, 1, 0, .null, []), (.iload_n 2, 1, 2, 0, .null, []), (.iconst 3, 1, 0, 0, .int 3, []), (.iadd, 1, 0, 0, .null, []), (.iload_n 3, 1, 3, 0, .null, [])],
  [(.iadd, 1, 0, 0, .null, []), (.iaload, 1, 0, 0, .null, []), (.iastore, 1, 0, 0, .null, []), (.aload_n 0, 1, 0, 0, .null, []), (.getfield 28, 3, 10, 18, .null, []), (.iload_n 3, 1, 3, 0, .null, []), (.aload_n 1, 1, 1, 0, .null, []), (.iload_n 2, 1, 2, 0, .null, []), (.bipush 11, 2, 0, 0, .int 11, []), (.iadd, 1, 0, 0, .null, []), (.iload_n 3, 1, 3, 0, .null, []), (.iadd, 1, 0, 0, .null, []), (.iaload, 1, 0, 0, .null, []), (.iastore, 1, 0, 0, .null, []), (.aload_n 0, 1, 0, 0, .null, []), (.getfield 31, 3, 10, 19, .null, [])],
  [(.iload_n 3, 1, 3, 0, .null, []), (.aload_n 1, 1, 1, 0, .null, []), (.iload_n 2, 1, 2, 0, .null, []), (.bipush 19, 2, 0, 0, .int 19, []), (.iadd, 1, 0, 0, .null, []), (.iload_n 3, 1, 3, 0, .null, []), (.iadd, 1, 0, 0, .null, []), (.iaload, 1, 0, 0, .null, []), (.iastore, 1, 0, 0, .null, []), (.aload_n 0, 1, 0, 0, .null, []), (.getfield 34, 3, 10, 20, .null, []), (.iload_n 3, 1, 3, 0, .null, []), (.aload_n 1, 1, 1, 0, .null, []), (.iload_n 2, 1, 2, 0, .null, []), (.bipush 27, 2, 0, 0, .int 27, []), (.iadd, 1, 0, 0, .null, [])],
  [(.iload_n 3, 1, 3, 0, .null, []), (.iadd, 1, 0, 0, .null, []), (.iaload, 1, 0, 0, .null, []), (.iastore, 1, 0, 0, .null, []), (.iinc 3 1, 3, 3, 0, .int 1, []), (.goto (-64), 3, 21, 0, .null, []), (.return_, 1, 0, 0, .null, [])]]
def M_Mo_read : am_M := (⟨"SpiteLineModel", "read", "([II)V"⟩, prog_12_method_27_code, 4, none, 10, (0, 0), K_Mo_read, [[0, 1, 2, 3, 4, 7, 8, 9, 10, 11, 12, 13, 16, 17, 18, 19], [20, 21, 22, 25, 26, 27, 28, 30, 33, 34, 37, 38, 39, 40, 41, 42], [43, 44, 45, 46, 47, 50, 51, 52, 53, 55, 56, 57, 58, 59, 60, 61], [64, 65, 66, 67, 69, 70, 71, 72, 73, 74, 75, 78, 79, 80, 81, 83], [84, 85, 86, 87, 88, 91, 94]])
def K_Mo_stops : List (List am_I) := [[(.aload_n 0, 1, 0, 0, .null, []), (.invokevirtual 211, 3, 128, 1, .null, []), (.ireturn, 1, 0, 0, .null, [])]]
def M_Mo_stops : am_M := (⟨"SpiteLineModel", "stops", "()I"⟩, prog_12_method_43_code, 1, (some .int), 10, (4, 91), K_Mo_stops, [[0, 1, 4]])
def K_Mo_nextStops : List (List am_I) := [[(.aload_n 0, 1, 0, 0, .null, []), (.invokevirtual 205, 3, 129, 1, .null, []), (.aload_n 0, 1, 0, 0, .null, []), (.getfield 121, 3, 10, 9, .null, []), (.ifCond .le 8, 3, 8, 0, .null, []), (.aload_n 0, 1, 0, 0, .null, []), (.iconst 0, 1, 0, 0, .int 0, []), (.invokevirtual 183, 3, 120, 2, .null, []), (.aload_n 0, 1, 0, 0, .null, []), (.getfield 121, 3, 10, 9, .null, []), (.ifCond .le 10, 3, 14, 0, .null, []), (.aload_n 0, 1, 0, 0, .null, []), (.getfield 136, 3, 10, 14, .null, []), (.goto 4, 3, 15, 0, .null, []), (.iconst 0, 1, 0, 0, .int 0, []), (.istore_n 1, 1, 1, 0, .null, [])],
  [(.aload_n 0, 1, 0, 0, .null, []), (.invokevirtual 208, 3, 130, 1, .null, []), (.iload_n 1, 1, 1, 0, .null, []), (.ireturn, 1, 0, 0, .null, [])]]
def M_Mo_nextStops : am_M := (⟨"SpiteLineModel", "nextStops", "()I"⟩, prog_12_method_42_code, 2, (some .int), 10, (3, 70), K_Mo_nextStops, [[0, 1, 4, 5, 8, 11, 12, 13, 16, 17, 20, 23, 24, 27, 30, 31], [32, 33, 36, 37]])
def K_Mo_begin : List (List am_I) := [[(.aload_n 0, 1, 0, 0, .null, []), (.aload_n 0, 1, 0, 0, .null, []), (.getfield 40, 3, 10, 23, .null, []), (.iconst 0, 1, 0, 0, .int 0, []), (.invokevirtual 168, 3, 114, 3, .null, []), (.return_, 1, 0, 0, .null, [])]]
def M_Mo_begin : am_M := (⟨"SpiteLineModel", "begin", "()V"⟩, prog_12_method_40_code, 1, none, 10, (1, 23), K_Mo_begin, [[0, 1, 2, 5, 6, 9]])
def K_Mo_back : List (List am_I) := [[(.aload_n 0, 1, 0, 0, .null, []), (.aload_n 0, 1, 0, 0, .null, []), (.getfield 40, 3, 10, 23, .null, []), (.iconst 0, 1, 0, 0, .int 0, []), (.invokevirtual 202, 3, 126, 3, .null, []), (.return_, 1, 0, 0, .null, [])]]
def M_Mo_back : am_M := (⟨"SpiteLineModel", "back", "()V"⟩, prog_12_method_41_code, 1, none, 10, (1, 23), K_Mo_back, [[0, 1, 2, 5, 6, 9]])
def K_Mo_calm : List (List am_I) := [[(.iload_n 1, 1, 1, 0, .null, []), (.ifCond .lt 13, 3, 8, 0, .null, []), (.iload_n 1, 1, 1, 0, .null, []), (.iconst 1, 1, 0, 0, .int 1, []), (.aload_n 0, 1, 0, 0, .null, []), (.getfield 121, 3, 10, 9, .null, []), (.ishl, 1, 0, 0, .null, []), (.if_icmp .lt 6, 3, 10, 0, .null, []), (.ldc 164, 2, 0, 0, .int (-1000000001), []), (.ireturn, 1, 0, 0, .null, []), (.iconst 0, 1, 0, 0, .int 0, []), (.istore_n 2, 1, 2, 0, .null, []), (.iconst 0, 1, 0, 0, .int 0, []), (.istore_n 3, 1, 3, 0, .null, []), (.iload_n 3, 1, 3, 0, .null, []), (.aload_n 0, 1, 0, 0, .null, [])],
  [(.getfield 130, 3, 10, 12, .null, []), (.if_icmp .ge 55, 3, 47, 0, .null, []), (.aload_n 0, 1, 0, 0, .null, []), (.iload_n 3, 1, 3, 0, .null, []), (.invokevirtual 148, 3, 106, 2, .null, []), (.aload_n 0, 1, 0, 0, .null, []), (.getfield 124, 3, 10, 10, .null, []), (.aload_n 0, 1, 0, 0, .null, []), (.getfield 127, 3, 10, 11, .null, []), (.iadd, 1, 0, 0, .null, []), (.iconst 1, 1, 0, 0, .int 1, []), (.isub, 1, 0, 0, .null, []), (.isub, 1, 0, 0, .null, []), (.istore 4, 2, 4, 0, .null, []), (.iload_n 2, 1, 2, 0, .null, []), (.iload_n 1, 1, 1, 0, .null, [])],
  [(.aload_n 0, 1, 0, 0, .null, []), (.getfield 19, 3, 10, 15, .null, []), (.iload_n 3, 1, 3, 0, .null, []), (.iaload, 1, 0, 0, .null, []), (.invokestatic 176, 3, 121, 2, .null, []), (.ifCond .eq 13, 3, 42, 0, .null, []), (.iload 4, 2, 4, 0, .null, []), (.ifCond .le 8, 3, 42, 0, .null, []), (.iload 4, 2, 4, 0, .null, []), (.goto 4, 3, 43, 0, .null, []), (.iconst 0, 1, 0, 0, .int 0, []), (.iadd, 1, 0, 0, .null, []), (.istore_n 2, 1, 2, 0, .null, []), (.iinc 3 1, 3, 3, 0, .int 1, []), (.goto (-57), 3, 14, 0, .null, []), (.iload_n 2, 1, 2, 0, .null, [])],
  [(.ireturn, 1, 0, 0, .null, [])]]
def M_Mo_calm : am_M := (⟨"SpiteLineModel", "calm", "(I)I"⟩, prog_12_method_44_code, 5, (some .int), 10, (1, 21), K_Mo_calm, [[0, 1, 4, 5, 6, 7, 10, 11, 14, 16, 17, 18, 19, 20, 21, 22], [23, 26, 29, 30, 31, 34, 35, 38, 39, 42, 43, 44, 45, 46, 48, 49], [50, 51, 54, 55, 56, 59, 62, 64, 67, 69, 72, 73, 74, 75, 78, 81], [82]])
def K_Mo_journey : List (List am_I) := [[(.aload_n 0, 1, 0, 0, .null, []), (.iload_n 1, 1, 1, 0, .null, []), (.invokevirtual 161, 3, 109, 2, .null, []), (.ifCond .ne 6, 3, 6, 0, .null, []), (.ldc 164, 2, 0, 0, .int (-1000000001), []), (.ireturn, 1, 0, 0, .null, []), (.aload_n 0, 1, 0, 0, .null, []), (.invokevirtual 205, 3, 129, 1, .null, []), (.iconst 0, 1, 0, 0, .int 0, []), (.istore_n 2, 1, 2, 0, .null, []), (.iload_n 2, 1, 2, 0, .null, []), (.bipush 20, 2, 0, 0, .int 20, []), (.if_icmp .gt 29, 3, 27, 0, .null, []), (.aload_n 0, 1, 0, 0, .null, []), (.getfield 19, 3, 10, 15, .null, []), (.iload_n 1, 1, 1, 0, .null, [])],
  [(.iaload, 1, 0, 0, .null, []), (.aload_n 0, 1, 0, 0, .null, []), (.getfield 22, 3, 10, 16, .null, []), (.iload_n 1, 1, 1, 0, .null, []), (.iaload, 1, 0, 0, .null, []), (.if_icmp .eq 14, 3, 27, 0, .null, []), (.aload_n 0, 1, 0, 0, .null, []), (.iconst 0, 1, 0, 0, .int 0, []), (.invokevirtual 183, 3, 120, 2, .null, []), (.iinc 2 1, 3, 2, 0, .int 1, []), (.goto (-29), 3, 10, 0, .null, []), (.aload_n 0, 1, 0, 0, .null, []), (.invokevirtual 208, 3, 130, 1, .null, []), (.iload_n 2, 1, 2, 0, .null, []), (.bipush 20, 2, 0, 0, .int 20, []), (.if_icmp .le 7, 3, 34, 0, .null, [])],
  [(.iconst (-1), 1, 0, 0, .int (-1), []), (.goto 4, 3, 35, 0, .null, []), (.iload_n 2, 1, 2, 0, .null, []), (.ireturn, 1, 0, 0, .null, [])]]
def M_Mo_journey : am_M := (⟨"SpiteLineModel", "journey", "(I)I"⟩, prog_12_method_45_code, 3, (some .int), 10, (3, 70), K_Mo_journey, [[0, 1, 2, 5, 8, 10, 11, 12, 15, 16, 17, 18, 20, 23, 24, 27], [28, 29, 30, 33, 34, 35, 38, 39, 40, 43, 46, 49, 50, 53, 54, 56], [59, 60, 63, 64]])
def K_Mo_never : List (List am_I) := [[(.iload_n 1, 1, 1, 0, .null, []), (.iconst 0, 1, 0, 0, .int 0, []), (.bipush 20, 2, 0, 0, .int 20, []), (.invokestatic 69, 3, 91, 3, .null, []), (.ifCond .ne 6, 3, 7, 0, .null, []), (.ldc 73, 2, 0, 0, .int (-1000000002), []), (.ireturn, 1, 0, 0, .null, []), (.iconst 1, 1, 0, 0, .int 1, []), (.aload_n 0, 1, 0, 0, .null, []), (.getfield 121, 3, 10, 9, .null, []), (.ishl, 1, 0, 0, .null, []), (.iconst 1, 1, 0, 0, .int 1, []), (.isub, 1, 0, 0, .null, []), (.istore_n 2, 1, 2, 0, .null, []), (.aload_n 0, 1, 0, 0, .null, []), (.invokevirtual 205, 3, 129, 1, .null, [])],
  [(.iconst 0, 1, 0, 0, .int 0, []), (.istore_n 3, 1, 3, 0, .null, []), (.iload_n 3, 1, 3, 0, .null, []), (.iload_n 1, 1, 1, 0, .null, []), (.if_icmp .ge 30, 3, 36, 0, .null, []), (.aload_n 0, 1, 0, 0, .null, []), (.getfield 121, 3, 10, 9, .null, []), (.ifCond .le 23, 3, 36, 0, .null, []), (.aload_n 0, 1, 0, 0, .null, []), (.iconst 0, 1, 0, 0, .int 0, []), (.invokevirtual 183, 3, 120, 2, .null, []), (.iload_n 2, 1, 2, 0, .null, []), (.aload_n 0, 1, 0, 0, .null, []), (.getfield 136, 3, 10, 14, .null, []), (.iconst (-1), 1, 0, 0, .int (-1), []), (.ixor, 1, 0, 0, .null, [])],
  [(.iand, 1, 0, 0, .null, []), (.istore_n 2, 1, 2, 0, .null, []), (.iinc 3 1, 3, 3, 0, .int 1, []), (.goto (-29), 3, 18, 0, .null, []), (.aload_n 0, 1, 0, 0, .null, []), (.invokevirtual 208, 3, 130, 1, .null, []), (.iload_n 2, 1, 2, 0, .null, []), (.ireturn, 1, 0, 0, .null, [])]]
def M_Mo_never : am_M := (⟨"SpiteLineModel", "never", "(I)I"⟩, prog_12_method_46_code, 4, (some .int), 10, (3, 70), K_Mo_never, [[0, 1, 2, 4, 7, 10, 12, 13, 14, 15, 18, 19, 20, 21, 22, 23], [26, 27, 28, 29, 30, 33, 34, 37, 40, 41, 42, 45, 46, 47, 50, 51], [52, 53, 54, 57, 60, 61, 64, 65]])
def K_Mo_cut : List (List am_I) := [[(.aload_n 0, 1, 0, 0, .null, []), (.iload_n 1, 1, 1, 0, .null, []), (.invokevirtual 161, 3, 109, 2, .null, []), (.ifCond .ne 6, 3, 6, 0, .null, []), (.ldc 164, 2, 0, 0, .int (-1000000001), []), (.ireturn, 1, 0, 0, .null, []), (.aload_n 0, 1, 0, 0, .null, []), (.getfield 19, 3, 10, 15, .null, []), (.iload_n 1, 1, 1, 0, .null, []), (.iaload, 1, 0, 0, .null, []), (.aload_n 0, 1, 0, 0, .null, []), (.getfield 22, 3, 10, 16, .null, []), (.iload_n 1, 1, 1, 0, .null, []), (.iaload, 1, 0, 0, .null, []), (.if_icmp .ne 5, 3, 17, 0, .null, []), (.iconst (-1), 1, 0, 0, .int (-1), [])],
  [(.ireturn, 1, 0, 0, .null, []), (.aload_n 0, 1, 0, 0, .null, []), (.invokevirtual 205, 3, 129, 1, .null, []), (.iconst (-1), 1, 0, 0, .int (-1), []), (.istore_n 2, 1, 2, 0, .null, []), (.iconst 0, 1, 0, 0, .int 0, []), (.istore_n 3, 1, 3, 0, .null, []), (.iload_n 3, 1, 3, 0, .null, []), (.iconst 1, 1, 0, 0, .int 1, []), (.aload_n 0, 1, 0, 0, .null, []), (.getfield 121, 3, 10, 9, .null, []), (.ishl, 1, 0, 0, .null, []), (.if_icmp .ge 67, 3, 63, 0, .null, []), (.aload_n 0, 1, 0, 0, .null, []), (.iload_n 3, 1, 3, 0, .null, []), (.invokevirtual 183, 3, 120, 2, .null, [])],
  [(.iload_n 2, 1, 2, 0, .null, []), (.iconst (-1), 1, 0, 0, .int (-1), []), (.if_icmp .eq 14, 3, 40, 0, .null, []), (.iload_n 3, 1, 3, 0, .null, []), (.invokestatic 214, 3, 135, 1, .null, []), (.iload_n 2, 1, 2, 0, .null, []), (.invokestatic 214, 3, 135, 1, .null, []), (.if_icmp .ge 7, 3, 42, 0, .null, []), (.iconst 1, 1, 0, 0, .int 1, []), (.goto 4, 3, 43, 0, .null, []), (.iconst 0, 1, 0, 0, .int 0, []), (.istore 4, 2, 4, 0, .null, []), (.aload_n 0, 1, 0, 0, .null, []), (.getfield 19, 3, 10, 15, .null, []), (.iload_n 1, 1, 1, 0, .null, []), (.iaload, 1, 0, 0, .null, [])],
  [(.aload_n 0, 1, 0, 0, .null, []), (.getfield 22, 3, 10, 16, .null, []), (.iload_n 1, 1, 1, 0, .null, []), (.iaload, 1, 0, 0, .null, []), (.if_icmp .eq 12, 3, 57, 0, .null, []), (.iload 4, 2, 4, 0, .null, []), (.ifCond .eq 7, 3, 57, 0, .null, []), (.iload_n 3, 1, 3, 0, .null, []), (.goto 4, 3, 58, 0, .null, []), (.iload_n 2, 1, 2, 0, .null, []), (.istore_n 2, 1, 2, 0, .null, []), (.aload_n 0, 1, 0, 0, .null, []), (.invokevirtual 208, 3, 130, 1, .null, []), (.iinc 3 1, 3, 3, 0, .int 1, []), (.goto (-71), 3, 23, 0, .null, []), (.iload_n 2, 1, 2, 0, .null, [])],
  [(.ireturn, 1, 0, 0, .null, [])]]
def M_Mo_cut : am_M := (⟨"SpiteLineModel", "cut", "(I)I"⟩, prog_12_method_47_code, 5, (some .int), 10, (3, 70), K_Mo_cut, [[0, 1, 2, 5, 8, 10, 11, 12, 15, 16, 17, 18, 21, 22, 23, 26], [27, 28, 29, 32, 33, 34, 35, 36, 37, 38, 39, 42, 43, 46, 47, 48], [51, 52, 53, 56, 57, 60, 61, 64, 67, 68, 71, 72, 74, 75, 78, 79], [80, 81, 84, 85, 86, 89, 91, 94, 95, 98, 99, 100, 101, 104, 107, 110], [111]])
def K_Mo_bits : List (List am_I) := [[(.iconst 0, 1, 0, 0, .int 0, []), (.istore_n 1, 1, 1, 0, .null, []), (.iconst 0, 1, 0, 0, .int 0, []), (.istore_n 2, 1, 2, 0, .null, []), (.iload_n 2, 1, 2, 0, .null, []), (.bipush 9, 2, 0, 0, .int 9, []), (.if_icmp .ge 17, 3, 17, 0, .null, []), (.iload_n 1, 1, 1, 0, .null, []), (.iload_n 0, 1, 0, 0, .null, []), (.iload_n 2, 1, 2, 0, .null, []), (.ishr, 1, 0, 0, .null, []), (.iconst 1, 1, 0, 0, .int 1, []), (.iand, 1, 0, 0, .null, []), (.iadd, 1, 0, 0, .null, []), (.istore_n 1, 1, 1, 0, .null, []), (.iinc 2 1, 3, 2, 0, .int 1, [])],
  [(.goto (-17), 3, 4, 0, .null, []), (.iload_n 1, 1, 1, 0, .null, []), (.ireturn, 1, 0, 0, .null, [])]]
def M_Mo_bits : am_M := (⟨"SpiteLineModel", "bits", "(I)I"⟩, prog_12_method_4_code, 3, (some .int), 10, (0, 0), K_Mo_bits, [[0, 1, 2, 3, 4, 5, 7, 10, 11, 12, 13, 14, 15, 16, 17, 18], [21, 24, 25]])
def K_Mo_aunts : List (List am_I) := [[(.aload_n 0, 1, 0, 0, .null, []), (.iload_n 1, 1, 1, 0, .null, []), (.invokevirtual 161, 3, 109, 2, .null, []), (.ifCond .eq 11, 3, 8, 0, .null, []), (.aload_n 0, 1, 0, 0, .null, []), (.iload_n 2, 1, 2, 0, .null, []), (.invokevirtual 165, 3, 111, 2, .null, []), (.ifCond .ne 6, 3, 10, 0, .null, []), (.ldc 164, 2, 0, 0, .int (-1000000001), []), (.ireturn, 1, 0, 0, .null, []), (.aload_n 0, 1, 0, 0, .null, []), (.getfield 25, 3, 10, 17, .null, []), (.iload_n 1, 1, 1, 0, .null, []), (.iaload, 1, 0, 0, .null, []), (.istore_n 3, 1, 3, 0, .null, []), (.iconst 0, 1, 0, 0, .int 0, [])],
  [(.istore 4, 2, 4, 0, .null, []), (.aload_n 0, 1, 0, 0, .null, []), (.invokevirtual 205, 3, 129, 1, .null, []), (.iconst 0, 1, 0, 0, .int 0, []), (.istore 5, 2, 5, 0, .null, []), (.iload 5, 2, 5, 0, .null, []), (.bipush 8, 2, 0, 0, .int 8, []), (.if_icmp .gt 82, 3, 65, 0, .null, []), (.iload 5, 2, 5, 0, .null, []), (.bipush 8, 2, 0, 0, .int 8, []), (.if_icmp .eq 18, 3, 34, 0, .null, []), (.iload 5, 2, 5, 0, .null, []), (.aload_n 0, 1, 0, 0, .null, []), (.getfield 130, 3, 10, 12, .null, []), (.if_icmp .ge 60, 3, 63, 0, .null, []), (.iload 5, 2, 5, 0, .null, [])],
  [(.iload_n 1, 1, 1, 0, .null, []), (.if_icmp .eq 54, 3, 63, 0, .null, []), (.aload_n 0, 1, 0, 0, .null, []), (.getfield 25, 3, 10, 17, .null, []), (.iload_n 1, 1, 1, 0, .null, []), (.iload 5, 2, 5, 0, .null, []), (.bipush 8, 2, 0, 0, .int 8, []), (.if_icmp .ne 7, 3, 42, 0, .null, []), (.iconst (-1), 1, 0, 0, .int (-1), []), (.goto 5, 3, 43, 0, .null, []), (.iload 5, 2, 5, 0, .null, []), (.iastore, 1, 0, 0, .null, []), (.aload_n 0, 1, 0, 0, .null, []), (.iconst 0, 1, 0, 0, .int 0, []), (.invokevirtual 183, 3, 120, 2, .null, []), (.iload 4, 2, 4, 0, .null, [])],
  [(.aload_n 0, 1, 0, 0, .null, []), (.getfield 19, 3, 10, 15, .null, []), (.iload_n 1, 1, 1, 0, .null, []), (.iaload, 1, 0, 0, .null, []), (.iload_n 2, 1, 2, 0, .null, []), (.if_icmp .ne 10, 3, 58, 0, .null, []), (.iconst 1, 1, 0, 0, .int 1, []), (.iload 5, 2, 5, 0, .null, []), (.ishl, 1, 0, 0, .null, []), (.goto 4, 3, 59, 0, .null, []), (.iconst 0, 1, 0, 0, .int 0, []), (.ior, 1, 0, 0, .null, []), (.istore 4, 2, 4, 0, .null, []), (.aload_n 0, 1, 0, 0, .null, []), (.invokevirtual 208, 3, 130, 1, .null, []), (.iinc 5 1, 3, 5, 0, .int 1, [])],
  [(.goto (-83), 3, 21, 0, .null, []), (.aload_n 0, 1, 0, 0, .null, []), (.getfield 25, 3, 10, 17, .null, []), (.iload_n 1, 1, 1, 0, .null, []), (.iload_n 3, 1, 3, 0, .null, []), (.iastore, 1, 0, 0, .null, []), (.iload 4, 2, 4, 0, .null, []), (.ireturn, 1, 0, 0, .null, [])]]
def M_Mo_aunts : am_M := (⟨"SpiteLineModel", "aunts", "(II)I"⟩, prog_12_method_48_code, 6, (some .int), 10, (3, 70), K_Mo_aunts, [[0, 1, 2, 5, 8, 9, 10, 13, 16, 18, 19, 20, 23, 24, 25, 26], [27, 29, 30, 33, 34, 36, 38, 40, 43, 45, 47, 50, 52, 53, 56, 59], [61, 62, 65, 66, 69, 70, 72, 74, 77, 78, 81, 83, 84, 85, 86, 89], [91, 92, 95, 96, 97, 98, 101, 102, 104, 105, 108, 109, 110, 112, 113, 116], [119, 122, 123, 126, 127, 128, 129, 131]])
def K_Mo_chance : List (List am_I) := [[(.aload_n 0, 1, 0, 0, .null, []), (.iload_n 1, 1, 1, 0, .null, []), (.invokevirtual 165, 3, 111, 2, .null, []), (.ifCond .ne 6, 3, 6, 0, .null, []), (.ldc 164, 2, 0, 0, .int (-1000000001), []), (.ireturn, 1, 0, 0, .null, []), (.iload_n 2, 1, 2, 0, .null, []), (.iconst 0, 1, 0, 0, .int 0, []), (.bipush 100, 2, 0, 0, .int 100, []), (.invokestatic 69, 3, 91, 3, .null, []), (.ifCond .ne 6, 3, 13, 0, .null, []), (.ldc 73, 2, 0, 0, .int (-1000000002), []), (.ireturn, 1, 0, 0, .null, []), (.ldc2_w 217, 3, 0, 0, .long 1000000000, []), (.lstore_n 3, 1, 3, 0, .null, []), (.iconst 0, 1, 0, 0, .int 0, [])],
  [(.istore 5, 2, 5, 0, .null, []), (.iload 5, 2, 5, 0, .null, []), (.aload_n 0, 1, 0, 0, .null, []), (.getfield 130, 3, 10, 12, .null, []), (.if_icmp .ge 65, 3, 55, 0, .null, []), (.iload_n 2, 1, 2, 0, .null, []), (.aload_n 0, 1, 0, 0, .null, []), (.iload 5, 2, 5, 0, .null, []), (.invokevirtual 148, 3, 106, 2, .null, []), (.imul, 1, 0, 0, .null, []), (.bipush 100, 2, 0, 0, .int 100, []), (.if_icmp .le 8, 3, 30, 0, .null, []), (.bipush 100, 2, 0, 0, .int 100, []), (.goto 11, 3, 35, 0, .null, []), (.iload_n 2, 1, 2, 0, .null, []), (.aload_n 0, 1, 0, 0, .null, [])],
  [(.iload 5, 2, 5, 0, .null, []), (.invokevirtual 148, 3, 106, 2, .null, []), (.imul, 1, 0, 0, .null, []), (.istore 6, 2, 6, 0, .null, []), (.aload_n 0, 1, 0, 0, .null, []), (.getfield 19, 3, 10, 15, .null, []), (.iload 5, 2, 5, 0, .null, []), (.iaload, 1, 0, 0, .null, []), (.iload_n 1, 1, 1, 0, .null, []), (.if_icmp .ne 18, 3, 51, 0, .null, []), (.lload_n 3, 1, 3, 0, .null, []), (.bipush 100, 2, 0, 0, .int 100, []), (.iload 6, 2, 6, 0, .null, []), (.isub, 1, 0, 0, .null, []), (.i2l, 1, 0, 0, .null, []), (.lmul, 1, 0, 0, .null, [])],
  [(.ldc2_w 219, 3, 0, 0, .long 100, []), (.ldiv, 1, 0, 0, .null, []), (.goto 4, 3, 52, 0, .null, []), (.lload_n 3, 1, 3, 0, .null, []), (.lstore_n 3, 1, 3, 0, .null, []), (.iinc 5 1, 3, 5, 0, .int 1, []), (.goto (-68), 3, 17, 0, .null, []), (.lload_n 3, 1, 3, 0, .null, []), (.l2i, 1, 0, 0, .null, []), (.ireturn, 1, 0, 0, .null, [])]]
def M_Mo_chance : am_M := (⟨"SpiteLineModel", "chance", "(II)I"⟩, prog_12_method_49_code, 7, (some .int), 10, (2, 43), K_Mo_chance, [[0, 1, 2, 5, 8, 10, 11, 12, 13, 15, 18, 21, 23, 24, 27, 28], [29, 31, 33, 34, 37, 40, 41, 42, 44, 47, 48, 50, 53, 55, 58, 59], [60, 62, 65, 66, 68, 69, 72, 74, 75, 76, 79, 80, 82, 84, 85, 86], [87, 90, 91, 94, 95, 96, 99, 102, 103, 104]])
def K_Mo_ran : List (List am_I) := [[(.aload_n 0, 1, 0, 0, .null, []), (.iload_n 1, 1, 1, 0, .null, []), (.invokevirtual 165, 3, 111, 2, .null, []), (.ifCond .ne 6, 3, 6, 0, .null, []), (.ldc 164, 2, 0, 0, .int (-1000000001), []), (.ireturn, 1, 0, 0, .null, []), (.aload_n 0, 1, 0, 0, .null, []), (.getfield 142, 3, 10, 27, .null, []), (.bipush 8, 2, 0, 0, .int 8, []), (.if_icmp .ne 6, 3, 12, 0, .null, []), (.ldc 77, 2, 0, 0, .int (-1000000004), []), (.ireturn, 1, 0, 0, .null, []), (.aload_n 0, 1, 0, 0, .null, []), (.getfield 43, 3, 10, 25, .null, []), (.aload_n 0, 1, 0, 0, .null, []), (.getfield 142, 3, 10, 27, .null, [])],
  [(.iload_n 1, 1, 1, 0, .null, []), (.iastore, 1, 0, 0, .null, []), (.aload_n 0, 1, 0, 0, .null, []), (.getfield 46, 3, 10, 26, .null, []), (.aload_n 0, 1, 0, 0, .null, []), (.getfield 142, 3, 10, 27, .null, []), (.iload_n 2, 1, 2, 0, .null, []), (.ifCond .eq 7, 3, 26, 0, .null, []), (.iconst 1, 1, 0, 0, .int 1, []), (.goto 4, 3, 27, 0, .null, []), (.iconst 0, 1, 0, 0, .int 0, []), (.iastore, 1, 0, 0, .null, []), (.aload_n 0, 1, 0, 0, .null, []), (.dup, 1, 0, 0, .null, []), (.getfield 142, 3, 10, 27, .null, []), (.iconst 1, 1, 0, 0, .int 1, [])],
  [(.iadd, 1, 0, 0, .null, []), (.putfield 142, 3, 10, 27, .null, []), (.aload_n 0, 1, 0, 0, .null, []), (.getfield 142, 3, 10, 27, .null, []), (.ireturn, 1, 0, 0, .null, [])]]
def M_Mo_ran : am_M := (⟨"SpiteLineModel", "ran", "(IZ)I"⟩, prog_12_method_50_code, 3, (some .int), 10, (2, 43), K_Mo_ran, [[0, 1, 2, 5, 8, 10, 11, 12, 15, 17, 20, 22, 23, 24, 27, 28], [31, 32, 33, 34, 37, 38, 41, 42, 45, 46, 49, 50, 51, 52, 53, 56], [57, 58, 61, 62, 65]])
def K_Mo_hoped : List (List am_I) := [[(.aload_n 0, 1, 0, 0, .null, []), (.invokevirtual 227, 3, 140, 1, .null, []), (.iload_n 1, 1, 1, 0, .null, []), (.iconst (-1), 1, 0, 0, .int (-1), []), (.if_icmp .ne 10, 3, 8, 0, .null, []), (.aload_n 0, 1, 0, 0, .null, []), (.getfield 221, 3, 10, 29, .null, []), (.goto 27, 3, 22, 0, .null, []), (.iload_n 1, 1, 1, 0, .null, []), (.iconst 0, 1, 0, 0, .int 0, []), (.aload_n 0, 1, 0, 0, .null, []), (.getfield 221, 3, 10, 29, .null, []), (.iconst 1, 1, 0, 0, .int 1, []), (.isub, 1, 0, 0, .null, []), (.invokestatic 69, 3, 91, 3, .null, []), (.ifCond .eq 12, 3, 21, 0, .null, [])],
  [(.aload_n 0, 1, 0, 0, .null, []), (.getfield 49, 3, 10, 28, .null, []), (.iload_n 1, 1, 1, 0, .null, []), (.iaload, 1, 0, 0, .null, []), (.goto 4, 3, 22, 0, .null, []), (.iconst (-1), 1, 0, 0, .int (-1), []), (.ireturn, 1, 0, 0, .null, [])]]
def M_Mo_hoped : am_M := (⟨"SpiteLineModel", "hoped", "(I)I"⟩, prog_12_method_53_code, 2, (some .int), 10, (5, 116), K_Mo_hoped, [[0, 1, 4, 5, 6, 9, 10, 13, 16, 17, 18, 19, 22, 23, 24, 27], [30, 31, 34, 35, 36, 39, 40]])
def K_Mo_setHopes : List (List am_I) := [[(.aload_n 0, 1, 0, 0, .null, []), (.iconst 0, 1, 0, 0, .int 0, []), (.putfield 221, 3, 10, 29, .null, []), (.iconst 0, 1, 0, 0, .int 0, []), (.istore_n 1, 1, 1, 0, .null, []), (.iload_n 1, 1, 1, 0, .null, []), (.iconst 3, 1, 0, 0, .int 3, []), (.if_icmp .ge 63, 3, 40, 0, .null, []), (.iconst 0, 1, 0, 0, .int 0, []), (.istore_n 2, 1, 2, 0, .null, []), (.iload_n 2, 1, 2, 0, .null, []), (.iconst 1, 1, 0, 0, .int 1, []), (.aload_n 0, 1, 0, 0, .null, []), (.getfield 130, 3, 10, 12, .null, []), (.ishl, 1, 0, 0, .null, []), (.if_icmp .ge 45, 3, 38, 0, .null, [])],
  [(.iload_n 2, 1, 2, 0, .null, []), (.invokestatic 214, 3, 135, 1, .null, []), (.iload_n 1, 1, 1, 0, .null, []), (.if_icmp .ne 31, 3, 36, 0, .null, []), (.aload_n 0, 1, 0, 0, .null, []), (.iload_n 2, 1, 2, 0, .null, []), (.invokevirtual 224, 3, 141, 2, .null, []), (.ifCond .eq 23, 3, 36, 0, .null, []), (.aload_n 0, 1, 0, 0, .null, []), (.getfield 49, 3, 10, 28, .null, []), (.aload_n 0, 1, 0, 0, .null, []), (.getfield 221, 3, 10, 29, .null, []), (.iload_n 2, 1, 2, 0, .null, []), (.iastore, 1, 0, 0, .null, []), (.aload_n 0, 1, 0, 0, .null, []), (.dup, 1, 0, 0, .null, [])],
  [(.getfield 221, 3, 10, 29, .null, []), (.iconst 1, 1, 0, 0, .int 1, []), (.iadd, 1, 0, 0, .null, []), (.putfield 221, 3, 10, 29, .null, []), (.iinc 2 1, 3, 2, 0, .int 1, []), (.goto (-49), 3, 10, 0, .null, []), (.iinc 1 1, 3, 1, 0, .int 1, []), (.goto (-62), 3, 5, 0, .null, []), (.return_, 1, 0, 0, .null, [])]]
def M_Mo_setHopes : am_M := (⟨"SpiteLineModel", "setHopes", "()V"⟩, prog_12_method_52_code, 3, none, 10, (4, 94), K_Mo_setHopes, [[0, 1, 2, 5, 6, 7, 8, 9, 12, 13, 14, 15, 16, 17, 20, 21], [24, 25, 28, 29, 32, 33, 34, 37, 40, 41, 44, 45, 48, 49, 50, 51], [52, 55, 56, 57, 60, 63, 66, 69, 72]])
def K_Mo_goesSo : List (List am_I) := [[(.aload_n 0, 1, 0, 0, .null, []), (.invokevirtual 205, 3, 129, 1, .null, []), (.iconst 0, 1, 0, 0, .int 0, []), (.istore_n 2, 1, 2, 0, .null, []), (.iload_n 2, 1, 2, 0, .null, []), (.aload_n 0, 1, 0, 0, .null, []), (.getfield 130, 3, 10, 12, .null, []), (.if_icmp .ge 34, 3, 24, 0, .null, []), (.aload_n 0, 1, 0, 0, .null, []), (.getfield 28, 3, 10, 18, .null, []), (.iload_n 2, 1, 2, 0, .null, []), (.iload_n 1, 1, 1, 0, .null, []), (.iload_n 2, 1, 2, 0, .null, []), (.invokestatic 176, 3, 121, 2, .null, []), (.ifCond .eq 8, 3, 17, 0, .null, []), (.bipush 9, 2, 0, 0, .int 9, [])],
  [(.goto 9, 3, 21, 0, .null, []), (.aload_n 0, 1, 0, 0, .null, []), (.getfield 28, 3, 10, 18, .null, []), (.iload_n 2, 1, 2, 0, .null, []), (.iaload, 1, 0, 0, .null, []), (.iastore, 1, 0, 0, .null, []), (.iinc 2 1, 3, 2, 0, .int 1, []), (.goto (-36), 3, 4, 0, .null, []), (.aload_n 0, 1, 0, 0, .null, []), (.getfield 121, 3, 10, 9, .null, []), (.ifCond .le 8, 3, 30, 0, .null, []), (.aload_n 0, 1, 0, 0, .null, []), (.iconst 0, 1, 0, 0, .int 0, []), (.invokevirtual 183, 3, 120, 2, .null, []), (.aload_n 0, 1, 0, 0, .null, []), (.getfield 136, 3, 10, 14, .null, [])],
  [(.istore_n 2, 1, 2, 0, .null, []), (.aload_n 0, 1, 0, 0, .null, []), (.invokevirtual 208, 3, 130, 1, .null, []), (.iconst 1, 1, 0, 0, .int 1, []), (.istore_n 3, 1, 3, 0, .null, []), (.iconst 0, 1, 0, 0, .int 0, []), (.istore 4, 2, 4, 0, .null, []), (.iload 4, 2, 4, 0, .null, []), (.aload_n 0, 1, 0, 0, .null, []), (.getfield 142, 3, 10, 27, .null, []), (.if_icmp .ge 40, 3, 64, 0, .null, []), (.iload_n 3, 1, 3, 0, .null, []), (.ifCond .eq 28, 3, 60, 0, .null, []), (.iload_n 2, 1, 2, 0, .null, []), (.aload_n 0, 1, 0, 0, .null, []), (.getfield 43, 3, 10, 25, .null, [])],
  [(.iload 4, 2, 4, 0, .null, []), (.iaload, 1, 0, 0, .null, []), (.ishr, 1, 0, 0, .null, []), (.iconst 1, 1, 0, 0, .int 1, []), (.iand, 1, 0, 0, .null, []), (.aload_n 0, 1, 0, 0, .null, []), (.getfield 46, 3, 10, 26, .null, []), (.iload 4, 2, 4, 0, .null, []), (.iaload, 1, 0, 0, .null, []), (.if_icmp .ne 7, 3, 60, 0, .null, []), (.iconst 1, 1, 0, 0, .int 1, []), (.goto 4, 3, 61, 0, .null, []), (.iconst 0, 1, 0, 0, .int 0, []), (.istore_n 3, 1, 3, 0, .null, []), (.iinc 4 1, 3, 4, 0, .int 1, []), (.goto (-43), 3, 39, 0, .null, [])],
  [(.iload_n 3, 1, 3, 0, .null, []), (.ireturn, 1, 0, 0, .null, [])]]
def M_Mo_goesSo : am_M := (⟨"SpiteLineModel", "goesSo", "(I)Z"⟩, prog_12_method_51_code, 5, (some .boolean), 10, (3, 70), K_Mo_goesSo, [[0, 1, 4, 5, 6, 7, 8, 11, 14, 15, 18, 19, 20, 21, 24, 27], [29, 32, 33, 36, 37, 38, 39, 42, 45, 46, 49, 52, 53, 54, 57, 58], [61, 62, 63, 66, 67, 68, 69, 71, 73, 74, 77, 80, 81, 84, 85, 86], [89, 91, 92, 93, 94, 95, 96, 99, 101, 102, 105, 106, 109, 110, 111, 114], [117, 118]])
def K_Mo_sure : List (List am_I) := [[(.aload_n 0, 1, 0, 0, .null, []), (.invokevirtual 227, 3, 140, 1, .null, []), (.aload_n 0, 1, 0, 0, .null, []), (.getfield 221, 3, 10, 29, .null, []), (.ifCond .ne 7, 3, 7, 0, .null, []), (.iconst 0, 1, 0, 0, .int 0, []), (.goto 6, 3, 8, 0, .null, []), (.sipush 255, 3, 0, 0, .int 255, []), (.istore_n 1, 1, 1, 0, .null, []), (.iconst 0, 1, 0, 0, .int 0, []), (.istore_n 2, 1, 2, 0, .null, []), (.iload_n 2, 1, 2, 0, .null, []), (.aload_n 0, 1, 0, 0, .null, []), (.getfield 221, 3, 10, 29, .null, []), (.if_icmp .ge 18, 3, 24, 0, .null, []), (.iload_n 1, 1, 1, 0, .null, [])],
  [(.aload_n 0, 1, 0, 0, .null, []), (.getfield 49, 3, 10, 28, .null, []), (.iload_n 2, 1, 2, 0, .null, []), (.iaload, 1, 0, 0, .null, []), (.iand, 1, 0, 0, .null, []), (.istore_n 1, 1, 1, 0, .null, []), (.iinc 2 1, 3, 2, 0, .int 1, []), (.goto (-20), 3, 11, 0, .null, []), (.iload_n 1, 1, 1, 0, .null, []), (.ireturn, 1, 0, 0, .null, [])]]
def M_Mo_sure : am_M := (⟨"SpiteLineModel", "sure", "()I"⟩, prog_12_method_54_code, 3, (some .int), 10, (5, 116), K_Mo_sure, [[0, 1, 4, 5, 8, 11, 12, 15, 18, 19, 20, 21, 22, 23, 26, 29], [30, 31, 34, 35, 36, 37, 38, 41, 44, 45]])
def K_Mo_look : List (List am_I) := [[(.aload_n 0, 1, 0, 0, .null, []), (.invokevirtual 227, 3, 140, 1, .null, []), (.iconst (-1), 1, 0, 0, .int (-1), []), (.istore_n 1, 1, 1, 0, .null, []), (.aload_n 0, 1, 0, 0, .null, []), (.getfield 221, 3, 10, 29, .null, []), (.istore_n 2, 1, 2, 0, .null, []), (.iconst 0, 1, 0, 0, .int 0, []), (.istore_n 3, 1, 3, 0, .null, []), (.iload_n 3, 1, 3, 0, .null, []), (.aload_n 0, 1, 0, 0, .null, []), (.getfield 130, 3, 10, 12, .null, []), (.if_icmp .ge 97, 3, 63, 0, .null, []), (.iconst 0, 1, 0, 0, .int 0, []), (.istore 4, 2, 4, 0, .null, []), (.iconst 0, 1, 0, 0, .int 0, [])],
  [(.istore 5, 2, 5, 0, .null, []), (.iload 5, 2, 5, 0, .null, []), (.aload_n 0, 1, 0, 0, .null, []), (.getfield 221, 3, 10, 29, .null, []), (.if_icmp .ge 25, 3, 34, 0, .null, []), (.iload 4, 2, 4, 0, .null, []), (.aload_n 0, 1, 0, 0, .null, []), (.getfield 49, 3, 10, 28, .null, []), (.iload 5, 2, 5, 0, .null, []), (.iaload, 1, 0, 0, .null, []), (.iload_n 3, 1, 3, 0, .null, []), (.ishr, 1, 0, 0, .null, []), (.iconst 1, 1, 0, 0, .int 1, []), (.iand, 1, 0, 0, .null, []), (.iadd, 1, 0, 0, .null, []), (.istore 4, 2, 4, 0, .null, [])],
  [(.iinc 5 1, 3, 5, 0, .int 1, []), (.goto (-28), 3, 17, 0, .null, []), (.iload 4, 2, 4, 0, .null, []), (.aload_n 0, 1, 0, 0, .null, []), (.getfield 221, 3, 10, 29, .null, []), (.iload 4, 2, 4, 0, .null, []), (.isub, 1, 0, 0, .null, []), (.if_icmp .le 8, 3, 42, 0, .null, []), (.iload 4, 2, 4, 0, .null, []), (.goto 10, 3, 46, 0, .null, []), (.aload_n 0, 1, 0, 0, .null, []), (.getfield 221, 3, 10, 29, .null, []), (.iload 4, 2, 4, 0, .null, []), (.isub, 1, 0, 0, .null, []), (.istore 5, 2, 5, 0, .null, []), (.iload 5, 2, 5, 0, .null, [])],
  [(.iload_n 2, 1, 2, 0, .null, []), (.if_icmp .ge 7, 3, 52, 0, .null, []), (.iload_n 3, 1, 3, 0, .null, []), (.goto 4, 3, 53, 0, .null, []), (.iload_n 1, 1, 1, 0, .null, []), (.istore_n 1, 1, 1, 0, .null, []), (.iload 5, 2, 5, 0, .null, []), (.iload_n 2, 1, 2, 0, .null, []), (.if_icmp .ge 8, 3, 59, 0, .null, []), (.iload 5, 2, 5, 0, .null, []), (.goto 4, 3, 60, 0, .null, []), (.iload_n 2, 1, 2, 0, .null, []), (.istore_n 2, 1, 2, 0, .null, []), (.iinc 3 1, 3, 3, 0, .int 1, []), (.goto (-99), 3, 9, 0, .null, []), (.iload_n 1, 1, 1, 0, .null, [])],
  [(.ireturn, 1, 0, 0, .null, [])]]
def M_Mo_look : am_M := (⟨"SpiteLineModel", "look", "()I"⟩, prog_12_method_55_code, 6, (some .int), 10, (5, 116), K_Mo_look, [[0, 1, 4, 5, 6, 7, 10, 11, 12, 13, 14, 15, 18, 21, 22, 24], [25, 27, 29, 30, 33, 36, 38, 39, 42, 44, 45, 46, 47, 48, 49, 50], [52, 55, 58, 60, 61, 64, 66, 67, 70, 72, 75, 76, 79, 81, 82, 84], [86, 87, 90, 91, 94, 95, 96, 98, 99, 102, 104, 107, 108, 109, 112, 115], [116]])
def K_Mo_write : List (List am_I) := [[(.aload_n 0, 1, 0, 0, .null, []), (.iload_n 1, 1, 1, 0, .null, []), (.invokevirtual 161, 3, 109, 2, .null, []), (.ifCond .eq 11, 3, 8, 0, .null, []), (.aload_n 0, 1, 0, 0, .null, []), (.iload_n 2, 1, 2, 0, .null, []), (.invokevirtual 165, 3, 111, 2, .null, []), (.ifCond .ne 6, 3, 10, 0, .null, []), (.ldc 164, 2, 0, 0, .int (-1000000001), []), (.ireturn, 1, 0, 0, .null, []), (.aload_n 0, 1, 0, 0, .null, []), (.getfield 145, 3, 10, 31, .null, []), (.bipush 20, 2, 0, 0, .int 20, []), (.if_icmp .ne 6, 3, 16, 0, .null, []), (.ldc 77, 2, 0, 0, .int (-1000000004), []), (.ireturn, 1, 0, 0, .null, [])],
  [(.aload_n 0, 1, 0, 0, .null, []), (.getfield 52, 3, 10, 30, .null, []), (.iconst 2, 1, 0, 0, .int 2, []), (.aload_n 0, 1, 0, 0, .null, []), (.getfield 145, 3, 10, 31, .null, []), (.imul, 1, 0, 0, .null, []), (.iload_n 1, 1, 1, 0, .null, []), (.iastore, 1, 0, 0, .null, []), (.aload_n 0, 1, 0, 0, .null, []), (.getfield 52, 3, 10, 30, .null, []), (.iconst 2, 1, 0, 0, .int 2, []), (.aload_n 0, 1, 0, 0, .null, []), (.getfield 145, 3, 10, 31, .null, []), (.imul, 1, 0, 0, .null, []), (.iconst 1, 1, 0, 0, .int 1, []), (.iadd, 1, 0, 0, .null, [])],
  [(.iload_n 2, 1, 2, 0, .null, []), (.iastore, 1, 0, 0, .null, []), (.aload_n 0, 1, 0, 0, .null, []), (.dup, 1, 0, 0, .null, []), (.getfield 145, 3, 10, 31, .null, []), (.iconst 1, 1, 0, 0, .int 1, []), (.iadd, 1, 0, 0, .null, []), (.putfield 145, 3, 10, 31, .null, []), (.aload_n 0, 1, 0, 0, .null, []), (.getfield 145, 3, 10, 31, .null, []), (.ireturn, 1, 0, 0, .null, [])]]
def M_Mo_write : am_M := (⟨"SpiteLineModel", "write", "(II)I"⟩, prog_12_method_56_code, 3, (some .int), 10, (2, 43), K_Mo_write, [[0, 1, 2, 5, 8, 9, 10, 13, 16, 18, 19, 20, 23, 25, 28, 30], [31, 32, 35, 36, 37, 40, 41, 42, 43, 44, 47, 48, 49, 52, 53, 54], [55, 56, 57, 58, 59, 62, 63, 64, 67, 68, 71]])
def K_Mo_judge : List (List am_I) := [[(.iconst 0, 1, 0, 0, .int 0, []), (.istore_n 1, 1, 1, 0, .null, []), (.iload_n 1, 1, 1, 0, .null, []), (.aload_n 0, 1, 0, 0, .null, []), (.getfield 145, 3, 10, 31, .null, []), (.if_icmp .ge 37, 3, 28, 0, .null, []), (.aload_n 0, 1, 0, 0, .null, []), (.getfield 19, 3, 10, 15, .null, []), (.aload_n 0, 1, 0, 0, .null, []), (.getfield 52, 3, 10, 30, .null, []), (.iconst 2, 1, 0, 0, .int 2, []), (.iload_n 1, 1, 1, 0, .null, []), (.imul, 1, 0, 0, .null, []), (.iaload, 1, 0, 0, .null, []), (.iaload, 1, 0, 0, .null, []), (.aload_n 0, 1, 0, 0, .null, [])],
  [(.getfield 52, 3, 10, 30, .null, []), (.iconst 2, 1, 0, 0, .int 2, []), (.iload_n 1, 1, 1, 0, .null, []), (.imul, 1, 0, 0, .null, []), (.iconst 1, 1, 0, 0, .int 1, []), (.iadd, 1, 0, 0, .null, []), (.iaload, 1, 0, 0, .null, []), (.if_icmp .eq 5, 3, 26, 0, .null, []), (.iload_n 1, 1, 1, 0, .null, []), (.ireturn, 1, 0, 0, .null, []), (.iinc 1 1, 3, 1, 0, .int 1, []), (.goto (-39), 3, 2, 0, .null, []), (.iconst (-1), 1, 0, 0, .int (-1), []), (.ireturn, 1, 0, 0, .null, [])]]
def M_Mo_judge : am_M := (⟨"SpiteLineModel", "judge", "()I"⟩, prog_12_method_57_code, 2, (some .int), 10, (0, 0), K_Mo_judge, [[0, 1, 2, 3, 4, 7, 10, 11, 14, 15, 18, 19, 20, 21, 22, 23], [24, 27, 28, 29, 30, 31, 32, 33, 36, 37, 38, 41, 44, 45]])
def K_Mo_tear : List (List am_I) := [[(.aload_n 0, 1, 0, 0, .null, []), (.getfield 142, 3, 10, 27, .null, []), (.aload_n 0, 1, 0, 0, .null, []), (.getfield 145, 3, 10, 31, .null, []), (.iadd, 1, 0, 0, .null, []), (.istore_n 1, 1, 1, 0, .null, []), (.aload_n 0, 1, 0, 0, .null, []), (.iconst 0, 1, 0, 0, .int 0, []), (.putfield 142, 3, 10, 27, .null, []), (.aload_n 0, 1, 0, 0, .null, []), (.iconst 0, 1, 0, 0, .int 0, []), (.putfield 145, 3, 10, 31, .null, []), (.iload_n 1, 1, 1, 0, .null, []), (.ireturn, 1, 0, 0, .null, [])]]
def M_Mo_tear : am_M := (⟨"SpiteLineModel", "tear", "()I"⟩, prog_12_method_58_code, 2, (some .int), 10, (0, 0), K_Mo_tear, [[0, 1, 4, 5, 8, 9, 10, 11, 12, 15, 16, 17, 20, 21]])
def K_Mo_seed : List (List am_I) := [[(.iload_n 1, 1, 1, 0, .null, []), (.ifCond .ge 6, 3, 4, 0, .null, []), (.ldc 73, 2, 0, 0, .int (-1000000002), []), (.ireturn, 1, 0, 0, .null, []), (.aload_n 0, 1, 0, 0, .null, []), (.getfield 187, 3, 10, 24, .null, []), (.l2i, 1, 0, 0, .null, []), (.istore_n 2, 1, 2, 0, .null, []), (.aload_n 0, 1, 0, 0, .null, []), (.iload_n 1, 1, 1, 0, .null, []), (.i2l, 1, 0, 0, .null, []), (.putfield 187, 3, 10, 24, .null, []), (.iload_n 2, 1, 2, 0, .null, []), (.ireturn, 1, 0, 0, .null, [])]]
def M_Mo_seed : am_M := (⟨"SpiteLineModel", "seed", "(I)I"⟩, prog_12_method_59_code, 3, (some .int), 10, (0, 0), K_Mo_seed, [[0, 1, 4, 6, 7, 8, 11, 12, 13, 14, 15, 16, 19, 20]])
def K_Mo_keep : List (List am_I) := [[(.iload_n 1, 1, 1, 0, .null, []), (.iconst 0, 1, 0, 0, .int 0, []), (.iconst 1, 1, 0, 0, .int 1, []), (.invokestatic 69, 3, 91, 3, .null, []), (.ifCond .ne 6, 3, 7, 0, .null, []), (.ldc 164, 2, 0, 0, .int (-1000000001), []), (.ireturn, 1, 0, 0, .null, []), (.aload_n 0, 1, 0, 0, .null, []), (.aload_n 0, 1, 0, 0, .null, []), (.getfield 55, 3, 10, 32, .null, []), (.bipush 36, 2, 0, 0, .int 36, []), (.iload_n 1, 1, 1, 0, .null, []), (.imul, 1, 0, 0, .null, []), (.invokevirtual 168, 3, 114, 3, .null, []), (.aload_n 0, 1, 0, 0, .null, []), (.getfield 58, 3, 10, 33, .null, [])],
  [(.iload_n 1, 1, 1, 0, .null, []), (.aload_n 0, 1, 0, 0, .null, []), (.getfield 187, 3, 10, 24, .null, []), (.lastore, 1, 0, 0, .null, []), (.aload_n 0, 1, 0, 0, .null, []), (.getfield 62, 3, 10, 34, .null, []), (.iload_n 1, 1, 1, 0, .null, []), (.iconst 1, 1, 0, 0, .int 1, []), (.iastore, 1, 0, 0, .null, []), (.aload_n 0, 1, 0, 0, .null, []), (.iconst 0, 1, 0, 0, .int 0, []), (.putfield 139, 3, 10, 22, .null, []), (.iconst 1, 1, 0, 0, .int 1, []), (.ireturn, 1, 0, 0, .null, [])]]
def M_Mo_keep : am_M := (⟨"SpiteLineModel", "keep", "(I)I"⟩, prog_12_method_60_code, 2, (some .int), 10, (1, 23), K_Mo_keep, [[0, 1, 2, 3, 6, 9, 11, 12, 13, 14, 17, 19, 20, 21, 24, 25], [28, 29, 30, 33, 34, 35, 38, 39, 40, 41, 42, 43, 46, 47]])
def K_Mo_goBack : List (List am_I) := [[(.iload_n 1, 1, 1, 0, .null, []), (.iconst 0, 1, 0, 0, .int 0, []), (.iconst 1, 1, 0, 0, .int 1, []), (.invokestatic 69, 3, 91, 3, .null, []), (.ifCond .ne 6, 3, 7, 0, .null, []), (.ldc 164, 2, 0, 0, .int (-1000000001), []), (.ireturn, 1, 0, 0, .null, []), (.aload_n 0, 1, 0, 0, .null, []), (.getfield 62, 3, 10, 34, .null, []), (.iload_n 1, 1, 1, 0, .null, []), (.iaload, 1, 0, 0, .null, []), (.ifCond .ne 6, 3, 14, 0, .null, []), (.ldc 175, 2, 0, 0, .int (-1000000003), []), (.ireturn, 1, 0, 0, .null, []), (.aload_n 0, 1, 0, 0, .null, []), (.aload_n 0, 1, 0, 0, .null, [])],
  [(.getfield 55, 3, 10, 32, .null, []), (.bipush 36, 2, 0, 0, .int 36, []), (.iload_n 1, 1, 1, 0, .null, []), (.imul, 1, 0, 0, .null, []), (.invokevirtual 202, 3, 126, 3, .null, []), (.aload_n 0, 1, 0, 0, .null, []), (.aload_n 0, 1, 0, 0, .null, []), (.getfield 58, 3, 10, 33, .null, []), (.iload_n 1, 1, 1, 0, .null, []), (.laload, 1, 0, 0, .null, []), (.putfield 187, 3, 10, 24, .null, []), (.aload_n 0, 1, 0, 0, .null, []), (.iconst 0, 1, 0, 0, .int 0, []), (.putfield 139, 3, 10, 22, .null, []), (.iconst 1, 1, 0, 0, .int 1, []), (.ireturn, 1, 0, 0, .null, [])]]
def M_Mo_goBack : am_M := (⟨"SpiteLineModel", "goBack", "(I)I"⟩, prog_12_method_61_code, 2, (some .int), 10, (1, 23), K_Mo_goBack, [[0, 1, 2, 3, 6, 9, 11, 12, 13, 16, 17, 18, 21, 23, 24, 25], [26, 29, 31, 32, 33, 36, 37, 38, 41, 42, 43, 46, 47, 48, 51, 52]])
def K_L_law : List (List am_I) := [[(.new 7, 3, 9, 0, .null, []), (.dup, 1, 0, 0, .null, []), (.invokespecial 9, 3, 0, 1, .null, []), (.astore_n 1, 1, 1, 0, .null, []), (.new 10, 3, 10, 0, .null, []), (.dup, 1, 0, 0, .null, []), (.invokespecial 12, 3, 89, 1, .null, []), (.astore_n 2, 1, 2, 0, .null, []), (.iconst 0, 1, 0, 0, .int 0, []), (.istore_n 3, 1, 3, 0, .null, []), (.iload_n 3, 1, 3, 0, .null, []), (.aload_n 0, 1, 0, 0, .null, []), (.arraylength, 1, 0, 0, .null, []), (.iconst 3, 1, 0, 0, .int 3, []), (.isub, 1, 0, 0, .null, []), (.if_icmp .gt 946, 3, 605, 0, .null, [])],
  [(.aload_n 0, 1, 0, 0, .null, []), (.iload_n 3, 1, 3, 0, .null, []), (.iaload, 1, 0, 0, .null, []), (.bipush 31, 2, 0, 0, .int 31, []), (.iand, 1, 0, 0, .null, []), (.tableswitch 931 0 30 #[140, 163, 176, 189, 212, 245, 278, 311, 360, 409, 442, 465, 488, 511, 534, 547, 570, 593, 616, 639, 672, 705, 754, 777, 790, 803, 836, 849, 862, 885, 908], 140, 603, 0, .null, [(0, 22), (1, 39), (2, 46), (3, 53), (4, 70), (5, 97), (6, 124), (7, 151), (8, 186), (9, 221), (10, 248), (11, 265), (12, 282), (13, 299), (14, 316), (15, 323), (16, 340), (17, 357), (18, 374), (19, 391), (20, 418), (21, 445), (22, 480), (23, 497), (24, 504), (25, 511), (26, 538), (27, 545), (28, 552), (29, 569), (30, 586)]), (.aload_n 1, 1, 1, 0, .null, []), (.aload_n 0, 1, 0, 0, .null, []), (.iload_n 3, 1, 3, 0, .null, []), (.iconst 1, 1, 0, 0, .int 1, []), (.iadd, 1, 0, 0, .null, []), (.iaload, 1, 0, 0, .null, []), (.invokevirtual 13, 3, 10, 2, .null, []), (.aload_n 2, 1, 2, 0, .null, []), (.aload_n 0, 1, 0, 0, .null, []), (.iload_n 3, 1, 3, 0, .null, [])],
  [(.iconst 1, 1, 0, 0, .int 1, []), (.iadd, 1, 0, 0, .null, []), (.iaload, 1, 0, 0, .null, []), (.invokevirtual 17, 3, 90, 2, .null, []), (.if_icmp .eq 773, 3, 603, 0, .null, []), (.iconst 0, 1, 0, 0, .int 0, []), (.ireturn, 1, 0, 0, .null, []), (.aload_n 1, 1, 1, 0, .null, []), (.invokevirtual 18, 3, 12, 1, .null, []), (.aload_n 2, 1, 2, 0, .null, []), (.invokevirtual 22, 3, 92, 1, .null, []), (.if_icmp .eq 760, 3, 603, 0, .null, []), (.iconst 0, 1, 0, 0, .int 0, []), (.ireturn, 1, 0, 0, .null, []), (.aload_n 1, 1, 1, 0, .null, []), (.invokevirtual 23, 3, 30, 1, .null, [])],
  [(.aload_n 2, 1, 2, 0, .null, []), (.invokevirtual 26, 3, 102, 1, .null, []), (.if_icmp .eq 747, 3, 603, 0, .null, []), (.iconst 0, 1, 0, 0, .int 0, []), (.ireturn, 1, 0, 0, .null, []), (.aload_n 1, 1, 1, 0, .null, []), (.aload_n 0, 1, 0, 0, .null, []), (.iload_n 3, 1, 3, 0, .null, []), (.iconst 1, 1, 0, 0, .int 1, []), (.iadd, 1, 0, 0, .null, []), (.iaload, 1, 0, 0, .null, []), (.invokevirtual 27, 3, 31, 2, .null, []), (.aload_n 2, 1, 2, 0, .null, []), (.aload_n 0, 1, 0, 0, .null, []), (.iload_n 3, 1, 3, 0, .null, []), (.iconst 1, 1, 0, 0, .int 1, [])],
  [(.iadd, 1, 0, 0, .null, []), (.iaload, 1, 0, 0, .null, []), (.invokevirtual 30, 3, 103, 2, .null, []), (.if_icmp .eq 724, 3, 603, 0, .null, []), (.iconst 0, 1, 0, 0, .int 0, []), (.ireturn, 1, 0, 0, .null, []), (.aload_n 1, 1, 1, 0, .null, []), (.aload_n 0, 1, 0, 0, .null, []), (.iload_n 3, 1, 3, 0, .null, []), (.iconst 1, 1, 0, 0, .int 1, []), (.iadd, 1, 0, 0, .null, []), (.iaload, 1, 0, 0, .null, []), (.aload_n 0, 1, 0, 0, .null, []), (.iload_n 3, 1, 3, 0, .null, []), (.iconst 2, 1, 0, 0, .int 2, []), (.iadd, 1, 0, 0, .null, [])],
  [(.iaload, 1, 0, 0, .null, []), (.invokevirtual 31, 3, 37, 3, .null, []), (.aload_n 2, 1, 2, 0, .null, []), (.aload_n 0, 1, 0, 0, .null, []), (.iload_n 3, 1, 3, 0, .null, []), (.iconst 1, 1, 0, 0, .int 1, []), (.iadd, 1, 0, 0, .null, []), (.iaload, 1, 0, 0, .null, []), (.aload_n 0, 1, 0, 0, .null, []), (.iload_n 3, 1, 3, 0, .null, []), (.iconst 2, 1, 0, 0, .int 2, []), (.iadd, 1, 0, 0, .null, []), (.iaload, 1, 0, 0, .null, []), (.invokevirtual 35, 3, 108, 3, .null, []), (.if_icmp .eq 691, 3, 603, 0, .null, []), (.iconst 0, 1, 0, 0, .int 0, [])],
  [(.ireturn, 1, 0, 0, .null, []), (.aload_n 1, 1, 1, 0, .null, []), (.aload_n 0, 1, 0, 0, .null, []), (.iload_n 3, 1, 3, 0, .null, []), (.iconst 1, 1, 0, 0, .int 1, []), (.iadd, 1, 0, 0, .null, []), (.iaload, 1, 0, 0, .null, []), (.aload_n 0, 1, 0, 0, .null, []), (.iload_n 3, 1, 3, 0, .null, []), (.iconst 2, 1, 0, 0, .int 2, []), (.iadd, 1, 0, 0, .null, []), (.iaload, 1, 0, 0, .null, []), (.invokevirtual 36, 3, 39, 3, .null, []), (.aload_n 2, 1, 2, 0, .null, []), (.aload_n 0, 1, 0, 0, .null, []), (.iload_n 3, 1, 3, 0, .null, [])],
  [(.iconst 1, 1, 0, 0, .int 1, []), (.iadd, 1, 0, 0, .null, []), (.iaload, 1, 0, 0, .null, []), (.aload_n 0, 1, 0, 0, .null, []), (.iload_n 3, 1, 3, 0, .null, []), (.iconst 2, 1, 0, 0, .int 2, []), (.iadd, 1, 0, 0, .null, []), (.iaload, 1, 0, 0, .null, []), (.invokevirtual 39, 3, 110, 3, .null, []), (.if_icmp .eq 658, 3, 603, 0, .null, []), (.iconst 0, 1, 0, 0, .int 0, []), (.ireturn, 1, 0, 0, .null, []), (.aload_n 1, 1, 1, 0, .null, []), (.aload_n 0, 1, 0, 0, .null, []), (.iload_n 3, 1, 3, 0, .null, []), (.iconst 1, 1, 0, 0, .int 1, [])],
  [(.iadd, 1, 0, 0, .null, []), (.iaload, 1, 0, 0, .null, []), (.aload_n 0, 1, 0, 0, .null, []), (.iload_n 3, 1, 3, 0, .null, []), (.iconst 2, 1, 0, 0, .int 2, []), (.iadd, 1, 0, 0, .null, []), (.iaload, 1, 0, 0, .null, []), (.invokevirtual 40, 3, 43, 3, .null, []), (.aload_n 2, 1, 2, 0, .null, []), (.aload_n 0, 1, 0, 0, .null, []), (.iload_n 3, 1, 3, 0, .null, []), (.iconst 1, 1, 0, 0, .int 1, []), (.iadd, 1, 0, 0, .null, []), (.iaload, 1, 0, 0, .null, []), (.aload_n 0, 1, 0, 0, .null, []), (.iload_n 3, 1, 3, 0, .null, [])],
  [(.iconst 2, 1, 0, 0, .int 2, []), (.iadd, 1, 0, 0, .null, []), (.iaload, 1, 0, 0, .null, []), (.invokevirtual 43, 3, 112, 3, .null, []), (.if_icmp .eq 625, 3, 603, 0, .null, []), (.iconst 0, 1, 0, 0, .int 0, []), (.ireturn, 1, 0, 0, .null, []), (.aload_n 1, 1, 1, 0, .null, []), (.aload_n 0, 1, 0, 0, .null, []), (.iload_n 3, 1, 3, 0, .null, []), (.iconst 1, 1, 0, 0, .int 1, []), (.iadd, 1, 0, 0, .null, []), (.iaload, 1, 0, 0, .null, []), (.aload_n 0, 1, 0, 0, .null, []), (.iload_n 3, 1, 3, 0, .null, []), (.iconst 2, 1, 0, 0, .int 2, [])],
  [(.iadd, 1, 0, 0, .null, []), (.iaload, 1, 0, 0, .null, []), (.ifCond .eq 7, 3, 165, 0, .null, []), (.iconst 1, 1, 0, 0, .int 1, []), (.goto 4, 3, 166, 0, .null, []), (.iconst 0, 1, 0, 0, .int 0, []), (.invokevirtual 44, 3, 45, 3, .null, []), (.aload_n 2, 1, 2, 0, .null, []), (.aload_n 0, 1, 0, 0, .null, []), (.iload_n 3, 1, 3, 0, .null, []), (.iconst 1, 1, 0, 0, .int 1, []), (.iadd, 1, 0, 0, .null, []), (.iaload, 1, 0, 0, .null, []), (.aload_n 0, 1, 0, 0, .null, []), (.iload_n 3, 1, 3, 0, .null, []), (.iconst 2, 1, 0, 0, .int 2, [])],
  [(.iadd, 1, 0, 0, .null, []), (.iaload, 1, 0, 0, .null, []), (.ifCond .eq 7, 3, 181, 0, .null, []), (.iconst 1, 1, 0, 0, .int 1, []), (.goto 4, 3, 182, 0, .null, []), (.iconst 0, 1, 0, 0, .int 0, []), (.invokevirtual 48, 3, 115, 3, .null, []), (.if_icmp .eq 576, 3, 603, 0, .null, []), (.iconst 0, 1, 0, 0, .int 0, []), (.ireturn, 1, 0, 0, .null, []), (.aload_n 1, 1, 1, 0, .null, []), (.aload_n 0, 1, 0, 0, .null, []), (.iload_n 3, 1, 3, 0, .null, []), (.iconst 1, 1, 0, 0, .int 1, []), (.iadd, 1, 0, 0, .null, []), (.iaload, 1, 0, 0, .null, [])],
  [(.aload_n 0, 1, 0, 0, .null, []), (.iload_n 3, 1, 3, 0, .null, []), (.iconst 2, 1, 0, 0, .int 2, []), (.iadd, 1, 0, 0, .null, []), (.iaload, 1, 0, 0, .null, []), (.ifCond .eq 7, 3, 200, 0, .null, []), (.iconst 1, 1, 0, 0, .int 1, []), (.goto 4, 3, 201, 0, .null, []), (.iconst 0, 1, 0, 0, .int 0, []), (.invokevirtual 49, 3, 46, 3, .null, []), (.aload_n 2, 1, 2, 0, .null, []), (.aload_n 0, 1, 0, 0, .null, []), (.iload_n 3, 1, 3, 0, .null, []), (.iconst 1, 1, 0, 0, .int 1, []), (.iadd, 1, 0, 0, .null, []), (.iaload, 1, 0, 0, .null, [])],
  [(.aload_n 0, 1, 0, 0, .null, []), (.iload_n 3, 1, 3, 0, .null, []), (.iconst 2, 1, 0, 0, .int 2, []), (.iadd, 1, 0, 0, .null, []), (.iaload, 1, 0, 0, .null, []), (.ifCond .eq 7, 3, 216, 0, .null, []), (.iconst 1, 1, 0, 0, .int 1, []), (.goto 4, 3, 217, 0, .null, []), (.iconst 0, 1, 0, 0, .int 0, []), (.invokevirtual 52, 3, 116, 3, .null, []), (.if_icmp .eq 527, 3, 603, 0, .null, []), (.iconst 0, 1, 0, 0, .int 0, []), (.ireturn, 1, 0, 0, .null, []), (.aload_n 1, 1, 1, 0, .null, []), (.aload_n 0, 1, 0, 0, .null, []), (.iload_n 3, 1, 3, 0, .null, [])],
  [(.iconst 1, 1, 0, 0, .int 1, []), (.iadd, 1, 0, 0, .null, []), (.iaload, 1, 0, 0, .null, []), (.aload_n 0, 1, 0, 0, .null, []), (.iload_n 3, 1, 3, 0, .null, []), (.iconst 2, 1, 0, 0, .int 2, []), (.iadd, 1, 0, 0, .null, []), (.iaload, 1, 0, 0, .null, []), (.invokevirtual 53, 3, 47, 3, .null, []), (.aload_n 2, 1, 2, 0, .null, []), (.aload_n 0, 1, 0, 0, .null, []), (.iload_n 3, 1, 3, 0, .null, []), (.iconst 1, 1, 0, 0, .int 1, []), (.iadd, 1, 0, 0, .null, []), (.iaload, 1, 0, 0, .null, []), (.aload_n 0, 1, 0, 0, .null, [])],
  [(.iload_n 3, 1, 3, 0, .null, []), (.iconst 2, 1, 0, 0, .int 2, []), (.iadd, 1, 0, 0, .null, []), (.iaload, 1, 0, 0, .null, []), (.invokevirtual 56, 3, 117, 3, .null, []), (.if_icmp .eq 494, 3, 603, 0, .null, []), (.iconst 0, 1, 0, 0, .int 0, []), (.ireturn, 1, 0, 0, .null, []), (.aload_n 1, 1, 1, 0, .null, []), (.aload_n 0, 1, 0, 0, .null, []), (.iload_n 3, 1, 3, 0, .null, []), (.iconst 1, 1, 0, 0, .int 1, []), (.iadd, 1, 0, 0, .null, []), (.iaload, 1, 0, 0, .null, []), (.invokevirtual 57, 3, 48, 2, .null, []), (.aload_n 2, 1, 2, 0, .null, [])],
  [(.aload_n 0, 1, 0, 0, .null, []), (.iload_n 3, 1, 3, 0, .null, []), (.iconst 1, 1, 0, 0, .int 1, []), (.iadd, 1, 0, 0, .null, []), (.iaload, 1, 0, 0, .null, []), (.invokevirtual 60, 3, 118, 2, .null, []), (.if_icmp .eq 471, 3, 603, 0, .null, []), (.iconst 0, 1, 0, 0, .int 0, []), (.ireturn, 1, 0, 0, .null, []), (.aload_n 1, 1, 1, 0, .null, []), (.aload_n 0, 1, 0, 0, .null, []), (.iload_n 3, 1, 3, 0, .null, []), (.iconst 1, 1, 0, 0, .int 1, []), (.iadd, 1, 0, 0, .null, []), (.iaload, 1, 0, 0, .null, []), (.invokevirtual 61, 3, 49, 2, .null, [])],
  [(.aload_n 2, 1, 2, 0, .null, []), (.aload_n 0, 1, 0, 0, .null, []), (.iload_n 3, 1, 3, 0, .null, []), (.iconst 1, 1, 0, 0, .int 1, []), (.iadd, 1, 0, 0, .null, []), (.iaload, 1, 0, 0, .null, []), (.invokevirtual 64, 3, 119, 2, .null, []), (.if_icmp .eq 448, 3, 603, 0, .null, []), (.iconst 0, 1, 0, 0, .int 0, []), (.ireturn, 1, 0, 0, .null, []), (.aload_n 1, 1, 1, 0, .null, []), (.aload_n 0, 1, 0, 0, .null, []), (.iload_n 3, 1, 3, 0, .null, []), (.iconst 1, 1, 0, 0, .int 1, []), (.iadd, 1, 0, 0, .null, []), (.iaload, 1, 0, 0, .null, [])],
  [(.invokevirtual 65, 3, 57, 2, .null, []), (.aload_n 2, 1, 2, 0, .null, []), (.aload_n 0, 1, 0, 0, .null, []), (.iload_n 3, 1, 3, 0, .null, []), (.iconst 1, 1, 0, 0, .int 1, []), (.iadd, 1, 0, 0, .null, []), (.iaload, 1, 0, 0, .null, []), (.invokevirtual 68, 3, 123, 2, .null, []), (.if_icmp .eq 425, 3, 603, 0, .null, []), (.iconst 0, 1, 0, 0, .int 0, []), (.ireturn, 1, 0, 0, .null, []), (.aload_n 1, 1, 1, 0, .null, []), (.aload_n 0, 1, 0, 0, .null, []), (.iload_n 3, 1, 3, 0, .null, []), (.iconst 1, 1, 0, 0, .int 1, []), (.iadd, 1, 0, 0, .null, [])],
  [(.iaload, 1, 0, 0, .null, []), (.invokevirtual 69, 3, 60, 2, .null, []), (.aload_n 2, 1, 2, 0, .null, []), (.aload_n 0, 1, 0, 0, .null, []), (.iload_n 3, 1, 3, 0, .null, []), (.iconst 1, 1, 0, 0, .int 1, []), (.iadd, 1, 0, 0, .null, []), (.iaload, 1, 0, 0, .null, []), (.invokevirtual 72, 3, 125, 2, .null, []), (.if_icmp .eq 402, 3, 603, 0, .null, []), (.iconst 0, 1, 0, 0, .int 0, []), (.ireturn, 1, 0, 0, .null, []), (.aload_n 1, 1, 1, 0, .null, []), (.invokevirtual 73, 3, 62, 1, .null, []), (.aload_n 2, 1, 2, 0, .null, []), (.invokevirtual 76, 3, 127, 1, .null, [])],
  [(.if_icmp .eq 389, 3, 603, 0, .null, []), (.iconst 0, 1, 0, 0, .int 0, []), (.ireturn, 1, 0, 0, .null, []), (.aload_n 1, 1, 1, 0, .null, []), (.aload_n 0, 1, 0, 0, .null, []), (.iload_n 3, 1, 3, 0, .null, []), (.iconst 1, 1, 0, 0, .int 1, []), (.iadd, 1, 0, 0, .null, []), (.iaload, 1, 0, 0, .null, []), (.invokevirtual 77, 3, 63, 2, .null, []), (.aload_n 2, 1, 2, 0, .null, []), (.aload_n 0, 1, 0, 0, .null, []), (.iload_n 3, 1, 3, 0, .null, []), (.iconst 1, 1, 0, 0, .int 1, []), (.iadd, 1, 0, 0, .null, []), (.iaload, 1, 0, 0, .null, [])],
  [(.invokevirtual 80, 3, 131, 2, .null, []), (.if_icmp .eq 366, 3, 603, 0, .null, []), (.iconst 0, 1, 0, 0, .int 0, []), (.ireturn, 1, 0, 0, .null, []), (.aload_n 1, 1, 1, 0, .null, []), (.aload_n 0, 1, 0, 0, .null, []), (.iload_n 3, 1, 3, 0, .null, []), (.iconst 1, 1, 0, 0, .int 1, []), (.iadd, 1, 0, 0, .null, []), (.iaload, 1, 0, 0, .null, []), (.invokevirtual 81, 3, 64, 2, .null, []), (.aload_n 2, 1, 2, 0, .null, []), (.aload_n 0, 1, 0, 0, .null, []), (.iload_n 3, 1, 3, 0, .null, []), (.iconst 1, 1, 0, 0, .int 1, []), (.iadd, 1, 0, 0, .null, [])],
  [(.iaload, 1, 0, 0, .null, []), (.invokevirtual 84, 3, 132, 2, .null, []), (.if_icmp .eq 343, 3, 603, 0, .null, []), (.iconst 0, 1, 0, 0, .int 0, []), (.ireturn, 1, 0, 0, .null, []), (.aload_n 1, 1, 1, 0, .null, []), (.aload_n 0, 1, 0, 0, .null, []), (.iload_n 3, 1, 3, 0, .null, []), (.iconst 1, 1, 0, 0, .int 1, []), (.iadd, 1, 0, 0, .null, []), (.iaload, 1, 0, 0, .null, []), (.invokevirtual 85, 3, 65, 2, .null, []), (.aload_n 2, 1, 2, 0, .null, []), (.aload_n 0, 1, 0, 0, .null, []), (.iload_n 3, 1, 3, 0, .null, []), (.iconst 1, 1, 0, 0, .int 1, [])],
  [(.iadd, 1, 0, 0, .null, []), (.iaload, 1, 0, 0, .null, []), (.invokevirtual 88, 3, 133, 2, .null, []), (.if_icmp .eq 320, 3, 603, 0, .null, []), (.iconst 0, 1, 0, 0, .int 0, []), (.ireturn, 1, 0, 0, .null, []), (.aload_n 1, 1, 1, 0, .null, []), (.aload_n 0, 1, 0, 0, .null, []), (.iload_n 3, 1, 3, 0, .null, []), (.iconst 1, 1, 0, 0, .int 1, []), (.iadd, 1, 0, 0, .null, []), (.iaload, 1, 0, 0, .null, []), (.invokevirtual 89, 3, 66, 2, .null, []), (.aload_n 2, 1, 2, 0, .null, []), (.aload_n 0, 1, 0, 0, .null, []), (.iload_n 3, 1, 3, 0, .null, [])],
  [(.iconst 1, 1, 0, 0, .int 1, []), (.iadd, 1, 0, 0, .null, []), (.iaload, 1, 0, 0, .null, []), (.invokevirtual 92, 3, 134, 2, .null, []), (.if_icmp .eq 297, 3, 603, 0, .null, []), (.iconst 0, 1, 0, 0, .int 0, []), (.ireturn, 1, 0, 0, .null, []), (.aload_n 1, 1, 1, 0, .null, []), (.aload_n 0, 1, 0, 0, .null, []), (.iload_n 3, 1, 3, 0, .null, []), (.iconst 1, 1, 0, 0, .int 1, []), (.iadd, 1, 0, 0, .null, []), (.iaload, 1, 0, 0, .null, []), (.aload_n 0, 1, 0, 0, .null, []), (.iload_n 3, 1, 3, 0, .null, []), (.iconst 2, 1, 0, 0, .int 2, [])],
  [(.iadd, 1, 0, 0, .null, []), (.iaload, 1, 0, 0, .null, []), (.invokevirtual 93, 3, 68, 3, .null, []), (.aload_n 2, 1, 2, 0, .null, []), (.aload_n 0, 1, 0, 0, .null, []), (.iload_n 3, 1, 3, 0, .null, []), (.iconst 1, 1, 0, 0, .int 1, []), (.iadd, 1, 0, 0, .null, []), (.iaload, 1, 0, 0, .null, []), (.aload_n 0, 1, 0, 0, .null, []), (.iload_n 3, 1, 3, 0, .null, []), (.iconst 2, 1, 0, 0, .int 2, []), (.iadd, 1, 0, 0, .null, []), (.iaload, 1, 0, 0, .null, []), (.invokevirtual 96, 3, 136, 3, .null, []), (.if_icmp .eq 264, 3, 603, 0, .null, [])],
  [(.iconst 0, 1, 0, 0, .int 0, []), (.ireturn, 1, 0, 0, .null, []), (.aload_n 1, 1, 1, 0, .null, []), (.aload_n 0, 1, 0, 0, .null, []), (.iload_n 3, 1, 3, 0, .null, []), (.iconst 1, 1, 0, 0, .int 1, []), (.iadd, 1, 0, 0, .null, []), (.iaload, 1, 0, 0, .null, []), (.aload_n 0, 1, 0, 0, .null, []), (.iload_n 3, 1, 3, 0, .null, []), (.iconst 2, 1, 0, 0, .int 2, []), (.iadd, 1, 0, 0, .null, []), (.iaload, 1, 0, 0, .null, []), (.invokevirtual 97, 3, 70, 3, .null, []), (.aload_n 2, 1, 2, 0, .null, []), (.aload_n 0, 1, 0, 0, .null, [])],
  [(.iload_n 3, 1, 3, 0, .null, []), (.iconst 1, 1, 0, 0, .int 1, []), (.iadd, 1, 0, 0, .null, []), (.iaload, 1, 0, 0, .null, []), (.aload_n 0, 1, 0, 0, .null, []), (.iload_n 3, 1, 3, 0, .null, []), (.iconst 2, 1, 0, 0, .int 2, []), (.iadd, 1, 0, 0, .null, []), (.iaload, 1, 0, 0, .null, []), (.invokevirtual 100, 3, 137, 3, .null, []), (.if_icmp .eq 231, 3, 603, 0, .null, []), (.iconst 0, 1, 0, 0, .int 0, []), (.ireturn, 1, 0, 0, .null, []), (.aload_n 1, 1, 1, 0, .null, []), (.aload_n 0, 1, 0, 0, .null, []), (.iload_n 3, 1, 3, 0, .null, [])],
  [(.iconst 1, 1, 0, 0, .int 1, []), (.iadd, 1, 0, 0, .null, []), (.iaload, 1, 0, 0, .null, []), (.aload_n 0, 1, 0, 0, .null, []), (.iload_n 3, 1, 3, 0, .null, []), (.iconst 2, 1, 0, 0, .int 2, []), (.iadd, 1, 0, 0, .null, []), (.iaload, 1, 0, 0, .null, []), (.ifCond .eq 7, 3, 459, 0, .null, []), (.iconst 1, 1, 0, 0, .int 1, []), (.goto 4, 3, 460, 0, .null, []), (.iconst 0, 1, 0, 0, .int 0, []), (.invokevirtual 101, 3, 71, 3, .null, []), (.aload_n 2, 1, 2, 0, .null, []), (.aload_n 0, 1, 0, 0, .null, []), (.iload_n 3, 1, 3, 0, .null, [])],
  [(.iconst 1, 1, 0, 0, .int 1, []), (.iadd, 1, 0, 0, .null, []), (.iaload, 1, 0, 0, .null, []), (.aload_n 0, 1, 0, 0, .null, []), (.iload_n 3, 1, 3, 0, .null, []), (.iconst 2, 1, 0, 0, .int 2, []), (.iadd, 1, 0, 0, .null, []), (.iaload, 1, 0, 0, .null, []), (.ifCond .eq 7, 3, 475, 0, .null, []), (.iconst 1, 1, 0, 0, .int 1, []), (.goto 4, 3, 476, 0, .null, []), (.iconst 0, 1, 0, 0, .int 0, []), (.invokevirtual 104, 3, 138, 3, .null, []), (.if_icmp .eq 182, 3, 603, 0, .null, []), (.iconst 0, 1, 0, 0, .int 0, []), (.ireturn, 1, 0, 0, .null, [])],
  [(.aload_n 1, 1, 1, 0, .null, []), (.aload_n 0, 1, 0, 0, .null, []), (.iload_n 3, 1, 3, 0, .null, []), (.iconst 1, 1, 0, 0, .int 1, []), (.iadd, 1, 0, 0, .null, []), (.iaload, 1, 0, 0, .null, []), (.invokevirtual 105, 3, 73, 2, .null, []), (.aload_n 2, 1, 2, 0, .null, []), (.aload_n 0, 1, 0, 0, .null, []), (.iload_n 3, 1, 3, 0, .null, []), (.iconst 1, 1, 0, 0, .int 1, []), (.iadd, 1, 0, 0, .null, []), (.iaload, 1, 0, 0, .null, []), (.invokevirtual 108, 3, 139, 2, .null, []), (.if_icmp .eq 159, 3, 603, 0, .null, []), (.iconst 0, 1, 0, 0, .int 0, [])],
  [(.ireturn, 1, 0, 0, .null, []), (.aload_n 1, 1, 1, 0, .null, []), (.invokevirtual 109, 3, 77, 1, .null, []), (.aload_n 2, 1, 2, 0, .null, []), (.invokevirtual 112, 3, 142, 1, .null, []), (.if_icmp .eq 146, 3, 603, 0, .null, []), (.iconst 0, 1, 0, 0, .int 0, []), (.ireturn, 1, 0, 0, .null, []), (.aload_n 1, 1, 1, 0, .null, []), (.invokevirtual 113, 3, 79, 1, .null, []), (.aload_n 2, 1, 2, 0, .null, []), (.invokevirtual 116, 3, 143, 1, .null, []), (.if_icmp .eq 133, 3, 603, 0, .null, []), (.iconst 0, 1, 0, 0, .int 0, []), (.ireturn, 1, 0, 0, .null, []), (.aload_n 1, 1, 1, 0, .null, [])],
  [(.aload_n 0, 1, 0, 0, .null, []), (.iload_n 3, 1, 3, 0, .null, []), (.iconst 1, 1, 0, 0, .int 1, []), (.iadd, 1, 0, 0, .null, []), (.iaload, 1, 0, 0, .null, []), (.aload_n 0, 1, 0, 0, .null, []), (.iload_n 3, 1, 3, 0, .null, []), (.iconst 2, 1, 0, 0, .int 2, []), (.iadd, 1, 0, 0, .null, []), (.iaload, 1, 0, 0, .null, []), (.invokevirtual 117, 3, 81, 3, .null, []), (.aload_n 2, 1, 2, 0, .null, []), (.aload_n 0, 1, 0, 0, .null, []), (.iload_n 3, 1, 3, 0, .null, []), (.iconst 1, 1, 0, 0, .int 1, []), (.iadd, 1, 0, 0, .null, [])],
  [(.iaload, 1, 0, 0, .null, []), (.aload_n 0, 1, 0, 0, .null, []), (.iload_n 3, 1, 3, 0, .null, []), (.iconst 2, 1, 0, 0, .int 2, []), (.iadd, 1, 0, 0, .null, []), (.iaload, 1, 0, 0, .null, []), (.invokevirtual 120, 3, 144, 3, .null, []), (.if_icmp .eq 100, 3, 603, 0, .null, []), (.iconst 0, 1, 0, 0, .int 0, []), (.ireturn, 1, 0, 0, .null, []), (.aload_n 1, 1, 1, 0, .null, []), (.invokevirtual 121, 3, 83, 1, .null, []), (.aload_n 2, 1, 2, 0, .null, []), (.invokevirtual 124, 3, 145, 1, .null, []), (.if_icmp .eq 87, 3, 603, 0, .null, []), (.iconst 0, 1, 0, 0, .int 0, [])],
  [(.ireturn, 1, 0, 0, .null, []), (.aload_n 1, 1, 1, 0, .null, []), (.invokevirtual 125, 3, 85, 1, .null, []), (.aload_n 2, 1, 2, 0, .null, []), (.invokevirtual 128, 3, 146, 1, .null, []), (.if_icmp .eq 74, 3, 603, 0, .null, []), (.iconst 0, 1, 0, 0, .int 0, []), (.ireturn, 1, 0, 0, .null, []), (.aload_n 1, 1, 1, 0, .null, []), (.aload_n 0, 1, 0, 0, .null, []), (.iload_n 3, 1, 3, 0, .null, []), (.iconst 1, 1, 0, 0, .int 1, []), (.iadd, 1, 0, 0, .null, []), (.iaload, 1, 0, 0, .null, []), (.invokevirtual 129, 3, 86, 2, .null, []), (.aload_n 2, 1, 2, 0, .null, [])],
  [(.aload_n 0, 1, 0, 0, .null, []), (.iload_n 3, 1, 3, 0, .null, []), (.iconst 1, 1, 0, 0, .int 1, []), (.iadd, 1, 0, 0, .null, []), (.iaload, 1, 0, 0, .null, []), (.invokevirtual 132, 3, 147, 2, .null, []), (.if_icmp .eq 51, 3, 603, 0, .null, []), (.iconst 0, 1, 0, 0, .int 0, []), (.ireturn, 1, 0, 0, .null, []), (.aload_n 1, 1, 1, 0, .null, []), (.aload_n 0, 1, 0, 0, .null, []), (.iload_n 3, 1, 3, 0, .null, []), (.iconst 1, 1, 0, 0, .int 1, []), (.iadd, 1, 0, 0, .null, []), (.iaload, 1, 0, 0, .null, []), (.invokevirtual 133, 3, 87, 2, .null, [])],
  [(.aload_n 2, 1, 2, 0, .null, []), (.aload_n 0, 1, 0, 0, .null, []), (.iload_n 3, 1, 3, 0, .null, []), (.iconst 1, 1, 0, 0, .int 1, []), (.iadd, 1, 0, 0, .null, []), (.iaload, 1, 0, 0, .null, []), (.invokevirtual 136, 3, 148, 2, .null, []), (.if_icmp .eq 28, 3, 603, 0, .null, []), (.iconst 0, 1, 0, 0, .int 0, []), (.ireturn, 1, 0, 0, .null, []), (.aload_n 1, 1, 1, 0, .null, []), (.aload_n 0, 1, 0, 0, .null, []), (.iload_n 3, 1, 3, 0, .null, []), (.iconst 1, 1, 0, 0, .int 1, []), (.iadd, 1, 0, 0, .null, []), (.iaload, 1, 0, 0, .null, [])],
  [(.invokevirtual 137, 3, 88, 2, .null, []), (.aload_n 2, 1, 2, 0, .null, []), (.aload_n 0, 1, 0, 0, .null, []), (.iload_n 3, 1, 3, 0, .null, []), (.iconst 1, 1, 0, 0, .int 1, []), (.iadd, 1, 0, 0, .null, []), (.iaload, 1, 0, 0, .null, []), (.invokevirtual 140, 3, 149, 2, .null, []), (.if_icmp .eq 5, 3, 603, 0, .null, []), (.iconst 0, 1, 0, 0, .int 0, []), (.ireturn, 1, 0, 0, .null, []), (.iinc 3 3, 3, 3, 0, .int 3, []), (.goto (-948), 3, 10, 0, .null, []), (.iconst 1, 1, 0, 0, .int 1, []), (.ireturn, 1, 0, 0, .null, [])]]
def M_L_law : am_M := (⟨"SpiteLineLaw", "law", "([I)Z"⟩, code, 4, (some .boolean), 11, (7, 162), K_L_law, [[0, 3, 4, 7, 8, 11, 12, 15, 16, 17, 18, 19, 20, 21, 22, 23], [26, 27, 28, 29, 31, 32, 172, 173, 174, 175, 176, 177, 178, 181, 182, 183], [184, 185, 186, 187, 190, 193, 194, 195, 196, 199, 200, 203, 206, 207, 208, 209], [212, 213, 216, 219, 220, 221, 222, 223, 224, 225, 226, 227, 230, 231, 232, 233], [234, 235, 236, 239, 242, 243, 244, 245, 246, 247, 248, 249, 250, 251, 252, 253], [254, 255, 258, 259, 260, 261, 262, 263, 264, 265, 266, 267, 268, 269, 272, 275], [276, 277, 278, 279, 280, 281, 282, 283, 284, 285, 286, 287, 288, 291, 292, 293], [294, 295, 296, 297, 298, 299, 300, 301, 302, 305, 308, 309, 310, 311, 312, 313], [314, 315, 316, 317, 318, 319, 320, 321, 324, 325, 326, 327, 328, 329, 330, 331], [332, 333, 334, 335, 338, 341, 342, 343, 344, 345, 346, 347, 348, 349, 350, 351], [352, 353, 354, 357, 358, 361, 362, 365, 366, 367, 368, 369, 370, 371, 372, 373], [374, 375, 376, 379, 380, 383, 384, 387, 390, 391, 392, 393, 394, 395, 396, 397], [398, 399, 400, 401, 402, 403, 406, 407, 410, 411, 414, 415, 416, 417, 418, 419], [420, 421, 422, 423, 424, 425, 428, 429, 432, 433, 436, 439, 440, 441, 442, 443], [444, 445, 446, 447, 448, 449, 450, 451, 452, 455, 456, 457, 458, 459, 460, 461], [462, 463, 464, 465, 466, 469, 472, 473, 474, 475, 476, 477, 478, 479, 480, 483], [484, 485, 486, 487, 488, 489, 492, 495, 496, 497, 498, 499, 500, 501, 502, 503], [506, 507, 508, 509, 510, 511, 512, 515, 518, 519, 520, 521, 522, 523, 524, 525], [526, 529, 530, 531, 532, 533, 534, 535, 538, 541, 542, 543, 544, 545, 546, 547], [548, 549, 552, 553, 554, 555, 556, 557, 558, 561, 564, 565, 566, 567, 570, 571], [574, 577, 578, 579, 580, 581, 582, 583, 584, 585, 588, 589, 590, 591, 592, 593], [594, 597, 600, 601, 602, 603, 604, 605, 606, 607, 608, 611, 612, 613, 614, 615], [616, 617, 620, 623, 624, 625, 626, 627, 628, 629, 630, 631, 634, 635, 636, 637], [638, 639, 640, 643, 646, 647, 648, 649, 650, 651, 652, 653, 654, 657, 658, 659], [660, 661, 662, 663, 666, 669, 670, 671, 672, 673, 674, 675, 676, 677, 678, 679], [680, 681, 682, 685, 686, 687, 688, 689, 690, 691, 692, 693, 694, 695, 696, 699], [702, 703, 704, 705, 706, 707, 708, 709, 710, 711, 712, 713, 714, 715, 718, 719], [720, 721, 722, 723, 724, 725, 726, 727, 728, 729, 732, 735, 736, 737, 738, 739], [740, 741, 742, 743, 744, 745, 746, 747, 748, 751, 752, 755, 756, 759, 760, 761], [762, 763, 764, 765, 766, 767, 768, 769, 770, 773, 774, 777, 778, 781, 784, 785], [786, 787, 788, 789, 790, 791, 792, 795, 796, 797, 798, 799, 800, 801, 804, 807], [808, 809, 810, 813, 814, 817, 820, 821, 822, 823, 826, 827, 830, 833, 834, 835], [836, 837, 838, 839, 840, 841, 842, 843, 844, 845, 846, 849, 850, 851, 852, 853], [854, 855, 856, 857, 858, 859, 860, 863, 866, 867, 868, 869, 872, 873, 876, 879], [880, 881, 882, 885, 886, 889, 892, 893, 894, 895, 896, 897, 898, 899, 900, 903], [904, 905, 906, 907, 908, 909, 912, 915, 916, 917, 918, 919, 920, 921, 922, 923], [926, 927, 928, 929, 930, 931, 932, 935, 938, 939, 940, 941, 942, 943, 944, 945], [946, 949, 950, 951, 952, 953, 954, 955, 958, 961, 962, 963, 966, 969, 970]])
def am_tabL : List (List am_M) := [[M_Sp_init, M_Text_init, M_Reader_init, M_Line_init, M_Scene_init, M_Deeds_init, M_Witness_init, M_Book_init, M_Draws_init, M_Image_init, M_Sp_feed, M_Text_add, M_Sp_line, M_Reader_read, M_Line_clear, M_Scene_clear],
  [M_Reader_skipBlanks, M_Text_letterAt, M_Reader_readClause, M_Line_isTold, M_Reader_blame, M_Reader_readStations, M_Reader_readNumber, M_Reader_isFigure, M_Reader_readEnd, M_Reader_readPerson, M_Sp_bit, M_Sp_withBit, M_Line_takeFrom, M_Scene_takeFrom, M_Sp_fault, M_Sp_told],
  [M_Scene_awaited, M_Scene_shows, M_Scene_alarm, M_Scene_arrived, M_Scene_hasArrived, M_Sp_person, M_Line_hasPerson, M_Sp_station, M_Line_hasStation, M_Scene_standing, M_Scene_mostShown, M_Sp_mien, M_Deeds_note, M_Sp_feet, M_Sp_flowers, M_Sp_walk],
  [M_Sp_fog, M_Sp_train, M_Sp_trainsRefused, M_Scene_runTrain, M_Scene_stopsOfNext, M_Line_allStations, M_Scene_letOut, M_Scene_takeIn, M_Scene_emptyAtLast, M_Sp_drift, M_Sp_drawDay, M_Draws_next, M_Sp_undo, M_Deeds_takeBack, M_Sp_stops, M_Sp_calm],
  [M_Sp_journey, M_Sp_never, M_Sp_cut, M_Sp_arrivesThough, M_Sp_aunts, M_Sp_endsAt, M_Sp_chance, M_Sp_ran, M_Witness_add, M_Sp_hoped, M_Witness_find, M_Witness_tryHopeful, M_Witness_fits, M_Sp_sure, M_Line_allPersons, M_Sp_look],
  [M_Witness_greatestPart, M_Sp_write, M_Book_add, M_Sp_judge, M_Book_firstWrong, M_Sp_tear, M_Sp_seed, M_Sp_keep, M_Sp_goBack, M_Mo_init, M_Mo_feed, M_Mo_in, M_Mo_line, M_Mo_skip, M_Mo_here, M_Mo_readsLine],
  [M_Mo_readsFirst, M_Mo_sign, M_Mo_fails, M_Mo_number, M_Mo_readsPerson, M_Mo_readsMet, M_Mo_fault, M_Mo_told, M_Mo_awaitedSet, M_Mo_isAwaited, M_Mo_shows, M_Mo_arrivedSet, M_Mo_person, M_Mo_isPerson, M_Mo_station, M_Mo_isStation],
  [M_Mo_mien, M_Mo_notes, M_Mo_laysBy, M_Mo_feet, M_Mo_flowers, M_Mo_walk, M_Mo_fog, M_Mo_train, M_Mo_run, M_Mo_has, M_Mo_getOut, M_Mo_drift, M_Mo_drawn, M_Mo_undo, M_Mo_read, M_Mo_stops],
  [M_Mo_nextStops, M_Mo_begin, M_Mo_back, M_Mo_calm, M_Mo_journey, M_Mo_never, M_Mo_cut, M_Mo_bits, M_Mo_aunts, M_Mo_chance, M_Mo_ran, M_Mo_hoped, M_Mo_setHopes, M_Mo_goesSo, M_Mo_sure, M_Mo_look],
  [M_Mo_write, M_Mo_judge, M_Mo_tear, M_Mo_seed, M_Mo_keep, M_Mo_goBack, M_L_law]]
def am_tab (k : Nat) : am_M := am_at2 M_L_law am_tabL k
def am_fl : List (Nat × Nat × Nat × Nat) := [(9, 10, 9, 0), (9, 19, 9, 1), (9, 26, 9, 2), (9, 33, 9, 3), (9, 37, 9, 4), (9, 40, 9, 5), (9, 47, 9, 6), (9, 54, 9, 7), (9, 61, 9, 8), (9, 68, 9, 9), (9, 74, 9, 10), (9, 78, 9, 11), (9, 88, 7, 1), (9, 96, 5, 2), (9, 99, 5, 3), (9, 102, 5, 0), (9, 107, 5, 1), (9, 113, 1, 2), (9, 116, 8, 2), (9, 117, 0, 2), (9, 118, 3, 2), (9, 122, 4, 2), (9, 125, 4, 0), (9, 128, 4, 1), (9, 131, 6, 4), (9, 134, 6, 5), (9, 137, 6, 6), (9, 152, 6, 0), (9, 155, 4, 3), (9, 158, 4, 4), (9, 161, 6, 1), (9, 164, 6, 2), (9, 171, 6, 3), (9, 256, 8, 3), (9, 271, 2, 0), (9, 274, 3, 0), (9, 275, 3, 1), (0, 9, 0, 0), (0, 15, 0, 1), (0, 18, 0, 2), (0, 22, 6, 0), (1, 11, 1, 0), (1, 17, 1, 1), (1, 21, 1, 2), (2, 7, 2, 0), (3, 10, 3, 0), (3, 16, 3, 1), (3, 20, 3, 2), (4, 9, 4, 0), (4, 15, 4, 1), (4, 18, 4, 2), (4, 21, 4, 3), (4, 25, 4, 4), (5, 12, 5, 0), (5, 21, 5, 1), (5, 25, 5, 2), (5, 29, 5, 3), (5, 32, 5, 4), (5, 35, 5, 5), (5, 46, 7, 1), (5, 62, 4, 2), (5, 82, 4, 0), (5, 85, 4, 1), (5, 88, 6, 4), (5, 91, 4, 3), (5, 95, 4, 4), (5, 98, 6, 0), (5, 101, 6, 1), (5, 104, 6, 2), (5, 115, 6, 3), (6, 9, 6, 0), (6, 15, 6, 1), (6, 18, 6, 2), (6, 22, 6, 3), (6, 25, 6, 4), (6, 28, 6, 5), (6, 31, 6, 6), (6, 44, 4, 1), (6, 49, 4, 2), (6, 72, 4, 3), (6, 82, 4, 0), (7, 9, 7, 0), (7, 15, 7, 1), (8, 9, 8, 0), (8, 15, 8, 1), (8, 19, 8, 2), (8, 23, 8, 3), (8, 26, 8, 4), (8, 33, 4, 2), (10, 7, 10, 0), (10, 13, 10, 7), (10, 16, 10, 8), (10, 19, 10, 15), (10, 22, 10, 16), (10, 25, 10, 17), (10, 28, 10, 18), (10, 31, 10, 19), (10, 34, 10, 20), (10, 37, 10, 21), (10, 40, 10, 23), (10, 43, 10, 25), (10, 46, 10, 26), (10, 49, 10, 28), (10, 52, 10, 30), (10, 55, 10, 32), (10, 58, 10, 33), (10, 62, 10, 34), (10, 65, 10, 2), (10, 74, 10, 1), (10, 78, 10, 3), (10, 85, 10, 4), (10, 95, 10, 5), (10, 105, 10, 6), (10, 121, 10, 9), (10, 124, 10, 10), (10, 127, 10, 11), (10, 130, 10, 12), (10, 133, 10, 13), (10, 136, 10, 14), (10, 139, 10, 22), (10, 142, 10, 27), (10, 145, 10, 31), (10, 187, 10, 24), (10, 221, 10, 29)]
def am_ml : List (Nat × Nat × Nat) := [(9, 46, 5), (9, 84, 11), (9, 92, 13), (9, 103, 28), (9, 110, 29), (9, 140, 32), (9, 144, 35), (9, 148, 38), (9, 167, 26), (9, 174, 33), (9, 177, 40), (9, 180, 41), (9, 183, 42), (9, 186, 44), (9, 189, 27), (9, 199, 19), (9, 204, 50), (9, 207, 51), (9, 211, 58), (9, 214, 61), (9, 218, 52), (9, 221, 53), (9, 225, 34), (9, 231, 36), (9, 235, 67), (9, 239, 69), (9, 249, 72), (9, 252, 74), (9, 259, 78), (9, 262, 80), (9, 265, 82), (9, 267, 84), (9, 278, 59), (1, 25, 29), (5, 38, 14), (5, 41, 15), (5, 42, 16), (5, 51, 18), (5, 54, 17), (5, 58, 19), (5, 65, 20), (5, 69, 21), (5, 72, 25), (5, 75, 22), (5, 79, 24), (5, 118, 23), (6, 52, 33), (6, 55, 34), (6, 59, 53), (6, 63, 32), (6, 75, 36), (6, 79, 52), (6, 85, 54), (6, 89, 55), (6, 93, 56), (6, 97, 38), (8, 29, 75), (8, 38, 52), (8, 44, 76), (11, 9, 0), (11, 12, 89), (11, 13, 10), (11, 17, 90), (11, 18, 12), (11, 22, 92), (11, 23, 30), (11, 26, 102), (11, 27, 31), (11, 30, 103), (11, 31, 37), (11, 35, 108), (11, 36, 39), (11, 39, 110), (11, 40, 43), (11, 43, 112), (11, 44, 45), (11, 48, 115), (11, 49, 46), (11, 52, 116), (11, 53, 47), (11, 56, 117), (11, 57, 48), (11, 60, 118), (11, 61, 49), (11, 64, 119), (11, 65, 57), (11, 68, 123), (11, 69, 60), (11, 72, 125), (11, 73, 62), (11, 76, 127), (11, 77, 63), (11, 80, 131), (11, 81, 64), (11, 84, 132), (11, 85, 65), (11, 88, 133), (11, 89, 66), (11, 92, 134), (11, 93, 68), (11, 96, 136), (11, 97, 70), (11, 100, 137), (11, 101, 71), (11, 104, 138), (11, 105, 73), (11, 108, 139), (11, 109, 77), (11, 112, 142), (11, 113, 79), (11, 116, 143), (11, 117, 81), (11, 120, 144), (11, 121, 83), (11, 124, 145), (11, 125, 85), (11, 128, 146), (11, 129, 86), (11, 132, 147), (11, 133, 87), (11, 136, 148), (11, 137, 88), (11, 140, 149), (10, 69, 91), (10, 81, 94), (10, 88, 93), (10, 91, 98), (10, 98, 97), (10, 101, 99), (10, 108, 101), (10, 111, 96), (10, 115, 100), (10, 118, 95), (10, 148, 106), (10, 152, 105), (10, 155, 104), (10, 158, 107), (10, 161, 109), (10, 165, 111), (10, 168, 114), (10, 172, 113), (10, 176, 121), (10, 179, 122), (10, 183, 120), (10, 199, 124), (10, 202, 126), (10, 205, 129), (10, 208, 130), (10, 211, 128), (10, 214, 135), (10, 224, 141), (10, 227, 140)]
def am_mn : List (Nat × Nat × Nat) := [(9, 9, 1), (9, 18, 2), (9, 25, 3), (9, 32, 4), (9, 53, 6), (9, 60, 7), (9, 67, 8), (9, 82, 9), (1, 24, 4), (3, 9, 4), (5, 11, 3), (5, 20, 4), (5, 107, 26), (5, 111, 27), (6, 40, 26), (8, 48, 26)]
def am_mo : List (Nat × Nat) := [(9, 1), (0, 3), (1, 3), (2, 1), (3, 1), (4, 3), (5, 3), (6, 3), (7, 3), (8, 3), (10, 1)]
def am_mc : List (Nat × Nat) := [(9, 281), (4, 28), (6, 34)]
def am_mm : List (Nat × Nat × Nat) := [(9, 193, 1004), (9, 228, 1002), (9, 244, 1003), (6, 67, 1002), (8, 52, 1002)]
def am_ck : List (Nat × Nat × Nat) := [(9, 7, 7), (9, 16, 5), (9, 23, 4), (9, 30, 6), (9, 44, 1), (9, 51, 8), (9, 58, 0), (9, 65, 2), (9, 72, 3), (1, 9, 6), (3, 7, 6), (5, 9, 4), (5, 18, 6), (11, 7, 9), (11, 10, 10)]
def am_ki : List (Nat × Nat × Int32) := [(9, 83, (-1000000002)), (9, 91, (-1000000004)), (9, 151, (-1000000001)), (9, 203, (-1000000003)), (2, 19, 65536), (10, 73, (-1000000002)), (10, 77, (-1000000004)), (10, 164, (-1000000001)), (10, 175, (-1000000003))]
def am_kl : List (Nat × Nat × Int64) := [(9, 242, 1000000000), (9, 247, 100), (2, 13, 1103515245), (2, 15, 12345), (2, 17, 2147483647), (10, 191, 1103515245), (10, 193, 12345), (10, 195, 2147483648), (10, 197, 65536), (10, 217, 1000000000), (10, 219, 100)]
def am_nm : Nat := 151
def am_run : Nat → am_M → am_F → am_H → Option (Option Value × am_H)
  | 0, _, _, _ => none
  | f + 1, M, F, h => match am_kind (am_ins M F.1) with
    | 0 => (match am_step (am_ins M F.1) F.1 F.2.1 F.2.2 h with
      | some (F', h') => am_run f M F' h'
      | none => none)
    | 1 => (match am_callok (am_ins M F.1) (am_tab (am_ins M F.1).2.2.1) F.2.2 h with
      | true => (match am_run f (am_tab (am_ins M F.1).2.2.1) (0, am_entry (am_tab (am_ins M F.1).2.2.1) (F.2.2.take (am_ins M F.1).2.2.2.1).reverse, []) h with
        | some (r, h1) => am_run f M (F.1 + 1, F.2.1, r.toList ++ F.2.2.drop (am_ins M F.1).2.2.2.1) h1
        | none => none)
      | false => none)
    | _ => (match am_ret (am_ins M F.1) M F.2.2 with
      | some r => some (r, h)
      | none => none)
end
section
/-! how the abstract cells lie in the machine's heap -/
def am_ad (b base : Nat) : Nat → Nat
  | 0 => b
  | k + 1 => base + k
def am_cv (b base : Nat) : Value → Value
  | .ref a => .ref (am_ad b base a)
  | v => v
def am_cc (b base : Nat) (aC : FieldType → ClassId) : am_C → va_E
  | .inl (ty, n, .inl f) => .inl (aC ty, n, .inl f)
  | .inl (ty, n, .inr (.inl f)) => .inl (aC ty, n, .inr (.inl f))
  | .inl (ty, n, .inr (.inr (.inl f))) => .inl (aC ty, n, .inr (.inr (.inl f)))
  | .inl (ty, n, .inr (.inr (.inr (.inl f)))) => .inl (aC ty, n, .inr (.inr (.inr (.inl f))))
  | .inl (ty, n, .inr (.inr (.inr (.inr f)))) => .inl (aC ty, n, .inr (.inr (.inr (.inr (fun j => (f j).map (am_ad b base))))))
  | .inr (ci, fs) => .inr (ci, fs.map (am_cv b base))
def am_ws (b base : Nat) (aC : FieldType → ClassId) (h : am_H) : va_W := (List.range h.2.1).map (fun k => (base + k, am_cc b base aC (h.1 (k + 1))))
def am_tys (aC : FieldType → ClassId) : List (ClassId × FieldType) := [(aC .int, .int), (aC .boolean, .boolean), (aC .long, .long), (aC (.object "SpiteLine$Scene"), .object "SpiteLine$Scene"), (aC (.object "SpiteLine$Image"), .object "SpiteLine$Image")]
def am_lp (b base : Nat) (ls : List Value) : List (Nat × Value) := (List.range ls.length).filterMap (fun k => if ls.getD k .null = .null then none else some (k, am_cv b base (ls.getD k .null)))
def am_A (base : Nat) : Nat → Prop := fun q => base ≤ q
def am_rel (b base : Nat) (aC : FieldType → ClassId) (D : va_G) (h : am_H) (H : Heap) : Prop := va_P D am_cl (am_ws b base aC h) H ∧ ∀ k, h.2.1 < k → h.1 k = am_dead
def am_scr (L : Nat) (xs : Nat → Int32) (h : am_H) : Prop := h.1 0 = am_dead ∨ h.1 0 = .inl (.int, L, .inl xs)
def am_st (b base : Nat) (aC : FieldType → ClassId) (D : va_G) (L : Nat) (xs : Nat → Int32) (nL : Nat) (s : State) (h : am_H) (H : Heap) (locs : List Loc) (ls : List Value) (LS : Array Slot) : Prop :=
  am_rel b base aC D h H ∧ am_scr L xs h ∧ va_S (am_A base) s.heap H locs ∧ lv_has LS ls.length (am_lp b base ls) ∧ ls.length = nL
section AML
variable {b base L : Nat} {xs : Nat → Int32} {aC : FieldType → ClassId} {D : va_G}
theorem am_cv_int (x : Int32) : am_cv b base (.int x) = .int x := rfl
theorem am_cv_long (x : Int64) : am_cv b base (.long x) = .long x := rfl
theorem am_cv_cat (v : Value) : (am_cv b base v).category = v.category := by cases v <;> rfl
theorem am_cv_sum (st : List Value) : ((st.map (am_cv b base)).map fun v => v.category).sum = (st.map fun v => v.category).sum := by
  rw [List.map_map]
  congr 1
  apply List.map_congr_left
  intro v _
  exact am_cv_cat v
theorem am_isL_cat {v : Value} (h : am_isL v = false) : v.category = 1 := by cases v <;> simp_all [am_isL, Value.category]
theorem am_lp_mem {ls : List Value} {q : Nat × Value} : q ∈ am_lp b base ls ↔ q.1 < ls.length ∧ ls.getD q.1 .null ≠ .null ∧ q.2 = am_cv b base (ls.getD q.1 .null) := by
  unfold am_lp
  rw [List.mem_filterMap]
  constructor
  · rintro ⟨k, hk, e⟩
    split at e
    · cases e
    · rename_i hn
      cases e
      exact ⟨List.mem_range.mp hk, hn, rfl⟩
  · rintro ⟨h1, h2, h3⟩
    refine ⟨q.1, List.mem_range.mpr h1, ?_⟩
    rw [if_neg h2, ← h3]
theorem am_lp_at {ls : List Value} {LS : Array Slot} {n k : Nat} {v : Value} (h : lv_has LS n (am_lp b base ls)) (e : ls.getD k .null = v) (hv : v ≠ .null) : LS[k]? = some (.val (am_cv b base v)) := by
  have hk : k < ls.length := by
    rcases Nat.lt_or_ge k ls.length with q | q
    · exact q
    · rw [List.getD_eq_getElem?_getD, List.getElem?_eq_none q] at e
      exact absurd e.symm hv
  subst e
  exact h.2.2 (k, _) (am_lp_mem.mpr ⟨hk, hv, rfl⟩)
theorem am_lp_set1 {ls : List Value} {LS : Array Slot} {a : Nat} {v : Value} (h : lv_has LS ls.length ((a, am_cv b base v) :: (am_lp b base ls).filter (fun q => !(q.1 == a) && !(q.1 + 1 == a && q.2.category == 2)))) (ha : a < ls.length) (hl : am_isL (ls.getD (a - 1) .null) = false) : lv_has LS (ls.set a v).length (am_lp b base (ls.set a v)) := by
  refine ⟨by rw [List.length_set]; exact h.1, h.2.1, fun q hq => ?_⟩
  obtain ⟨h1, h2, h3⟩ := am_lp_mem.mp hq
  rw [List.length_set] at h1
  apply h.2.2
  by_cases e : q.1 = a
  · refine List.mem_cons.mpr (Or.inl ?_)
    rw [e] at h3
    rw [List.getD_eq_getElem?_getD, List.getElem?_set_self ha] at h3
    exact Prod.ext e h3
  · refine List.mem_cons.mpr (Or.inr ?_)
    rw [List.getD_eq_getElem?_getD, List.getElem?_set_ne (Ne.symm e), ← List.getD_eq_getElem?_getD] at h2 h3
    refine List.mem_filter.mpr ⟨am_lp_mem.mpr ⟨h1, h2, h3⟩, ?_⟩
    by_cases e2 : q.1 + 1 = a
    · have : q.1 = a - 1 := by omega
      rw [← this] at hl
      have hc : q.2.category = 1 := by rw [h3, am_cv_cat]; exact am_isL_cat hl
      simp [e, hc]
    · simp [e, e2]
theorem am_lp_set2 {ls : List Value} {LS : Array Slot} {a : Nat} {v : Value} (h : lv_has LS ls.length ((a, am_cv b base v) :: (am_lp b base ls).filter (fun q => !(q.1 == a) && (!(q.1 == a + 1) && !(q.1 + 1 == a && q.2.category == 2))))) (ha : a + 1 < ls.length) (hl : am_isL (ls.getD (a - 1) .null) = false) : lv_has LS ((ls.set a v).set (a + 1) .null).length (am_lp b base ((ls.set a v).set (a + 1) .null)) := by
  refine ⟨by rw [List.length_set, List.length_set]; exact h.1, h.2.1, fun q hq => ?_⟩
  obtain ⟨h1, h2, h3⟩ := am_lp_mem.mp hq
  rw [List.length_set, List.length_set] at h1
  apply h.2.2
  by_cases e1 : q.1 = a + 1
  · rw [e1, List.getD_eq_getElem?_getD, List.getElem?_set_self (by rw [List.length_set]; exact ha)] at h2
    exact absurd rfl h2
  rw [List.getD_eq_getElem?_getD, List.getElem?_set_ne (Ne.symm e1)] at h2 h3
  by_cases e : q.1 = a
  · refine List.mem_cons.mpr (Or.inl ?_)
    rw [e] at h3
    rw [List.getElem?_set_self (by omega)] at h3
    exact Prod.ext e h3
  · refine List.mem_cons.mpr (Or.inr ?_)
    rw [List.getElem?_set_ne (Ne.symm e), ← List.getD_eq_getElem?_getD] at h2 h3
    refine List.mem_filter.mpr ⟨am_lp_mem.mpr ⟨h1, h2, h3⟩, ?_⟩
    by_cases e2 : q.1 + 1 = a
    · have : q.1 = a - 1 := by omega
      rw [← this] at hl
      have hc : q.2.category = 1 := by rw [h3, am_cv_cat]; exact am_isL_cat hl
      simp [e, e1, hc]
    · simp [e, e1, e2]
/-! the stack's top, the cells' kinds -/
theorem am_i1_some {α : Type} {st : List Value} {k : Int32 → List Value → Option α} {o : α} (h : am_i1 st k = some o) : ∃ x r, st = .int x :: r ∧ k x r = some o := by
  unfold am_i1 at h
  split at h
  · exact ⟨_, _, rfl, h⟩
  · cases h
theorem am_i2_some {α : Type} {st : List Value} {k : Int32 → Int32 → List Value → Option α} {o : α} (h : am_i2 st k = some o) : ∃ x y r, st = .int y :: .int x :: r ∧ k x y r = some o := by
  unfold am_i2 at h
  split at h
  · exact ⟨_, _, _, rfl, h⟩
  · cases h
theorem am_l1_some {α : Type} {st : List Value} {k : Int64 → List Value → Option α} {o : α} (h : am_l1 st k = some o) : ∃ x r, st = .long x :: r ∧ k x r = some o := by
  unfold am_l1 at h
  split at h
  · exact ⟨_, _, rfl, h⟩
  · cases h
theorem am_l2_some {α : Type} {st : List Value} {k : Int64 → Int64 → List Value → Option α} {o : α} (h : am_l2 st k = some o) : ∃ x y r, st = .long y :: .long x :: r ∧ k x y r = some o := by
  unfold am_l2 at h
  split at h
  · exact ⟨_, _, _, rfl, h⟩
  · cases h
theorem am_r1_some {α : Type} {st : List Value} {k : Nat → List Value → Option α} {o : α} (h : am_r1 st k = some o) : ∃ a r, st = .ref a :: r ∧ k a r = some o := by
  unfold am_r1 at h
  split at h
  · exact ⟨_, _, rfl, h⟩
  · cases h
theorem am_obj_some {α : Type} {c : am_C} {ci : Nat} {k : List Value → Option α} {o : α} (h : am_obj c ci k = some o) : ∃ fs, c = .inr (ci, fs) ∧ k fs = some o := by
  unfold am_obj at h
  split at h
  · split at h
    · rename_i e
      subst e
      exact ⟨_, rfl, h⟩
    · cases h
  · cases h
theorem am_ari_some {α : Type} {c : am_C} {k : Nat → (Nat → Int32) → Option α} {o : α} (h : am_ari c k = some o) : ∃ n f, c = .inl (.int, n, .inl f) ∧ k n f = some o := by
  unfold am_ari at h
  split at h
  · exact ⟨_, _, rfl, h⟩
  · cases h
theorem am_arz_some {α : Type} {c : am_C} {k : Nat → (Nat → Int32) → Option α} {o : α} (h : am_arz c k = some o) : ∃ n f, c = .inl (.boolean, n, .inl f) ∧ k n f = some o := by
  unfold am_arz at h
  split at h
  · exact ⟨_, _, rfl, h⟩
  · cases h
theorem am_arl_some {α : Type} {c : am_C} {k : Nat → (Nat → Int64) → Option α} {o : α} (h : am_arl c k = some o) : ∃ n f, c = .inl (.long, n, .inr (.inl f)) ∧ k n f = some o := by
  unfold am_arl at h
  split at h
  · exact ⟨_, _, rfl, h⟩
  · cases h
theorem am_arq_some {α : Type} {c : am_C} {k : String → Nat → (Nat → Option Nat) → Option α} {o : α} (h : am_arq c k = some o) : ∃ C n f, c = .inl (.object C, n, .inr (.inr (.inr (.inr f)))) ∧ k C n f = some o := by
  unfold am_arq at h
  split at h
  · exact ⟨_, _, _, rfl, h⟩
  · cases h
theorem am_oc_some {α : Type} {C : String} {k : Nat → Option α} {o : α} (h : am_oc C k = some o) : (C = "SpiteLine$Scene" ∧ k 6 = some o) ∨ (C = "SpiteLine$Image" ∧ k 3 = some o) := by
  unfold am_oc at h
  split at h
  · exact Or.inl ⟨by assumption, h⟩
  · split at h
    · exact Or.inr ⟨by assumption, h⟩
    · cases h
/-! the world as a list: one cell, one cell changed, one cell more -/
theorem am_ws_at {h : am_H} {k : Nat} (hk : k < h.2.1) : (am_ws b base aC h)[k]? = some (base + k, am_cc b base aC (h.1 (k + 1))) := by
  unfold am_ws
  rw [List.getElem?_map, List.getElem?_range hk]
  rfl
theorem am_ws_len (h : am_H) : (am_ws b base aC h).length = h.2.1 := by simp [am_ws]
theorem am_ws_D (h : am_H) : va_D (am_A base) (am_ws b base aC h) := by
  have key : ∀ (i : Nat) (p : Nat × va_E), (am_ws b base aC h)[i]? = some p → p.1 = base + i := by
    intro i p hp
    have hi : i < h.2.1 := by rw [← am_ws_len (b := b) (base := base) (aC := aC) h]; exact (List.getElem?_eq_some_iff.mp hp).1
    rw [am_ws_at hi] at hp
    cases hp
    rfl
  refine ⟨fun i j p q hi hj e => ?_, fun k q hk => ?_⟩
  · rw [key i p hi, key j q hj] at e
    omega
  · show base ≤ q.1
    rw [key k q hk]
    omega
theorem am_ws_set {h : am_H} {k : Nat} (c : am_C) (hk : k < h.2.1) : (am_ws b base aC h).set k (base + k, am_cc b base aC c) = am_ws b base aC (am_set h (k + 1) c) := by
  apply List.ext_getElem?
  intro i
  by_cases hi : i < h.2.1
  · rw [am_ws_at (h := am_set h (k + 1) c) (show i < (am_set h (k + 1) c).2.1 from hi)]
    by_cases e : i = k
    · subst e
      rw [List.getElem?_set_self (by rw [am_ws_len]; exact hi)]
      simp [am_set]
    · rw [List.getElem?_set_ne (Ne.symm e), am_ws_at hi]
      simp [am_set, e]
  · rw [List.getElem?_eq_none (by rw [List.length_set, am_ws_len]; omega), List.getElem?_eq_none (by rw [am_ws_len]; show h.2.1 ≤ i; omega)]
theorem am_ws_push {h : am_H} (c : am_C) (w : Nat) : am_ws b base aC h ++ [(base + h.2.1, am_cc b base aC c)] = am_ws b base aC (am_push h c w) := by
  apply List.ext_getElem?
  intro i
  by_cases hi : i < h.2.1
  · rw [am_ws_at (h := am_push h c w) (show i < h.2.1 + 1 by omega), List.getElem?_append_left (by rw [am_ws_len]; exact hi), am_ws_at hi]
    have : ¬ i = h.2.1 := by omega
    simp [am_push, this]
  · by_cases e : i = h.2.1
    · subst e
      rw [am_ws_at (h := am_push h c w) (show h.2.1 < h.2.1 + 1 by omega), List.getElem?_append_right (by rw [am_ws_len]; exact Nat.le_refl _), am_ws_len]
      simp [am_push]
    · rw [List.getElem?_eq_none (by rw [List.length_append, am_ws_len, List.length_singleton]; omega), List.getElem?_eq_none (by rw [am_ws_len]; show h.2.1 + 1 ≤ i; omega)]
/-- a live place that isn't the script -/
theorem am_live {h : am_H} {H : Heap} {a : Nat} (hR : am_rel b base aC D h H) (h0 : a ≠ 0) (hd : h.1 a ≠ am_dead) : ∃ k, a = k + 1 ∧ k < h.2.1 := by
  obtain ⟨k, rfl⟩ : ∃ k, a = k + 1 := ⟨a - 1, by omega⟩
  refine ⟨k, rfl, ?_⟩
  rcases Nat.lt_or_ge k h.2.1 with q | q
  · exact q
  · exact absurd (hR.2 (k + 1) (by omega)) hd
theorem am_rel_set {h : am_H} {H H1 : Heap} {k : Nat} (c : am_C) (hR : am_rel b base aC D h H) (hk : k < h.2.1) (hP : va_P D am_cl ((am_ws b base aC h).set k (base + k, am_cc b base aC c)) H1) : am_rel b base aC D (am_set h (k + 1) c) H1 := by
  rw [am_ws_set c hk] at hP
  refine ⟨hP, fun q hq => ?_⟩
  have hq' : h.2.1 < q := hq
  show (if q = k + 1 then c else h.1 q) = am_dead
  rw [if_neg (by omega)]
  exact hR.2 q hq'
theorem am_rel_push {h : am_H} {H H1 : Heap} (c : am_C) (w : Nat) (hR : am_rel b base aC D h H) (hP : va_P D am_cl (am_ws b base aC h ++ [(base + h.2.1, am_cc b base aC c)]) H1) : am_rel b base aC D (am_push h c w) H1 := by
  rw [am_ws_push c w] at hP
  refine ⟨hP, fun q hq => ?_⟩
  have hq' : h.2.1 + 1 < q := hq
  show (if q = h.2.1 + 1 then c else h.1 q) = am_dead
  rw [if_neg (by omega)]
  exact hR.2 q (by omega)
theorem am_scr_set {h : am_H} {k : Nat} (c : am_C) (hS : am_scr L xs h) : am_scr L xs (am_set h (k + 1) c) := by
  have : (am_set h (k + 1) c).1 0 = h.1 0 := by
    show (if 0 = k + 1 then c else h.1 0) = h.1 0
    rw [if_neg (by omega)]
  unfold am_scr
  rw [this]
  exact hS
theorem am_scr_push {h : am_H} (c : am_C) (w : Nat) (hS : am_scr L xs h) : am_scr L xs (am_push h c w) := by
  have : (am_push h c w).1 0 = h.1 0 := by
    show (if 0 = h.2.1 + 1 then c else h.1 0) = h.1 0
    rw [if_neg (by omega)]
  unfold am_scr
  rw [this]
  exact hS
theorem am_place {h : am_H} {H : Heap} {a : Nat} (hR : am_rel b base aC D h H) (hS : am_scr L xs h) (h1 : h.1 a ≠ am_dead) (h2 : h.1 a ≠ .inl (.int, L, .inl xs)) : ∃ k, a = k + 1 ∧ k < h.2.1 := by
  by_cases h0 : a = 0
  · subst h0
    rcases hS with q | q
    · exact absurd q h1
    · exact absurd q h2
  · exact am_live hR h0 h1
theorem am_place_obj {h : am_H} {H : Heap} {a ci : Nat} {fs : List Value} (hR : am_rel b base aC D h H) (hS : am_scr L xs h) (hc : h.1 a = .inr (ci, fs)) (hci : ci < 1000) : ∃ k, a = k + 1 ∧ k < h.2.1 := by
  refine am_place hR hS ?_ ?_
  · rw [hc]
    intro q
    have := (Prod.mk.inj (Sum.inr.inj q)).1
    omega
  · rw [hc]
    intro q
    cases q
theorem am_fit_ok {ty : FieldType} {v : Value} (h : am_fit ty v = true) : narrow ty (am_cv b base v) = am_cv b base v ∧ fits ty (am_cv b base v) = true := by
  unfold am_fit at h
  split at h
  · exact ⟨rfl, rfl⟩
  · exact ⟨rfl, rfl⟩
  · rename_i x
    simp only [Bool.or_eq_true, beq_iff_eq] at h
    rcases h with rfl | rfl <;> exact ⟨rfl, rfl⟩
  · exact ⟨rfl, rfl⟩
  · exact ⟨rfl, rfl⟩
  · cases h
end AML
section AMW
variable {p : Program} {l : Launch} {e : Env} {R : Room} {s : State} {m : MethodId} {args : Array Value} {below : List Frame} {meth : Method} {c : Code} {H : Heap} {locs : List Loc} {cells slots : Nat} {Q : State → Prop}
theorem am_fin0 {n w : Nat} {g g' : JFrame} (k : W p l e R s m args below meth c H locs (cells + (n - n)) (slots + (w - w)) Q g) (hg : g = g') : W p l e R s m args below meth c H locs cells slots Q g' := by
  subst hg
  rw [Nat.sub_self, Nat.sub_self] at k
  exact k
theorem am_size {g : JFrame} (kk : H.size ≤ s.heap.size + cells → W p l e R s m args below meth c H locs cells slots Q g) : W p l e R s m args below meth c H locs cells slots Q g :=
  fun T hT X => kk (by rw [← hT]; exact X.heapSize) T hT X
end AMW
end
section
/-! what is checked of the tables: every instruction is the one that the bytes hold, every link is among the words -/
def am_tw : List Jvm.Cond := lw_tbl.filter goodWord
def am_fn (ci : Nat) : Nat := (am_cl.getD ci ("", (fun _ => ("", "", "", false)), 0)).2.2
def am_lin : List Nat := [0, 1, 2, 3, 4, 5, 6, 7, 8, 9, 10, 11, 12, 13, 14, 15, 16, 17, 18, 19, 20, 21, 22, 24, 25, 28, 29, 30, 31, 32, 33, 34, 35, 36, 37, 38, 39, 40, 41, 42, 43, 44, 45, 46, 47, 48, 49, 50, 51, 52, 53, 54, 55, 56, 57, 58, 59, 60, 61, 62, 63, 64, 65, 66, 67, 68, 69, 70, 71, 72, 73, 74, 75, 76, 77, 78, 79, 80, 81, 82, 83, 84, 85, 86, 87, 88, 89, 90, 92, 93, 94, 95, 96, 97, 98, 99, 100, 101, 102, 103, 104, 105, 106, 107, 108, 109, 110, 111, 112, 113, 114, 115, 116, 117, 118, 119, 120, 122, 123, 124, 125, 126, 127, 128, 129, 130, 131, 132, 133, 134, 136, 137, 138, 139, 140, 141, 142, 143, 144, 145, 146, 147, 148, 149]
def am_lst : List Nat := [23, 26, 27, 91, 121, 135]
def am_lse : List Nat := [10, 11, 12, 13, 14, 15, 16, 17, 18, 19, 20, 21, 22, 24, 25, 28, 29, 30, 31, 32, 33, 34, 35, 36, 37, 38, 39, 40, 41, 42, 43, 44, 45, 46, 47, 48, 49, 50, 51, 52, 53, 54, 55, 56, 57, 58, 59, 60, 61, 62, 63, 64, 65, 66, 67, 68, 69, 70, 71, 72, 73, 74, 75, 76, 77, 78, 79, 80, 81, 82, 83, 84, 85, 86, 87, 88, 90, 92, 93, 94, 95, 96, 97, 98, 99, 100, 101, 102, 103, 104, 105, 106, 107, 108, 109, 110, 111, 112, 113, 114, 115, 116, 117, 118, 119, 120, 122, 123, 124, 125, 126, 127, 128, 129, 130, 131, 132, 133, 134, 136, 137, 138, 139, 140, 141, 142, 143, 144, 145, 146, 147, 148, 149]
def am_nx (M : am_M) (j n : Nat) : Bool := decide ((am_ins M j).2.1 = n ∧ am_pc M (j + 1) = am_pc M j + n)
def am_jp (M : am_M) (j t : Nat) (off : Int) : Bool := decide ((am_pc M j : Int) + off = (am_pc M t : Int))
def am_tsc (M : am_M) (j : Nat) : List Int → Int → List (Int32 × Nat) → Bool
  | [], _, [] => true
  | o :: os, lo, (k, t) :: l => decide (k.toInt = lo) && (am_jp M j t o && am_tsc M j os (lo + 1) l)
  | _, _, _ => false
def am_lsc (M : am_M) (j : Nat) : List (Int × Int) → List (Int32 × Nat) → Bool
  | [], [] => true
  | (q, o) :: os, (k, t) :: l => decide (k.toInt = q) && (am_jp M j t o && am_lsc M j os l)
  | _, _ => false
/-- a call: the link, the callee's room, its arguments -/
def am_cal (M : am_M) (idx k n : Nat) (kd : Nat) : Bool :=
  decide (k + 1 < am_nm) && ((decide ((M.2.2.2.2.1, idx, k) ∈ am_ml) || decide ((M.2.2.2.2.1, idx, k) ∈ am_mn)) && (decide ((am_tab k).2.2.2.2.2.1.1 + 1 ≤ M.2.2.2.2.2.1.1 ∧ 19 + (am_tab k).2.2.1 + (am_tab k).2.2.2.2.2.1.2 ≤ M.2.2.2.2.2.1.2) &&
    (decide ((parseMethodDescriptor (am_tab k).1.desc).map (fun d => d.parameters.length) = some (if kd = 1 then n else n - 1) ∧ (kd = 1 ∨ 0 < n)) && (if kd = 2 then decide ((am_tab k).1.name = "<init>" ∧ (am_tab k).2.2.2.1 = none ∧ k ∈ am_lin) else if kd = 1 then decide (k ∈ am_lst) else decide (k ∈ am_lse)))))
def am_chkI (M : am_M) (j : Nat) (I : am_I) : Bool := match I.1 with
  | .iload a => am_nx M j 2 && decide (I.2.2.1 = a)
  | .iload_n a => am_nx M j 1 && decide (I.2.2.1 = a.val)
  | .aload a => am_nx M j 2 && decide (I.2.2.1 = a)
  | .aload_n a => am_nx M j 1 && decide (I.2.2.1 = a.val)
  | .lload a => am_nx M j 2 && decide (I.2.2.1 = a)
  | .lload_n a => am_nx M j 1 && decide (I.2.2.1 = a.val)
  | .istore a => am_nx M j 2 && decide (I.2.2.1 = a)
  | .istore_n a => am_nx M j 1 && decide (I.2.2.1 = a.val)
  | .astore_n a => am_nx M j 1 && decide (I.2.2.1 = a.val)
  | .lstore_n a => am_nx M j 1 && decide (I.2.2.1 = a.val)
  | .lstore a => am_nx M j 2 && decide (I.2.2.1 = a)
  | .iinc a n => am_nx M j 3 && decide (I.2.2.1 = a ∧ I.2.2.2.2.1 = .int (Int32.ofInt n))
  | .iconst n => am_nx M j 1 && decide (I.2.2.2.2.1 = .int (Int32.ofInt n))
  | .bipush n => am_nx M j 2 && decide (I.2.2.2.2.1 = .int (Int8.ofInt n).toInt32)
  | .sipush n => am_nx M j 3 && decide (I.2.2.2.2.1 = .int (Int16.ofInt n).toInt32)
  | .ldc idx => am_nx M j 2 && (match I.2.2.2.2.1 with | .int v => decide ((M.2.2.2.2.1, idx, v) ∈ am_ki) | _ => false)
  | .ldc2_w idx => am_nx M j 3 && (match I.2.2.2.2.1 with | .long v => decide ((M.2.2.2.2.1, idx, v) ∈ am_kl) | _ => false)
  | .iadd => am_nx M j 1
  | .isub => am_nx M j 1
  | .imul => am_nx M j 1
  | .iand => am_nx M j 1
  | .ior => am_nx M j 1
  | .ixor => am_nx M j 1
  | .ishl => am_nx M j 1
  | .ishr => am_nx M j 1
  | .idiv => am_nx M j 1
  | .irem => am_nx M j 1
  | .ineg => am_nx M j 1
  | .ladd => am_nx M j 1
  | .lmul => am_nx M j 1
  | .land => am_nx M j 1
  | .ldiv => am_nx M j 1
  | .lrem => am_nx M j 1
  | .i2l => am_nx M j 1
  | .l2i => am_nx M j 1
  | .dup => am_nx M j 1
  | .ifCond _ off => am_nx M j 3 && am_jp M j I.2.2.1 off
  | .if_icmp _ off => am_nx M j 3 && am_jp M j I.2.2.1 off
  | .goto off => decide (I.2.1 = 3) && am_jp M j I.2.2.1 off
  | .tableswitch d lo hi offs => am_jp M j I.2.2.1 d && (decide (hi + 1 = lo + (offs.toList.length : Int)) && am_tsc M j offs.toList lo I.2.2.2.2.2)
  | .lookupswitch d ps => am_jp M j I.2.2.1 d && ((ps.toList.zip (ps.toList.drop 1)).all (fun (a, next) => a.1 < next.1) && am_lsc M j ps.toList I.2.2.2.2.2)
  | .getfield idx => am_nx M j 3 && decide ((M.2.2.2.2.1, idx, I.2.2.1, I.2.2.2.1) ∈ am_fl)
  | .putfield idx => am_nx M j 3 && (decide ((M.2.2.2.2.1, idx, I.2.2.1, I.2.2.2.1) ∈ am_fl) && decide ((am_ft I.2.2.1 I.2.2.2.1).2.2.2 = false ∨ ((am_ft I.2.2.1 I.2.2.2.1).2.2.2 = true ∧ M.1.name = "<init>" ∧ (am_ft I.2.2.1 I.2.2.2.1).1 = am_own M.2.2.2.2.1)))
  | .iaload => am_nx M j 1
  | .baload => am_nx M j 1
  | .laload => am_nx M j 1
  | .aaload => am_nx M j 1
  | .iastore => am_nx M j 1
  | .bastore => am_nx M j 1
  | .lastore => am_nx M j 1
  | .aastore => am_nx M j 1
  | .arraylength => am_nx M j 1
  | .newarray _ => am_nx M j 2
  | .anewarray idx => am_nx M j 3 && decide ((M.2.2.2.2.1, idx, I.2.2.1) ∈ am_ck ∧ (I.2.2.1 = 6 ∨ I.2.2.1 = 3))
  | .new idx => am_nx M j 3 && decide ((M.2.2.2.2.1, idx, I.2.2.1) ∈ am_ck)
  | .invokespecial idx => am_nx M j 3 && (if I.2.2.1 = 1000 then decide ((M.2.2.2.2.1, idx) ∈ am_mo ∧ 1 ≤ M.2.2.2.2.2.1.1 ∧ 20 ≤ M.2.2.2.2.2.1.2) else am_cal M idx I.2.2.1 I.2.2.2.1 2)
  | .invokestatic idx => am_nx M j 3 && (if I.2.2.1 = 1001 then decide ((M.2.2.2.2.1, idx) ∈ am_mc ∧ 1 ≤ M.2.2.2.2.2.1.1 ∧ 26 ≤ M.2.2.2.2.2.1.2) else if 1000 < I.2.2.1 then decide ((M.2.2.2.2.1, idx, I.2.2.1) ∈ am_mm ∧ 1 ≤ M.2.2.2.2.2.1.1 ∧ 21 ≤ M.2.2.2.2.2.1.2) else am_cal M idx I.2.2.1 I.2.2.2.1 1)
  | .invokevirtual idx => am_nx M j 3 && am_cal M idx I.2.2.1 I.2.2.2.1 0
  | .ireturn => decide (I.2.1 = 1)
  | .return_ => decide (I.2.1 = 1)
  | _ => false
def am_chk (M : am_M) (j : Nat) : Bool := decide (decode M.2.1 (am_pc M j) = .ok ((am_ins M j).1, (am_ins M j).2.1)) && am_chkI M j (am_ins M j)
theorem am_cls {ci : Nat} (h : ci < 11) : am_cl[ci]? = some (am_own ci, am_ft ci, am_fn ci) := by
  match ci, h with
  | 0, _ => rfl
  | 1, _ => rfl
  | 2, _ => rfl
  | 3, _ => rfl
  | 4, _ => rfl
  | 5, _ => rfl
  | 6, _ => rfl
  | 7, _ => rfl
  | 8, _ => rfl
  | 9, _ => rfl
  | 10, _ => rfl
theorem am_ty_ok {ci : Nat} (h : ci < 11) : ∀ k, k < am_fn ci → parseFieldDescriptor (am_ft ci k).2.2.1 = some (am_fty ci k) := by
  match ci, h with
  | 0, _ => exact tyX0_ok
  | 1, _ => exact tyX1_ok
  | 2, _ => exact tyX2_ok
  | 3, _ => exact tyX3_ok
  | 4, _ => exact tyX4_ok
  | 5, _ => exact tyX5_ok
  | 6, _ => exact tyX6_ok
  | 7, _ => exact tyX7_ok
  | 8, _ => exact tyX8_ok
  | 9, _ => exact tyX9_ok
  | 10, _ => exact tyX10_ok
theorem am_nm_ok {ci : Nat} (h : ci < 11) : ∀ a, a < am_fn ci → ∀ b, b < am_fn ci → a ≠ b → (am_ft ci a).2.1 ≠ (am_ft ci b).2.1 := by
  match ci, h with
  | 0, _ => exact nmX0
  | 1, _ => exact nmX1
  | 2, _ => exact nmX2
  | 3, _ => exact nmX3
  | 4, _ => exact nmX4
  | 5, _ => exact nmX5
  | 6, _ => exact nmX6
  | 7, _ => exact nmX7
  | 8, _ => exact nmX8
  | 9, _ => exact nmX9
  | 10, _ => exact nmX10
/-! the words, by their places -/
def am_wok (w : Jvm.Cond) (q : Nat) : Bool := decide (lw_tbl[q]? = some w) && goodWord w
theorem am_wok_mem {w : Jvm.Cond} {q : Nat} (h : am_wok w q = true) : w ∈ am_tw := by
  unfold am_wok at h
  rw [Bool.and_eq_true, decide_eq_true_eq] at h
  exact List.mem_filter.mpr ⟨List.mem_of_getElem? h.1, h.2⟩
theorem am_wall {α : Type} (f : α → Jvm.Cond) (l : List α) (ps : List Nat) (hl : l.length = ps.length) (h : (l.zip ps).all (fun q => am_wok (f q.1) q.2) = true) : ∀ e ∈ l, f e ∈ am_tw := by
  intro e he
  obtain ⟨i, hi⟩ := List.getElem?_of_mem he
  have hlt : i < l.length := (List.getElem?_eq_some_iff.mp hi).1
  have hp : ps[i]? = some ps[i] := List.getElem?_eq_getElem (by omega)
  have hz : (e, ps[i]) ∈ l.zip ps := List.mem_of_getElem? (i := i) (by rw [List.getElem?_zip_eq_some]; exact ⟨hi, hp⟩)
  exact am_wok_mem (List.all_eq_true.mp h _ hz)
end
section
/-! the words of the tables, by their places -/
theorem w_fl : ∀ e ∈ am_fl, Jvm.Cond.fieldLink (am_own e.1) e.2.1 (am_ft e.2.2.1 e.2.2.2).1 (am_ft e.2.2.1 e.2.2.2).2.1 (am_ft e.2.2.1 e.2.2.2).2.2.1 ∈ am_tw := am_wall (fun e : Nat × Nat × Nat × Nat => Jvm.Cond.fieldLink (am_own e.1) e.2.1 (am_ft e.2.2.1 e.2.2.2).1 (am_ft e.2.2.1 e.2.2.2).2.1 (am_ft e.2.2.1 e.2.2.2).2.2.1) am_fl [286, 287, 288, 289, 290, 291, 292, 293, 294, 295, 296, 297, 72, 169, 171, 165, 167, 203, 220, 245, 278, 103, 94, 99, 144, 146, 148, 132, 107, 111, 135, 138, 141, 222, 260, 274, 276, 242, 243, 244, 130, 200, 201, 202, 259, 273, 275, 277, 92, 96, 100, 105, 109, 164, 166, 168, 170, 172, 173, 73, 102, 93, 97, 143, 106, 110, 131, 134, 137, 140, 129, 133, 136, 139, 142, 145, 147, 98, 104, 108, 95, 70, 71, 217, 218, 219, 221, 223, 101, 682, 689, 690, 697, 698, 699, 700, 701, 702, 703, 705, 707, 708, 710, 712, 714, 715, 716, 684, 683, 685, 686, 687, 688, 691, 692, 693, 694, 695, 696, 704, 709, 713, 706, 711] (by decide +kernel) (by decide +kernel)
theorem w_fln : ∀ e ∈ am_fl, e.2.2.1 < 11 ∧ e.2.2.2 < am_fn e.2.2.1 := by decide +kernel
theorem w_ml : ∀ e ∈ am_ml, Jvm.Cond.methodLink (am_own e.1) e.2.1 (am_tab e.2.2).1 ∈ am_tw := am_wall (fun e : Nat × Nat × Nat => Jvm.Cond.methodLink (am_own e.1) e.2.1 (am_tab e.2.2).1) am_ml [193, 328, 337, 394, 401, 414, 427, 439, 444, 445, 450, 454, 458, 469, 478, 494, 500, 504, 534, 550, 558, 563, 564, 570, 579, 587, 605, 613, 631, 639, 648, 656, 538, 473, 341, 345, 349, 357, 353, 361, 365, 369, 384, 373, 380, 377, 418, 423, 512, 516, 431, 508, 517, 522, 526, 521, 617, 621, 622, 58, 678, 323, 789, 333, 798, 406, 838, 410, 842, 435, 862, 446, 871, 465, 879, 474, 891, 479, 895, 483, 899, 490, 903, 496, 908, 530, 923, 546, 935, 554, 943, 559, 959, 566, 963, 571, 967, 575, 971, 583, 978, 592, 982, 601, 988, 609, 992, 627, 1004, 635, 1008, 644, 1012, 652, 1016, 660, 1020, 664, 1024, 668, 1028, 672, 1032, 793, 806, 802, 822, 818, 826, 834, 814, 830, 810, 854, 850, 846, 858, 866, 875, 887, 883, 916, 919, 912, 927, 939, 951, 955, 947, 975, 1000, 996] (by decide +kernel) (by decide +kernel)
def am_nww (e : Nat × Nat × Nat) : Jvm.Cond := .methodLinkNest (am_own e.1) e.2.1 (am_tab e.2.2).1 "SpiteLine"
theorem w_mn : ∀ e ∈ am_mn, am_nww e ∈ lw_tbl := by
  intro e he
  have h : (am_mn.zip [66, 82, 188, 190, 213, 238, 255, 267, 199, 272, 88, 125, 388, 391, 422, 626]).all (fun q => decide (lw_tbl[q.2]? = some (am_nww q.1))) = true := by decide +kernel
  obtain ⟨i, hi⟩ := List.getElem?_of_mem he
  have hlt : i < am_mn.length := (List.getElem?_eq_some_iff.mp hi).1
  have hz : (e, ([66, 82, 188, 190, 213, 238, 255, 267, 199, 272, 88, 125, 388, 391, 422, 626])[i]'(Nat.lt_of_lt_of_eq hlt (by decide +kernel))) ∈ am_mn.zip [66, 82, 188, 190, 213, 238, 255, 267, 199, 272, 88, 125, 388, 391, 422, 626] := List.mem_of_getElem? (i := i) (by rw [List.getElem?_zip_eq_some]; exact ⟨hi, List.getElem?_eq_getElem _⟩)
  exact List.mem_of_getElem? (of_decide_eq_true (List.all_eq_true.mp h _ hz))
theorem w_mo : ∀ e ∈ am_mo, Jvm.Cond.methodLink (am_own e.1) e.2 objectInit ∈ am_tw := am_wall (fun e : Nat × Nat => Jvm.Cond.methodLink (am_own e.1) e.2 objectInit) am_mo [61, 241, 196, 258, 270, 91, 85, 128, 69, 216, 681] (by decide +kernel) (by decide +kernel)
theorem w_mc : ∀ e ∈ am_mc, Jvm.Cond.methodLink (am_own e.1) e.2 arraycopyName ∈ am_tw := am_wall (fun e : Nat × Nat => Jvm.Cond.methodLink (am_own e.1) e.2 arraycopyName) am_mc [591, 398, 405] (by decide +kernel) (by decide +kernel)
def am_mmn (k : Nat) : MethodName := if k = 1002 then Lib.Math.max.name else if k = 1003 then Lib.Math.min.name else Lib.Math.abs.name
theorem w_mm : ∀ e ∈ am_mm, Jvm.Cond.methodLink (am_own e.1) e.2.1 (am_mmn e.2.2) ∈ am_tw := am_wall (fun e : Nat × Nat × Nat => Jvm.Cond.methodLink (am_own e.1) e.2.1 (am_mmn e.2.2)) am_mm [487, 565, 597, 462, 643] (by decide +kernel) (by decide +kernel)
theorem w_mmax : Jvm.Cond.static Lib.Math.max.name ∈ am_tw := am_wok_mem (q := 463) (by decide +kernel)
theorem w_cmax : Jvm.Cond.code Lib.Math.max.name Lib.Math.max.code 2 (some .int) ∈ am_tw := am_wok_mem (q := 464) (by decide +kernel)
theorem w_mmin : Jvm.Cond.static Lib.Math.min.name ∈ am_tw := am_wok_mem (q := 598) (by decide +kernel)
theorem w_cmin : Jvm.Cond.code Lib.Math.min.name Lib.Math.min.code 2 (some .int) ∈ am_tw := am_wok_mem (q := 599) (by decide +kernel)
theorem w_mabs : Jvm.Cond.static Lib.Math.abs.name ∈ am_tw := am_wok_mem (q := 488) (by decide +kernel)
theorem w_cabs : Jvm.Cond.code Lib.Math.abs.name Lib.Math.abs.code 1 (some .int) ∈ am_tw := am_wok_mem (q := 489) (by decide +kernel)
theorem w_mi : Jvm.Cond.initialized "java/lang/Math" ∈ am_tw := am_wok_mem (q := 55) (by decide +kernel)
theorem w_oi : Jvm.Cond.instanceMethod objectInit ∈ am_tw := am_wok_mem (q := 62) (by decide +kernel)
theorem w_oc : Jvm.Cond.code objectInit ⟨#[0xb1]⟩ 1 none ∈ am_tw := am_wok_mem (q := 63) (by decide +kernel)
theorem w_an : Jvm.Cond.native arraycopyName ∈ am_tw := am_wok_mem (q := 400) (by decide +kernel)
theorem w_as : Jvm.Cond.static arraycopyName ∈ am_tw := am_wok_mem (q := 399) (by decide +kernel)
theorem w_ai : Jvm.Cond.initialized "java/lang/System" ∈ am_tw := am_wok_mem (q := 54) (by decide +kernel)
theorem w_aint : Jvm.Cond.arrayClass .int ∈ am_tw := am_wok_mem (q := 79) (by decide +kernel)
theorem w_aboolean : Jvm.Cond.arrayClass .boolean ∈ am_tw := am_wok_mem (q := 235) (by decide +kernel)
theorem w_along : Jvm.Cond.arrayClass .long ∈ am_tw := am_wok_mem (q := 788) (by decide +kernel)
theorem w_aoS : Jvm.Cond.arrayOver (.object "SpiteLine$Scene") ∈ lw_tbl := List.mem_of_getElem? (i := 198) (by decide +kernel)
theorem w_aoI : Jvm.Cond.arrayOver (.object "SpiteLine$Image") ∈ lw_tbl := List.mem_of_getElem? (i := 265) (by decide +kernel)
theorem w_ck : ∀ e ∈ am_ck, Jvm.Cond.classLink (am_own e.1) e.2.1 (am_own e.2.2) ∈ am_tw := am_wall (fun e : Nat × Nat × Nat => Jvm.Cond.classLink (am_own e.1) e.2.1 (am_own e.2.2)) am_ck [64, 80, 187, 189, 191, 211, 236, 253, 264, 197, 271, 86, 123, 56, 676] (by decide +kernel) (by decide +kernel)
theorem w_ckn : ∀ e ∈ am_ck, e.2.2 < 11 := by decide +kernel
theorem w_inst : ∀ ci ∈ List.range 11, Jvm.Cond.instantiable (am_own ci) (am_fn ci) ∈ am_tw := am_wall (fun ci : Nat => Jvm.Cond.instantiable (am_own ci) (am_fn ci)) (List.range 11) [237, 192, 254, 266, 87, 81, 124, 65, 212, 57, 677] (by decide +kernel) (by decide +kernel)
theorem w_init : ∀ ci ∈ List.range 11, Jvm.Cond.initialized (am_own ci) ∈ am_tw := am_wall (fun ci : Nat => Jvm.Cond.initialized (am_own ci)) (List.range 11) [50, 48, 51, 52, 46, 45, 47, 44, 49, 43, 53] (by decide +kernel) (by decide +kernel)
theorem w_ki : ∀ e ∈ am_ki, Jvm.Cond.constant (am_own e.1) e.2.1 e.2.2 ∈ am_tw := am_wall (fun e : Nat × Nat × Int32 => Jvm.Cond.constant (am_own e.1) e.2.1 e.2.2) am_ki [327, 332, 443, 495, 545, 796, 797, 870, 907] (by decide +kernel) (by decide +kernel)
theorem w_kl : ∀ e ∈ am_kl, Jvm.Cond.constantLong (am_own e.1) e.2.1 e.2.2 ∈ am_tw := am_wall (fun e : Nat × Nat × Int64 => Jvm.Cond.constantLong (am_own e.1) e.2.1 e.2.2) am_kl [596, 600, 542, 543, 544, 931, 932, 933, 934, 986, 987] (by decide +kernel) (by decide +kernel)
theorem w_lay0 : ∀ w ∈ u_ws (am_own 0) (am_ft 0) (am_fn 0), w ∈ am_tw := am_wall (fun w : Jvm.Cond => w) (u_ws (am_own 0) (am_ft 0) (am_fn 0)) [246, 248, 250] (by decide +kernel) (by decide +kernel)
theorem w_lay1 : ∀ w ∈ u_ws (am_own 1) (am_ft 1) (am_fn 1), w ∈ am_tw := am_wall (fun w : Jvm.Cond => w) (u_ws (am_own 1) (am_ft 1) (am_fn 1)) [204, 206, 208] (by decide +kernel) (by decide +kernel)
theorem w_lay2 : ∀ w ∈ u_ws (am_own 2) (am_ft 2) (am_fn 2), w ∈ am_tw := am_wall (fun w : Jvm.Cond => w) (u_ws (am_own 2) (am_ft 2) (am_fn 2)) [261] (by decide +kernel) (by decide +kernel)
theorem w_lay3 : ∀ w ∈ u_ws (am_own 3) (am_ft 3) (am_fn 3), w ∈ am_tw := am_wall (fun w : Jvm.Cond => w) (u_ws (am_own 3) (am_ft 3) (am_fn 3)) [279, 281, 283] (by decide +kernel) (by decide +kernel)
theorem w_lay4 : ∀ w ∈ u_ws (am_own 4) (am_ft 4) (am_fn 4), w ∈ am_tw := am_wall (fun w : Jvm.Cond => w) (u_ws (am_own 4) (am_ft 4) (am_fn 4)) [112, 114, 116, 118, 120] (by decide +kernel) (by decide +kernel)
theorem w_lay5 : ∀ w ∈ u_ws (am_own 5) (am_ft 5) (am_fn 5), w ∈ am_tw := am_wall (fun w : Jvm.Cond => w) (u_ws (am_own 5) (am_ft 5) (am_fn 5)) [174, 176, 178, 180, 182, 184] (by decide +kernel) (by decide +kernel)
theorem w_lay6 : ∀ w ∈ u_ws (am_own 6) (am_ft 6) (am_fn 6), w ∈ am_tw := am_wall (fun w : Jvm.Cond => w) (u_ws (am_own 6) (am_ft 6) (am_fn 6)) [149, 151, 153, 155, 157, 159, 161] (by decide +kernel) (by decide +kernel)
theorem w_lay7 : ∀ w ∈ u_ws (am_own 7) (am_ft 7) (am_fn 7), w ∈ am_tw := am_wall (fun w : Jvm.Cond => w) (u_ws (am_own 7) (am_ft 7) (am_fn 7)) [74, 76] (by decide +kernel) (by decide +kernel)
theorem w_lay8 : ∀ w ∈ u_ws (am_own 8) (am_ft 8) (am_fn 8), w ∈ am_tw := am_wall (fun w : Jvm.Cond => w) (u_ws (am_own 8) (am_ft 8) (am_fn 8)) [224, 226, 228, 230, 232] (by decide +kernel) (by decide +kernel)
theorem w_lay9 : ∀ w ∈ u_ws (am_own 9) (am_ft 9) (am_fn 9), w ∈ am_tw := am_wall (fun w : Jvm.Cond => w) (u_ws (am_own 9) (am_ft 9) (am_fn 9)) [298, 300, 302, 304, 306, 308, 310, 312, 314, 316, 318, 320] (by decide +kernel) (by decide +kernel)
theorem w_lay10 : ∀ w ∈ u_ws (am_own 10) (am_ft 10) (am_fn 10), w ∈ am_tw := am_wall (fun w : Jvm.Cond => w) (u_ws (am_own 10) (am_ft 10) (am_fn 10)) [717, 719, 721, 723, 725, 727, 729, 731, 733, 735, 737, 739, 741, 743, 745, 747, 749, 751, 753, 755, 757, 759, 761, 763, 765, 767, 769, 771, 773, 775, 777, 779, 781, 783, 785] (by decide +kernel) (by decide +kernel)
theorem w_lay {ci : Nat} (h : ci < 11) : ∀ w ∈ u_ws (am_own ci) (am_ft ci) (am_fn ci), w ∈ am_tw := by
  match ci, h with
  | 0, _ => exact w_lay0
  | 1, _ => exact w_lay1
  | 2, _ => exact w_lay2
  | 3, _ => exact w_lay3
  | 4, _ => exact w_lay4
  | 5, _ => exact w_lay5
  | 6, _ => exact w_lay6
  | 7, _ => exact w_lay7
  | 8, _ => exact w_lay8
  | 9, _ => exact w_lay9
  | 10, _ => exact w_lay10
set_option maxRecDepth 100000 in
theorem w_code_Sp_init : Jvm.Cond.code M_Sp_init.1 M_Sp_init.2.1 M_Sp_init.2.2.1 M_Sp_init.2.2.2.1 ∈ am_tw := List.mem_filter.mpr ⟨List.mem_of_getElem? (i := 60) rfl, rfl⟩
set_option maxRecDepth 100000 in
theorem w_code_Text_init : Jvm.Cond.code M_Text_init.1 M_Text_init.2.1 M_Text_init.2.2.1 M_Text_init.2.2.2.1 ∈ am_tw := List.mem_filter.mpr ⟨List.mem_of_getElem? (i := 68) rfl, rfl⟩
set_option maxRecDepth 100000 in
theorem w_code_Reader_init : Jvm.Cond.code M_Reader_init.1 M_Reader_init.2.1 M_Reader_init.2.2.1 M_Reader_init.2.2.2.1 ∈ am_tw := List.mem_filter.mpr ⟨List.mem_of_getElem? (i := 84) rfl, rfl⟩
set_option maxRecDepth 100000 in
theorem w_code_Line_init : Jvm.Cond.code M_Line_init.1 M_Line_init.2.1 M_Line_init.2.2.1 M_Line_init.2.2.2.1 ∈ am_tw := List.mem_filter.mpr ⟨List.mem_of_getElem? (i := 90) rfl, rfl⟩
set_option maxRecDepth 100000 in
theorem w_code_Scene_init : Jvm.Cond.code M_Scene_init.1 M_Scene_init.2.1 M_Scene_init.2.2.1 M_Scene_init.2.2.2.1 ∈ am_tw := List.mem_filter.mpr ⟨List.mem_of_getElem? (i := 127) rfl, rfl⟩
set_option maxRecDepth 100000 in
theorem w_code_Deeds_init : Jvm.Cond.code M_Deeds_init.1 M_Deeds_init.2.1 M_Deeds_init.2.2.1 M_Deeds_init.2.2.2.1 ∈ am_tw := List.mem_filter.mpr ⟨List.mem_of_getElem? (i := 195) rfl, rfl⟩
set_option maxRecDepth 100000 in
theorem w_code_Witness_init : Jvm.Cond.code M_Witness_init.1 M_Witness_init.2.1 M_Witness_init.2.2.1 M_Witness_init.2.2.2.1 ∈ am_tw := List.mem_filter.mpr ⟨List.mem_of_getElem? (i := 215) rfl, rfl⟩
set_option maxRecDepth 100000 in
theorem w_code_Book_init : Jvm.Cond.code M_Book_init.1 M_Book_init.2.1 M_Book_init.2.2.1 M_Book_init.2.2.2.1 ∈ am_tw := List.mem_filter.mpr ⟨List.mem_of_getElem? (i := 240) rfl, rfl⟩
set_option maxRecDepth 100000 in
theorem w_code_Draws_init : Jvm.Cond.code M_Draws_init.1 M_Draws_init.2.1 M_Draws_init.2.2.1 M_Draws_init.2.2.2.1 ∈ am_tw := List.mem_filter.mpr ⟨List.mem_of_getElem? (i := 257) rfl, rfl⟩
set_option maxRecDepth 100000 in
theorem w_code_Image_init : Jvm.Cond.code M_Image_init.1 M_Image_init.2.1 M_Image_init.2.2.1 M_Image_init.2.2.2.1 ∈ am_tw := List.mem_filter.mpr ⟨List.mem_of_getElem? (i := 269) rfl, rfl⟩
set_option maxRecDepth 100000 in
theorem w_code_Sp_feed : Jvm.Cond.code M_Sp_feed.1 M_Sp_feed.2.1 M_Sp_feed.2.2.1 M_Sp_feed.2.2.2.1 ∈ am_tw := List.mem_filter.mpr ⟨List.mem_of_getElem? (i := 326) rfl, rfl⟩
set_option maxRecDepth 100000 in
theorem w_code_Text_add : Jvm.Cond.code M_Text_add.1 M_Text_add.2.1 M_Text_add.2.2.1 M_Text_add.2.2.2.1 ∈ am_tw := List.mem_filter.mpr ⟨List.mem_of_getElem? (i := 331) rfl, rfl⟩
set_option maxRecDepth 100000 in
theorem w_code_Sp_line : Jvm.Cond.code M_Sp_line.1 M_Sp_line.2.1 M_Sp_line.2.2.1 M_Sp_line.2.2.2.1 ∈ am_tw := List.mem_filter.mpr ⟨List.mem_of_getElem? (i := 336) rfl, rfl⟩
set_option maxRecDepth 100000 in
theorem w_code_Reader_read : Jvm.Cond.code M_Reader_read.1 M_Reader_read.2.1 M_Reader_read.2.2.1 M_Reader_read.2.2.2.1 ∈ am_tw := List.mem_filter.mpr ⟨List.mem_of_getElem? (i := 340) rfl, rfl⟩
set_option maxRecDepth 100000 in
theorem w_code_Line_clear : Jvm.Cond.code M_Line_clear.1 M_Line_clear.2.1 M_Line_clear.2.2.1 M_Line_clear.2.2.2.1 ∈ am_tw := List.mem_filter.mpr ⟨List.mem_of_getElem? (i := 344) rfl, rfl⟩
set_option maxRecDepth 100000 in
theorem w_code_Scene_clear : Jvm.Cond.code M_Scene_clear.1 M_Scene_clear.2.1 M_Scene_clear.2.2.1 M_Scene_clear.2.2.2.1 ∈ am_tw := List.mem_filter.mpr ⟨List.mem_of_getElem? (i := 348) rfl, rfl⟩
set_option maxRecDepth 100000 in
theorem w_code_Reader_skipBlanks : Jvm.Cond.code M_Reader_skipBlanks.1 M_Reader_skipBlanks.2.1 M_Reader_skipBlanks.2.2.1 M_Reader_skipBlanks.2.2.2.1 ∈ am_tw := List.mem_filter.mpr ⟨List.mem_of_getElem? (i := 352) rfl, rfl⟩
set_option maxRecDepth 100000 in
theorem w_code_Text_letterAt : Jvm.Cond.code M_Text_letterAt.1 M_Text_letterAt.2.1 M_Text_letterAt.2.2.1 M_Text_letterAt.2.2.2.1 ∈ am_tw := List.mem_filter.mpr ⟨List.mem_of_getElem? (i := 356) rfl, rfl⟩
set_option maxRecDepth 100000 in
theorem w_code_Reader_readClause : Jvm.Cond.code M_Reader_readClause.1 M_Reader_readClause.2.1 M_Reader_readClause.2.2.1 M_Reader_readClause.2.2.2.1 ∈ am_tw := List.mem_filter.mpr ⟨List.mem_of_getElem? (i := 360) rfl, rfl⟩
set_option maxRecDepth 100000 in
theorem w_code_Line_isTold : Jvm.Cond.code M_Line_isTold.1 M_Line_isTold.2.1 M_Line_isTold.2.2.1 M_Line_isTold.2.2.2.1 ∈ am_tw := List.mem_filter.mpr ⟨List.mem_of_getElem? (i := 364) rfl, rfl⟩
set_option maxRecDepth 100000 in
theorem w_code_Reader_blame : Jvm.Cond.code M_Reader_blame.1 M_Reader_blame.2.1 M_Reader_blame.2.2.1 M_Reader_blame.2.2.2.1 ∈ am_tw := List.mem_filter.mpr ⟨List.mem_of_getElem? (i := 368) rfl, rfl⟩
set_option maxRecDepth 100000 in
theorem w_code_Reader_readStations : Jvm.Cond.code M_Reader_readStations.1 M_Reader_readStations.2.1 M_Reader_readStations.2.2.1 M_Reader_readStations.2.2.2.1 ∈ am_tw := List.mem_filter.mpr ⟨List.mem_of_getElem? (i := 372) rfl, rfl⟩
set_option maxRecDepth 100000 in
theorem w_code_Reader_readNumber : Jvm.Cond.code M_Reader_readNumber.1 M_Reader_readNumber.2.1 M_Reader_readNumber.2.2.1 M_Reader_readNumber.2.2.2.1 ∈ am_tw := List.mem_filter.mpr ⟨List.mem_of_getElem? (i := 376) rfl, rfl⟩
set_option maxRecDepth 100000 in
theorem w_code_Reader_isFigure : Jvm.Cond.code M_Reader_isFigure.1 M_Reader_isFigure.2.1 M_Reader_isFigure.2.2.1 M_Reader_isFigure.2.2.2.1 ∈ am_tw := List.mem_filter.mpr ⟨List.mem_of_getElem? (i := 379) rfl, rfl⟩
set_option maxRecDepth 100000 in
theorem w_code_Reader_readEnd : Jvm.Cond.code M_Reader_readEnd.1 M_Reader_readEnd.2.1 M_Reader_readEnd.2.2.1 M_Reader_readEnd.2.2.2.1 ∈ am_tw := List.mem_filter.mpr ⟨List.mem_of_getElem? (i := 383) rfl, rfl⟩
set_option maxRecDepth 100000 in
theorem w_code_Reader_readPerson : Jvm.Cond.code M_Reader_readPerson.1 M_Reader_readPerson.2.1 M_Reader_readPerson.2.2.1 M_Reader_readPerson.2.2.2.1 ∈ am_tw := List.mem_filter.mpr ⟨List.mem_of_getElem? (i := 387) rfl, rfl⟩
set_option maxRecDepth 100000 in
theorem w_code_Sp_bit : Jvm.Cond.code M_Sp_bit.1 M_Sp_bit.2.1 M_Sp_bit.2.2.1 M_Sp_bit.2.2.2.1 ∈ am_tw := List.mem_filter.mpr ⟨List.mem_of_getElem? (i := 390) rfl, rfl⟩
set_option maxRecDepth 100000 in
theorem w_code_Sp_withBit : Jvm.Cond.code M_Sp_withBit.1 M_Sp_withBit.2.1 M_Sp_withBit.2.2.1 M_Sp_withBit.2.2.2.1 ∈ am_tw := List.mem_filter.mpr ⟨List.mem_of_getElem? (i := 393) rfl, rfl⟩
set_option maxRecDepth 100000 in
theorem w_code_Line_takeFrom : Jvm.Cond.code M_Line_takeFrom.1 M_Line_takeFrom.2.1 M_Line_takeFrom.2.2.1 M_Line_takeFrom.2.2.2.1 ∈ am_tw := List.mem_filter.mpr ⟨List.mem_of_getElem? (i := 397) rfl, rfl⟩
set_option maxRecDepth 100000 in
theorem w_code_Scene_takeFrom : Jvm.Cond.code M_Scene_takeFrom.1 M_Scene_takeFrom.2.1 M_Scene_takeFrom.2.2.1 M_Scene_takeFrom.2.2.2.1 ∈ am_tw := List.mem_filter.mpr ⟨List.mem_of_getElem? (i := 404) rfl, rfl⟩
set_option maxRecDepth 100000 in
theorem w_code_Sp_fault : Jvm.Cond.code M_Sp_fault.1 M_Sp_fault.2.1 M_Sp_fault.2.2.1 M_Sp_fault.2.2.2.1 ∈ am_tw := List.mem_filter.mpr ⟨List.mem_of_getElem? (i := 409) rfl, rfl⟩
set_option maxRecDepth 100000 in
theorem w_code_Sp_told : Jvm.Cond.code M_Sp_told.1 M_Sp_told.2.1 M_Sp_told.2.2.1 M_Sp_told.2.2.2.1 ∈ am_tw := List.mem_filter.mpr ⟨List.mem_of_getElem? (i := 413) rfl, rfl⟩
set_option maxRecDepth 100000 in
theorem w_code_Scene_awaited : Jvm.Cond.code M_Scene_awaited.1 M_Scene_awaited.2.1 M_Scene_awaited.2.2.1 M_Scene_awaited.2.2.2.1 ∈ am_tw := List.mem_filter.mpr ⟨List.mem_of_getElem? (i := 417) rfl, rfl⟩
set_option maxRecDepth 100000 in
theorem w_code_Scene_shows : Jvm.Cond.code M_Scene_shows.1 M_Scene_shows.2.1 M_Scene_shows.2.2.1 M_Scene_shows.2.2.2.1 ∈ am_tw := List.mem_filter.mpr ⟨List.mem_of_getElem? (i := 421) rfl, rfl⟩
set_option maxRecDepth 100000 in
theorem w_code_Scene_alarm : Jvm.Cond.code M_Scene_alarm.1 M_Scene_alarm.2.1 M_Scene_alarm.2.2.1 M_Scene_alarm.2.2.2.1 ∈ am_tw := List.mem_filter.mpr ⟨List.mem_of_getElem? (i := 426) rfl, rfl⟩
set_option maxRecDepth 100000 in
theorem w_code_Scene_arrived : Jvm.Cond.code M_Scene_arrived.1 M_Scene_arrived.2.1 M_Scene_arrived.2.2.1 M_Scene_arrived.2.2.2.1 ∈ am_tw := List.mem_filter.mpr ⟨List.mem_of_getElem? (i := 430) rfl, rfl⟩
set_option maxRecDepth 100000 in
theorem w_code_Scene_hasArrived : Jvm.Cond.code M_Scene_hasArrived.1 M_Scene_hasArrived.2.1 M_Scene_hasArrived.2.2.1 M_Scene_hasArrived.2.2.2.1 ∈ am_tw := List.mem_filter.mpr ⟨List.mem_of_getElem? (i := 434) rfl, rfl⟩
set_option maxRecDepth 100000 in
theorem w_code_Sp_person : Jvm.Cond.code M_Sp_person.1 M_Sp_person.2.1 M_Sp_person.2.2.1 M_Sp_person.2.2.2.1 ∈ am_tw := List.mem_filter.mpr ⟨List.mem_of_getElem? (i := 438) rfl, rfl⟩
set_option maxRecDepth 100000 in
theorem w_code_Line_hasPerson : Jvm.Cond.code M_Line_hasPerson.1 M_Line_hasPerson.2.1 M_Line_hasPerson.2.2.1 M_Line_hasPerson.2.2.2.1 ∈ am_tw := List.mem_filter.mpr ⟨List.mem_of_getElem? (i := 442) rfl, rfl⟩
set_option maxRecDepth 100000 in
theorem w_code_Sp_station : Jvm.Cond.code M_Sp_station.1 M_Sp_station.2.1 M_Sp_station.2.2.1 M_Sp_station.2.2.2.1 ∈ am_tw := List.mem_filter.mpr ⟨List.mem_of_getElem? (i := 449) rfl, rfl⟩
set_option maxRecDepth 100000 in
theorem w_code_Line_hasStation : Jvm.Cond.code M_Line_hasStation.1 M_Line_hasStation.2.1 M_Line_hasStation.2.2.1 M_Line_hasStation.2.2.2.1 ∈ am_tw := List.mem_filter.mpr ⟨List.mem_of_getElem? (i := 453) rfl, rfl⟩
set_option maxRecDepth 100000 in
theorem w_code_Scene_standing : Jvm.Cond.code M_Scene_standing.1 M_Scene_standing.2.1 M_Scene_standing.2.2.1 M_Scene_standing.2.2.2.1 ∈ am_tw := List.mem_filter.mpr ⟨List.mem_of_getElem? (i := 457) rfl, rfl⟩
set_option maxRecDepth 100000 in
theorem w_code_Scene_mostShown : Jvm.Cond.code M_Scene_mostShown.1 M_Scene_mostShown.2.1 M_Scene_mostShown.2.2.1 M_Scene_mostShown.2.2.2.1 ∈ am_tw := List.mem_filter.mpr ⟨List.mem_of_getElem? (i := 461) rfl, rfl⟩
set_option maxRecDepth 100000 in
theorem w_code_Sp_mien : Jvm.Cond.code M_Sp_mien.1 M_Sp_mien.2.1 M_Sp_mien.2.2.1 M_Sp_mien.2.2.2.1 ∈ am_tw := List.mem_filter.mpr ⟨List.mem_of_getElem? (i := 468) rfl, rfl⟩
set_option maxRecDepth 100000 in
theorem w_code_Deeds_note : Jvm.Cond.code M_Deeds_note.1 M_Deeds_note.2.1 M_Deeds_note.2.2.1 M_Deeds_note.2.2.2.1 ∈ am_tw := List.mem_filter.mpr ⟨List.mem_of_getElem? (i := 472) rfl, rfl⟩
set_option maxRecDepth 100000 in
theorem w_code_Sp_feet : Jvm.Cond.code M_Sp_feet.1 M_Sp_feet.2.1 M_Sp_feet.2.2.1 M_Sp_feet.2.2.2.1 ∈ am_tw := List.mem_filter.mpr ⟨List.mem_of_getElem? (i := 477) rfl, rfl⟩
set_option maxRecDepth 100000 in
theorem w_code_Sp_flowers : Jvm.Cond.code M_Sp_flowers.1 M_Sp_flowers.2.1 M_Sp_flowers.2.2.1 M_Sp_flowers.2.2.2.1 ∈ am_tw := List.mem_filter.mpr ⟨List.mem_of_getElem? (i := 482) rfl, rfl⟩
set_option maxRecDepth 100000 in
theorem w_code_Sp_walk : Jvm.Cond.code M_Sp_walk.1 M_Sp_walk.2.1 M_Sp_walk.2.2.1 M_Sp_walk.2.2.2.1 ∈ am_tw := List.mem_filter.mpr ⟨List.mem_of_getElem? (i := 486) rfl, rfl⟩
set_option maxRecDepth 100000 in
theorem w_code_Sp_fog : Jvm.Cond.code M_Sp_fog.1 M_Sp_fog.2.1 M_Sp_fog.2.2.1 M_Sp_fog.2.2.2.1 ∈ am_tw := List.mem_filter.mpr ⟨List.mem_of_getElem? (i := 493) rfl, rfl⟩
set_option maxRecDepth 100000 in
theorem w_code_Sp_train : Jvm.Cond.code M_Sp_train.1 M_Sp_train.2.1 M_Sp_train.2.2.1 M_Sp_train.2.2.2.1 ∈ am_tw := List.mem_filter.mpr ⟨List.mem_of_getElem? (i := 499) rfl, rfl⟩
set_option maxRecDepth 100000 in
theorem w_code_Sp_trainsRefused : Jvm.Cond.code M_Sp_trainsRefused.1 M_Sp_trainsRefused.2.1 M_Sp_trainsRefused.2.2.1 M_Sp_trainsRefused.2.2.2.1 ∈ am_tw := List.mem_filter.mpr ⟨List.mem_of_getElem? (i := 503) rfl, rfl⟩
set_option maxRecDepth 100000 in
theorem w_code_Scene_runTrain : Jvm.Cond.code M_Scene_runTrain.1 M_Scene_runTrain.2.1 M_Scene_runTrain.2.2.1 M_Scene_runTrain.2.2.2.1 ∈ am_tw := List.mem_filter.mpr ⟨List.mem_of_getElem? (i := 507) rfl, rfl⟩
set_option maxRecDepth 100000 in
theorem w_code_Scene_stopsOfNext : Jvm.Cond.code M_Scene_stopsOfNext.1 M_Scene_stopsOfNext.2.1 M_Scene_stopsOfNext.2.2.1 M_Scene_stopsOfNext.2.2.2.1 ∈ am_tw := List.mem_filter.mpr ⟨List.mem_of_getElem? (i := 511) rfl, rfl⟩
set_option maxRecDepth 100000 in
theorem w_code_Line_allStations : Jvm.Cond.code M_Line_allStations.1 M_Line_allStations.2.1 M_Line_allStations.2.2.1 M_Line_allStations.2.2.2.1 ∈ am_tw := List.mem_filter.mpr ⟨List.mem_of_getElem? (i := 515) rfl, rfl⟩
set_option maxRecDepth 100000 in
theorem w_code_Scene_letOut : Jvm.Cond.code M_Scene_letOut.1 M_Scene_letOut.2.1 M_Scene_letOut.2.2.1 M_Scene_letOut.2.2.2.1 ∈ am_tw := List.mem_filter.mpr ⟨List.mem_of_getElem? (i := 520) rfl, rfl⟩
set_option maxRecDepth 100000 in
theorem w_code_Scene_takeIn : Jvm.Cond.code M_Scene_takeIn.1 M_Scene_takeIn.2.1 M_Scene_takeIn.2.2.1 M_Scene_takeIn.2.2.2.1 ∈ am_tw := List.mem_filter.mpr ⟨List.mem_of_getElem? (i := 525) rfl, rfl⟩
set_option maxRecDepth 100000 in
theorem w_code_Scene_emptyAtLast : Jvm.Cond.code M_Scene_emptyAtLast.1 M_Scene_emptyAtLast.2.1 M_Scene_emptyAtLast.2.2.1 M_Scene_emptyAtLast.2.2.2.1 ∈ am_tw := List.mem_filter.mpr ⟨List.mem_of_getElem? (i := 529) rfl, rfl⟩
set_option maxRecDepth 100000 in
theorem w_code_Sp_drift : Jvm.Cond.code M_Sp_drift.1 M_Sp_drift.2.1 M_Sp_drift.2.2.1 M_Sp_drift.2.2.2.1 ∈ am_tw := List.mem_filter.mpr ⟨List.mem_of_getElem? (i := 533) rfl, rfl⟩
set_option maxRecDepth 100000 in
theorem w_code_Sp_drawDay : Jvm.Cond.code M_Sp_drawDay.1 M_Sp_drawDay.2.1 M_Sp_drawDay.2.2.1 M_Sp_drawDay.2.2.2.1 ∈ am_tw := List.mem_filter.mpr ⟨List.mem_of_getElem? (i := 537) rfl, rfl⟩
set_option maxRecDepth 100000 in
theorem w_code_Draws_next : Jvm.Cond.code M_Draws_next.1 M_Draws_next.2.1 M_Draws_next.2.2.1 M_Draws_next.2.2.2.1 ∈ am_tw := List.mem_filter.mpr ⟨List.mem_of_getElem? (i := 541) rfl, rfl⟩
set_option maxRecDepth 100000 in
theorem w_code_Sp_undo : Jvm.Cond.code M_Sp_undo.1 M_Sp_undo.2.1 M_Sp_undo.2.2.1 M_Sp_undo.2.2.2.1 ∈ am_tw := List.mem_filter.mpr ⟨List.mem_of_getElem? (i := 549) rfl, rfl⟩
set_option maxRecDepth 100000 in
theorem w_code_Deeds_takeBack : Jvm.Cond.code M_Deeds_takeBack.1 M_Deeds_takeBack.2.1 M_Deeds_takeBack.2.2.1 M_Deeds_takeBack.2.2.2.1 ∈ am_tw := List.mem_filter.mpr ⟨List.mem_of_getElem? (i := 553) rfl, rfl⟩
set_option maxRecDepth 100000 in
theorem w_code_Sp_stops : Jvm.Cond.code M_Sp_stops.1 M_Sp_stops.2.1 M_Sp_stops.2.2.1 M_Sp_stops.2.2.2.1 ∈ am_tw := List.mem_filter.mpr ⟨List.mem_of_getElem? (i := 557) rfl, rfl⟩
set_option maxRecDepth 100000 in
theorem w_code_Sp_calm : Jvm.Cond.code M_Sp_calm.1 M_Sp_calm.2.1 M_Sp_calm.2.2.1 M_Sp_calm.2.2.2.1 ∈ am_tw := List.mem_filter.mpr ⟨List.mem_of_getElem? (i := 562) rfl, rfl⟩
set_option maxRecDepth 100000 in
theorem w_code_Sp_journey : Jvm.Cond.code M_Sp_journey.1 M_Sp_journey.2.1 M_Sp_journey.2.2.1 M_Sp_journey.2.2.2.1 ∈ am_tw := List.mem_filter.mpr ⟨List.mem_of_getElem? (i := 569) rfl, rfl⟩
set_option maxRecDepth 100000 in
theorem w_code_Sp_never : Jvm.Cond.code M_Sp_never.1 M_Sp_never.2.1 M_Sp_never.2.2.1 M_Sp_never.2.2.2.1 ∈ am_tw := List.mem_filter.mpr ⟨List.mem_of_getElem? (i := 574) rfl, rfl⟩
set_option maxRecDepth 100000 in
theorem w_code_Sp_cut : Jvm.Cond.code M_Sp_cut.1 M_Sp_cut.2.1 M_Sp_cut.2.2.1 M_Sp_cut.2.2.2.1 ∈ am_tw := List.mem_filter.mpr ⟨List.mem_of_getElem? (i := 578) rfl, rfl⟩
set_option maxRecDepth 100000 in
theorem w_code_Sp_arrivesThough : Jvm.Cond.code M_Sp_arrivesThough.1 M_Sp_arrivesThough.2.1 M_Sp_arrivesThough.2.2.1 M_Sp_arrivesThough.2.2.2.1 ∈ am_tw := List.mem_filter.mpr ⟨List.mem_of_getElem? (i := 582) rfl, rfl⟩
set_option maxRecDepth 100000 in
theorem w_code_Sp_aunts : Jvm.Cond.code M_Sp_aunts.1 M_Sp_aunts.2.1 M_Sp_aunts.2.2.1 M_Sp_aunts.2.2.2.1 ∈ am_tw := List.mem_filter.mpr ⟨List.mem_of_getElem? (i := 586) rfl, rfl⟩
set_option maxRecDepth 100000 in
theorem w_code_Sp_endsAt : Jvm.Cond.code M_Sp_endsAt.1 M_Sp_endsAt.2.1 M_Sp_endsAt.2.2.1 M_Sp_endsAt.2.2.2.1 ∈ am_tw := List.mem_filter.mpr ⟨List.mem_of_getElem? (i := 590) rfl, rfl⟩
set_option maxRecDepth 100000 in
theorem w_code_Sp_chance : Jvm.Cond.code M_Sp_chance.1 M_Sp_chance.2.1 M_Sp_chance.2.2.1 M_Sp_chance.2.2.2.1 ∈ am_tw := List.mem_filter.mpr ⟨List.mem_of_getElem? (i := 595) rfl, rfl⟩
set_option maxRecDepth 100000 in
theorem w_code_Sp_ran : Jvm.Cond.code M_Sp_ran.1 M_Sp_ran.2.1 M_Sp_ran.2.2.1 M_Sp_ran.2.2.2.1 ∈ am_tw := List.mem_filter.mpr ⟨List.mem_of_getElem? (i := 604) rfl, rfl⟩
set_option maxRecDepth 100000 in
theorem w_code_Witness_add : Jvm.Cond.code M_Witness_add.1 M_Witness_add.2.1 M_Witness_add.2.2.1 M_Witness_add.2.2.2.1 ∈ am_tw := List.mem_filter.mpr ⟨List.mem_of_getElem? (i := 608) rfl, rfl⟩
set_option maxRecDepth 100000 in
theorem w_code_Sp_hoped : Jvm.Cond.code M_Sp_hoped.1 M_Sp_hoped.2.1 M_Sp_hoped.2.2.1 M_Sp_hoped.2.2.2.1 ∈ am_tw := List.mem_filter.mpr ⟨List.mem_of_getElem? (i := 612) rfl, rfl⟩
set_option maxRecDepth 100000 in
theorem w_code_Witness_find : Jvm.Cond.code M_Witness_find.1 M_Witness_find.2.1 M_Witness_find.2.2.1 M_Witness_find.2.2.2.1 ∈ am_tw := List.mem_filter.mpr ⟨List.mem_of_getElem? (i := 616) rfl, rfl⟩
set_option maxRecDepth 100000 in
theorem w_code_Witness_tryHopeful : Jvm.Cond.code M_Witness_tryHopeful.1 M_Witness_tryHopeful.2.1 M_Witness_tryHopeful.2.2.1 M_Witness_tryHopeful.2.2.2.1 ∈ am_tw := List.mem_filter.mpr ⟨List.mem_of_getElem? (i := 620) rfl, rfl⟩
set_option maxRecDepth 100000 in
theorem w_code_Witness_fits : Jvm.Cond.code M_Witness_fits.1 M_Witness_fits.2.1 M_Witness_fits.2.2.1 M_Witness_fits.2.2.2.1 ∈ am_tw := List.mem_filter.mpr ⟨List.mem_of_getElem? (i := 625) rfl, rfl⟩
set_option maxRecDepth 100000 in
theorem w_code_Sp_sure : Jvm.Cond.code M_Sp_sure.1 M_Sp_sure.2.1 M_Sp_sure.2.2.1 M_Sp_sure.2.2.2.1 ∈ am_tw := List.mem_filter.mpr ⟨List.mem_of_getElem? (i := 630) rfl, rfl⟩
set_option maxRecDepth 100000 in
theorem w_code_Line_allPersons : Jvm.Cond.code M_Line_allPersons.1 M_Line_allPersons.2.1 M_Line_allPersons.2.2.1 M_Line_allPersons.2.2.2.1 ∈ am_tw := List.mem_filter.mpr ⟨List.mem_of_getElem? (i := 634) rfl, rfl⟩
set_option maxRecDepth 100000 in
theorem w_code_Sp_look : Jvm.Cond.code M_Sp_look.1 M_Sp_look.2.1 M_Sp_look.2.2.1 M_Sp_look.2.2.2.1 ∈ am_tw := List.mem_filter.mpr ⟨List.mem_of_getElem? (i := 638) rfl, rfl⟩
set_option maxRecDepth 100000 in
theorem w_code_Witness_greatestPart : Jvm.Cond.code M_Witness_greatestPart.1 M_Witness_greatestPart.2.1 M_Witness_greatestPart.2.2.1 M_Witness_greatestPart.2.2.2.1 ∈ am_tw := List.mem_filter.mpr ⟨List.mem_of_getElem? (i := 642) rfl, rfl⟩
set_option maxRecDepth 100000 in
theorem w_code_Sp_write : Jvm.Cond.code M_Sp_write.1 M_Sp_write.2.1 M_Sp_write.2.2.1 M_Sp_write.2.2.2.1 ∈ am_tw := List.mem_filter.mpr ⟨List.mem_of_getElem? (i := 647) rfl, rfl⟩
set_option maxRecDepth 100000 in
theorem w_code_Book_add : Jvm.Cond.code M_Book_add.1 M_Book_add.2.1 M_Book_add.2.2.1 M_Book_add.2.2.2.1 ∈ am_tw := List.mem_filter.mpr ⟨List.mem_of_getElem? (i := 651) rfl, rfl⟩
set_option maxRecDepth 100000 in
theorem w_code_Sp_judge : Jvm.Cond.code M_Sp_judge.1 M_Sp_judge.2.1 M_Sp_judge.2.2.1 M_Sp_judge.2.2.2.1 ∈ am_tw := List.mem_filter.mpr ⟨List.mem_of_getElem? (i := 655) rfl, rfl⟩
set_option maxRecDepth 100000 in
theorem w_code_Book_firstWrong : Jvm.Cond.code M_Book_firstWrong.1 M_Book_firstWrong.2.1 M_Book_firstWrong.2.2.1 M_Book_firstWrong.2.2.2.1 ∈ am_tw := List.mem_filter.mpr ⟨List.mem_of_getElem? (i := 659) rfl, rfl⟩
set_option maxRecDepth 100000 in
theorem w_code_Sp_tear : Jvm.Cond.code M_Sp_tear.1 M_Sp_tear.2.1 M_Sp_tear.2.2.1 M_Sp_tear.2.2.2.1 ∈ am_tw := List.mem_filter.mpr ⟨List.mem_of_getElem? (i := 663) rfl, rfl⟩
set_option maxRecDepth 100000 in
theorem w_code_Sp_seed : Jvm.Cond.code M_Sp_seed.1 M_Sp_seed.2.1 M_Sp_seed.2.2.1 M_Sp_seed.2.2.2.1 ∈ am_tw := List.mem_filter.mpr ⟨List.mem_of_getElem? (i := 667) rfl, rfl⟩
set_option maxRecDepth 100000 in
theorem w_code_Sp_keep : Jvm.Cond.code M_Sp_keep.1 M_Sp_keep.2.1 M_Sp_keep.2.2.1 M_Sp_keep.2.2.2.1 ∈ am_tw := List.mem_filter.mpr ⟨List.mem_of_getElem? (i := 671) rfl, rfl⟩
set_option maxRecDepth 100000 in
theorem w_code_Sp_goBack : Jvm.Cond.code M_Sp_goBack.1 M_Sp_goBack.2.1 M_Sp_goBack.2.2.1 M_Sp_goBack.2.2.2.1 ∈ am_tw := List.mem_filter.mpr ⟨List.mem_of_getElem? (i := 675) rfl, rfl⟩
set_option maxRecDepth 100000 in
theorem w_code_Mo_init : Jvm.Cond.code M_Mo_init.1 M_Mo_init.2.1 M_Mo_init.2.2.1 M_Mo_init.2.2.2.1 ∈ am_tw := List.mem_filter.mpr ⟨List.mem_of_getElem? (i := 680) rfl, rfl⟩
set_option maxRecDepth 100000 in
theorem w_code_Mo_feed : Jvm.Cond.code M_Mo_feed.1 M_Mo_feed.2.1 M_Mo_feed.2.2.1 M_Mo_feed.2.2.2.1 ∈ am_tw := List.mem_filter.mpr ⟨List.mem_of_getElem? (i := 792) rfl, rfl⟩
set_option maxRecDepth 100000 in
theorem w_code_Mo_in : Jvm.Cond.code M_Mo_in.1 M_Mo_in.2.1 M_Mo_in.2.2.1 M_Mo_in.2.2.2.1 ∈ am_tw := List.mem_filter.mpr ⟨List.mem_of_getElem? (i := 795) rfl, rfl⟩
set_option maxRecDepth 100000 in
theorem w_code_Mo_line : Jvm.Cond.code M_Mo_line.1 M_Mo_line.2.1 M_Mo_line.2.2.1 M_Mo_line.2.2.2.1 ∈ am_tw := List.mem_filter.mpr ⟨List.mem_of_getElem? (i := 801) rfl, rfl⟩
set_option maxRecDepth 100000 in
theorem w_code_Mo_skip : Jvm.Cond.code M_Mo_skip.1 M_Mo_skip.2.1 M_Mo_skip.2.2.1 M_Mo_skip.2.2.2.1 ∈ am_tw := List.mem_filter.mpr ⟨List.mem_of_getElem? (i := 805) rfl, rfl⟩
set_option maxRecDepth 100000 in
theorem w_code_Mo_here : Jvm.Cond.code M_Mo_here.1 M_Mo_here.2.1 M_Mo_here.2.2.1 M_Mo_here.2.2.2.1 ∈ am_tw := List.mem_filter.mpr ⟨List.mem_of_getElem? (i := 809) rfl, rfl⟩
set_option maxRecDepth 100000 in
theorem w_code_Mo_readsLine : Jvm.Cond.code M_Mo_readsLine.1 M_Mo_readsLine.2.1 M_Mo_readsLine.2.2.1 M_Mo_readsLine.2.2.2.1 ∈ am_tw := List.mem_filter.mpr ⟨List.mem_of_getElem? (i := 813) rfl, rfl⟩
set_option maxRecDepth 100000 in
theorem w_code_Mo_readsFirst : Jvm.Cond.code M_Mo_readsFirst.1 M_Mo_readsFirst.2.1 M_Mo_readsFirst.2.2.1 M_Mo_readsFirst.2.2.2.1 ∈ am_tw := List.mem_filter.mpr ⟨List.mem_of_getElem? (i := 817) rfl, rfl⟩
set_option maxRecDepth 100000 in
theorem w_code_Mo_sign : Jvm.Cond.code M_Mo_sign.1 M_Mo_sign.2.1 M_Mo_sign.2.2.1 M_Mo_sign.2.2.2.1 ∈ am_tw := List.mem_filter.mpr ⟨List.mem_of_getElem? (i := 821) rfl, rfl⟩
set_option maxRecDepth 100000 in
theorem w_code_Mo_fails : Jvm.Cond.code M_Mo_fails.1 M_Mo_fails.2.1 M_Mo_fails.2.2.1 M_Mo_fails.2.2.2.1 ∈ am_tw := List.mem_filter.mpr ⟨List.mem_of_getElem? (i := 825) rfl, rfl⟩
set_option maxRecDepth 100000 in
theorem w_code_Mo_number : Jvm.Cond.code M_Mo_number.1 M_Mo_number.2.1 M_Mo_number.2.2.1 M_Mo_number.2.2.2.1 ∈ am_tw := List.mem_filter.mpr ⟨List.mem_of_getElem? (i := 829) rfl, rfl⟩
set_option maxRecDepth 100000 in
theorem w_code_Mo_readsPerson : Jvm.Cond.code M_Mo_readsPerson.1 M_Mo_readsPerson.2.1 M_Mo_readsPerson.2.2.1 M_Mo_readsPerson.2.2.2.1 ∈ am_tw := List.mem_filter.mpr ⟨List.mem_of_getElem? (i := 833) rfl, rfl⟩
set_option maxRecDepth 100000 in
theorem w_code_Mo_readsMet : Jvm.Cond.code M_Mo_readsMet.1 M_Mo_readsMet.2.1 M_Mo_readsMet.2.2.1 M_Mo_readsMet.2.2.2.1 ∈ am_tw := List.mem_filter.mpr ⟨List.mem_of_getElem? (i := 837) rfl, rfl⟩
set_option maxRecDepth 100000 in
theorem w_code_Mo_fault : Jvm.Cond.code M_Mo_fault.1 M_Mo_fault.2.1 M_Mo_fault.2.2.1 M_Mo_fault.2.2.2.1 ∈ am_tw := List.mem_filter.mpr ⟨List.mem_of_getElem? (i := 841) rfl, rfl⟩
set_option maxRecDepth 100000 in
theorem w_code_Mo_told : Jvm.Cond.code M_Mo_told.1 M_Mo_told.2.1 M_Mo_told.2.2.1 M_Mo_told.2.2.2.1 ∈ am_tw := List.mem_filter.mpr ⟨List.mem_of_getElem? (i := 845) rfl, rfl⟩
set_option maxRecDepth 100000 in
theorem w_code_Mo_awaitedSet : Jvm.Cond.code M_Mo_awaitedSet.1 M_Mo_awaitedSet.2.1 M_Mo_awaitedSet.2.2.1 M_Mo_awaitedSet.2.2.2.1 ∈ am_tw := List.mem_filter.mpr ⟨List.mem_of_getElem? (i := 849) rfl, rfl⟩
set_option maxRecDepth 100000 in
theorem w_code_Mo_isAwaited : Jvm.Cond.code M_Mo_isAwaited.1 M_Mo_isAwaited.2.1 M_Mo_isAwaited.2.2.1 M_Mo_isAwaited.2.2.2.1 ∈ am_tw := List.mem_filter.mpr ⟨List.mem_of_getElem? (i := 853) rfl, rfl⟩
set_option maxRecDepth 100000 in
theorem w_code_Mo_shows : Jvm.Cond.code M_Mo_shows.1 M_Mo_shows.2.1 M_Mo_shows.2.2.1 M_Mo_shows.2.2.2.1 ∈ am_tw := List.mem_filter.mpr ⟨List.mem_of_getElem? (i := 857) rfl, rfl⟩
set_option maxRecDepth 100000 in
theorem w_code_Mo_arrivedSet : Jvm.Cond.code M_Mo_arrivedSet.1 M_Mo_arrivedSet.2.1 M_Mo_arrivedSet.2.2.1 M_Mo_arrivedSet.2.2.2.1 ∈ am_tw := List.mem_filter.mpr ⟨List.mem_of_getElem? (i := 861) rfl, rfl⟩
set_option maxRecDepth 100000 in
theorem w_code_Mo_person : Jvm.Cond.code M_Mo_person.1 M_Mo_person.2.1 M_Mo_person.2.2.1 M_Mo_person.2.2.2.1 ∈ am_tw := List.mem_filter.mpr ⟨List.mem_of_getElem? (i := 865) rfl, rfl⟩
set_option maxRecDepth 100000 in
theorem w_code_Mo_isPerson : Jvm.Cond.code M_Mo_isPerson.1 M_Mo_isPerson.2.1 M_Mo_isPerson.2.2.1 M_Mo_isPerson.2.2.2.1 ∈ am_tw := List.mem_filter.mpr ⟨List.mem_of_getElem? (i := 869) rfl, rfl⟩
set_option maxRecDepth 100000 in
theorem w_code_Mo_station : Jvm.Cond.code M_Mo_station.1 M_Mo_station.2.1 M_Mo_station.2.2.1 M_Mo_station.2.2.2.1 ∈ am_tw := List.mem_filter.mpr ⟨List.mem_of_getElem? (i := 874) rfl, rfl⟩
set_option maxRecDepth 100000 in
theorem w_code_Mo_isStation : Jvm.Cond.code M_Mo_isStation.1 M_Mo_isStation.2.1 M_Mo_isStation.2.2.1 M_Mo_isStation.2.2.2.1 ∈ am_tw := List.mem_filter.mpr ⟨List.mem_of_getElem? (i := 878) rfl, rfl⟩
set_option maxRecDepth 100000 in
theorem w_code_Mo_mien : Jvm.Cond.code M_Mo_mien.1 M_Mo_mien.2.1 M_Mo_mien.2.2.1 M_Mo_mien.2.2.2.1 ∈ am_tw := List.mem_filter.mpr ⟨List.mem_of_getElem? (i := 882) rfl, rfl⟩
set_option maxRecDepth 100000 in
theorem w_code_Mo_notes : Jvm.Cond.code M_Mo_notes.1 M_Mo_notes.2.1 M_Mo_notes.2.2.1 M_Mo_notes.2.2.2.1 ∈ am_tw := List.mem_filter.mpr ⟨List.mem_of_getElem? (i := 886) rfl, rfl⟩
set_option maxRecDepth 100000 in
theorem w_code_Mo_laysBy : Jvm.Cond.code M_Mo_laysBy.1 M_Mo_laysBy.2.1 M_Mo_laysBy.2.2.1 M_Mo_laysBy.2.2.2.1 ∈ am_tw := List.mem_filter.mpr ⟨List.mem_of_getElem? (i := 890) rfl, rfl⟩
set_option maxRecDepth 100000 in
theorem w_code_Mo_feet : Jvm.Cond.code M_Mo_feet.1 M_Mo_feet.2.1 M_Mo_feet.2.2.1 M_Mo_feet.2.2.2.1 ∈ am_tw := List.mem_filter.mpr ⟨List.mem_of_getElem? (i := 894) rfl, rfl⟩
set_option maxRecDepth 100000 in
theorem w_code_Mo_flowers : Jvm.Cond.code M_Mo_flowers.1 M_Mo_flowers.2.1 M_Mo_flowers.2.2.1 M_Mo_flowers.2.2.2.1 ∈ am_tw := List.mem_filter.mpr ⟨List.mem_of_getElem? (i := 898) rfl, rfl⟩
set_option maxRecDepth 100000 in
theorem w_code_Mo_walk : Jvm.Cond.code M_Mo_walk.1 M_Mo_walk.2.1 M_Mo_walk.2.2.1 M_Mo_walk.2.2.2.1 ∈ am_tw := List.mem_filter.mpr ⟨List.mem_of_getElem? (i := 902) rfl, rfl⟩
set_option maxRecDepth 100000 in
theorem w_code_Mo_fog : Jvm.Cond.code M_Mo_fog.1 M_Mo_fog.2.1 M_Mo_fog.2.2.1 M_Mo_fog.2.2.2.1 ∈ am_tw := List.mem_filter.mpr ⟨List.mem_of_getElem? (i := 906) rfl, rfl⟩
set_option maxRecDepth 100000 in
theorem w_code_Mo_train : Jvm.Cond.code M_Mo_train.1 M_Mo_train.2.1 M_Mo_train.2.2.1 M_Mo_train.2.2.2.1 ∈ am_tw := List.mem_filter.mpr ⟨List.mem_of_getElem? (i := 911) rfl, rfl⟩
set_option maxRecDepth 100000 in
theorem w_code_Mo_run : Jvm.Cond.code M_Mo_run.1 M_Mo_run.2.1 M_Mo_run.2.2.1 M_Mo_run.2.2.2.1 ∈ am_tw := List.mem_filter.mpr ⟨List.mem_of_getElem? (i := 915) rfl, rfl⟩
set_option maxRecDepth 100000 in
theorem w_code_Mo_has : Jvm.Cond.code M_Mo_has.1 M_Mo_has.2.1 M_Mo_has.2.2.1 M_Mo_has.2.2.2.1 ∈ am_tw := List.mem_filter.mpr ⟨List.mem_of_getElem? (i := 918) rfl, rfl⟩
set_option maxRecDepth 100000 in
theorem w_code_Mo_getOut : Jvm.Cond.code M_Mo_getOut.1 M_Mo_getOut.2.1 M_Mo_getOut.2.2.1 M_Mo_getOut.2.2.2.1 ∈ am_tw := List.mem_filter.mpr ⟨List.mem_of_getElem? (i := 922) rfl, rfl⟩
set_option maxRecDepth 100000 in
theorem w_code_Mo_drift : Jvm.Cond.code M_Mo_drift.1 M_Mo_drift.2.1 M_Mo_drift.2.2.1 M_Mo_drift.2.2.2.1 ∈ am_tw := List.mem_filter.mpr ⟨List.mem_of_getElem? (i := 926) rfl, rfl⟩
set_option maxRecDepth 100000 in
theorem w_code_Mo_drawn : Jvm.Cond.code M_Mo_drawn.1 M_Mo_drawn.2.1 M_Mo_drawn.2.2.1 M_Mo_drawn.2.2.2.1 ∈ am_tw := List.mem_filter.mpr ⟨List.mem_of_getElem? (i := 930) rfl, rfl⟩
set_option maxRecDepth 100000 in
theorem w_code_Mo_undo : Jvm.Cond.code M_Mo_undo.1 M_Mo_undo.2.1 M_Mo_undo.2.2.1 M_Mo_undo.2.2.2.1 ∈ am_tw := List.mem_filter.mpr ⟨List.mem_of_getElem? (i := 938) rfl, rfl⟩
set_option maxRecDepth 100000 in
theorem w_code_Mo_read : Jvm.Cond.code M_Mo_read.1 M_Mo_read.2.1 M_Mo_read.2.2.1 M_Mo_read.2.2.2.1 ∈ am_tw := List.mem_filter.mpr ⟨List.mem_of_getElem? (i := 942) rfl, rfl⟩
set_option maxRecDepth 100000 in
theorem w_code_Mo_stops : Jvm.Cond.code M_Mo_stops.1 M_Mo_stops.2.1 M_Mo_stops.2.2.1 M_Mo_stops.2.2.2.1 ∈ am_tw := List.mem_filter.mpr ⟨List.mem_of_getElem? (i := 946) rfl, rfl⟩
set_option maxRecDepth 100000 in
theorem w_code_Mo_nextStops : Jvm.Cond.code M_Mo_nextStops.1 M_Mo_nextStops.2.1 M_Mo_nextStops.2.2.1 M_Mo_nextStops.2.2.2.1 ∈ am_tw := List.mem_filter.mpr ⟨List.mem_of_getElem? (i := 950) rfl, rfl⟩
set_option maxRecDepth 100000 in
theorem w_code_Mo_begin : Jvm.Cond.code M_Mo_begin.1 M_Mo_begin.2.1 M_Mo_begin.2.2.1 M_Mo_begin.2.2.2.1 ∈ am_tw := List.mem_filter.mpr ⟨List.mem_of_getElem? (i := 954) rfl, rfl⟩
set_option maxRecDepth 100000 in
theorem w_code_Mo_back : Jvm.Cond.code M_Mo_back.1 M_Mo_back.2.1 M_Mo_back.2.2.1 M_Mo_back.2.2.2.1 ∈ am_tw := List.mem_filter.mpr ⟨List.mem_of_getElem? (i := 958) rfl, rfl⟩
set_option maxRecDepth 100000 in
theorem w_code_Mo_calm : Jvm.Cond.code M_Mo_calm.1 M_Mo_calm.2.1 M_Mo_calm.2.2.1 M_Mo_calm.2.2.2.1 ∈ am_tw := List.mem_filter.mpr ⟨List.mem_of_getElem? (i := 962) rfl, rfl⟩
set_option maxRecDepth 100000 in
theorem w_code_Mo_journey : Jvm.Cond.code M_Mo_journey.1 M_Mo_journey.2.1 M_Mo_journey.2.2.1 M_Mo_journey.2.2.2.1 ∈ am_tw := List.mem_filter.mpr ⟨List.mem_of_getElem? (i := 966) rfl, rfl⟩
set_option maxRecDepth 100000 in
theorem w_code_Mo_never : Jvm.Cond.code M_Mo_never.1 M_Mo_never.2.1 M_Mo_never.2.2.1 M_Mo_never.2.2.2.1 ∈ am_tw := List.mem_filter.mpr ⟨List.mem_of_getElem? (i := 970) rfl, rfl⟩
set_option maxRecDepth 100000 in
theorem w_code_Mo_cut : Jvm.Cond.code M_Mo_cut.1 M_Mo_cut.2.1 M_Mo_cut.2.2.1 M_Mo_cut.2.2.2.1 ∈ am_tw := List.mem_filter.mpr ⟨List.mem_of_getElem? (i := 974) rfl, rfl⟩
set_option maxRecDepth 100000 in
theorem w_code_Mo_bits : Jvm.Cond.code M_Mo_bits.1 M_Mo_bits.2.1 M_Mo_bits.2.2.1 M_Mo_bits.2.2.2.1 ∈ am_tw := List.mem_filter.mpr ⟨List.mem_of_getElem? (i := 977) rfl, rfl⟩
set_option maxRecDepth 100000 in
theorem w_code_Mo_aunts : Jvm.Cond.code M_Mo_aunts.1 M_Mo_aunts.2.1 M_Mo_aunts.2.2.1 M_Mo_aunts.2.2.2.1 ∈ am_tw := List.mem_filter.mpr ⟨List.mem_of_getElem? (i := 981) rfl, rfl⟩
set_option maxRecDepth 100000 in
theorem w_code_Mo_chance : Jvm.Cond.code M_Mo_chance.1 M_Mo_chance.2.1 M_Mo_chance.2.2.1 M_Mo_chance.2.2.2.1 ∈ am_tw := List.mem_filter.mpr ⟨List.mem_of_getElem? (i := 985) rfl, rfl⟩
set_option maxRecDepth 100000 in
theorem w_code_Mo_ran : Jvm.Cond.code M_Mo_ran.1 M_Mo_ran.2.1 M_Mo_ran.2.2.1 M_Mo_ran.2.2.2.1 ∈ am_tw := List.mem_filter.mpr ⟨List.mem_of_getElem? (i := 991) rfl, rfl⟩
set_option maxRecDepth 100000 in
theorem w_code_Mo_hoped : Jvm.Cond.code M_Mo_hoped.1 M_Mo_hoped.2.1 M_Mo_hoped.2.2.1 M_Mo_hoped.2.2.2.1 ∈ am_tw := List.mem_filter.mpr ⟨List.mem_of_getElem? (i := 995) rfl, rfl⟩
set_option maxRecDepth 100000 in
theorem w_code_Mo_setHopes : Jvm.Cond.code M_Mo_setHopes.1 M_Mo_setHopes.2.1 M_Mo_setHopes.2.2.1 M_Mo_setHopes.2.2.2.1 ∈ am_tw := List.mem_filter.mpr ⟨List.mem_of_getElem? (i := 999) rfl, rfl⟩
set_option maxRecDepth 100000 in
theorem w_code_Mo_goesSo : Jvm.Cond.code M_Mo_goesSo.1 M_Mo_goesSo.2.1 M_Mo_goesSo.2.2.1 M_Mo_goesSo.2.2.2.1 ∈ am_tw := List.mem_filter.mpr ⟨List.mem_of_getElem? (i := 1003) rfl, rfl⟩
set_option maxRecDepth 100000 in
theorem w_code_Mo_sure : Jvm.Cond.code M_Mo_sure.1 M_Mo_sure.2.1 M_Mo_sure.2.2.1 M_Mo_sure.2.2.2.1 ∈ am_tw := List.mem_filter.mpr ⟨List.mem_of_getElem? (i := 1007) rfl, rfl⟩
set_option maxRecDepth 100000 in
theorem w_code_Mo_look : Jvm.Cond.code M_Mo_look.1 M_Mo_look.2.1 M_Mo_look.2.2.1 M_Mo_look.2.2.2.1 ∈ am_tw := List.mem_filter.mpr ⟨List.mem_of_getElem? (i := 1011) rfl, rfl⟩
set_option maxRecDepth 100000 in
theorem w_code_Mo_write : Jvm.Cond.code M_Mo_write.1 M_Mo_write.2.1 M_Mo_write.2.2.1 M_Mo_write.2.2.2.1 ∈ am_tw := List.mem_filter.mpr ⟨List.mem_of_getElem? (i := 1015) rfl, rfl⟩
set_option maxRecDepth 100000 in
theorem w_code_Mo_judge : Jvm.Cond.code M_Mo_judge.1 M_Mo_judge.2.1 M_Mo_judge.2.2.1 M_Mo_judge.2.2.2.1 ∈ am_tw := List.mem_filter.mpr ⟨List.mem_of_getElem? (i := 1019) rfl, rfl⟩
set_option maxRecDepth 100000 in
theorem w_code_Mo_tear : Jvm.Cond.code M_Mo_tear.1 M_Mo_tear.2.1 M_Mo_tear.2.2.1 M_Mo_tear.2.2.2.1 ∈ am_tw := List.mem_filter.mpr ⟨List.mem_of_getElem? (i := 1023) rfl, rfl⟩
set_option maxRecDepth 100000 in
theorem w_code_Mo_seed : Jvm.Cond.code M_Mo_seed.1 M_Mo_seed.2.1 M_Mo_seed.2.2.1 M_Mo_seed.2.2.2.1 ∈ am_tw := List.mem_filter.mpr ⟨List.mem_of_getElem? (i := 1027) rfl, rfl⟩
set_option maxRecDepth 100000 in
theorem w_code_Mo_keep : Jvm.Cond.code M_Mo_keep.1 M_Mo_keep.2.1 M_Mo_keep.2.2.1 M_Mo_keep.2.2.2.1 ∈ am_tw := List.mem_filter.mpr ⟨List.mem_of_getElem? (i := 1031) rfl, rfl⟩
set_option maxRecDepth 100000 in
theorem w_code_Mo_goBack : Jvm.Cond.code M_Mo_goBack.1 M_Mo_goBack.2.1 M_Mo_goBack.2.2.1 M_Mo_goBack.2.2.2.1 ∈ am_tw := List.mem_filter.mpr ⟨List.mem_of_getElem? (i := 1035) rfl, rfl⟩
def am_cwd (M : am_M) : Prop := M = M_L_law ∨ Jvm.Cond.code M.1 M.2.1 M.2.2.1 M.2.2.2.1 ∈ am_tw
theorem w_row0 : ∀ M ∈ ([M_Sp_init, M_Text_init, M_Reader_init, M_Line_init, M_Scene_init, M_Deeds_init, M_Witness_init, M_Book_init, M_Draws_init, M_Image_init, M_Sp_feed, M_Text_add, M_Sp_line, M_Reader_read, M_Line_clear, M_Scene_clear] : List am_M), am_cwd M := List.forall_mem_cons.mpr ⟨Or.inr w_code_Sp_init, List.forall_mem_cons.mpr ⟨Or.inr w_code_Text_init, List.forall_mem_cons.mpr ⟨Or.inr w_code_Reader_init, List.forall_mem_cons.mpr ⟨Or.inr w_code_Line_init, List.forall_mem_cons.mpr ⟨Or.inr w_code_Scene_init, List.forall_mem_cons.mpr ⟨Or.inr w_code_Deeds_init, List.forall_mem_cons.mpr ⟨Or.inr w_code_Witness_init, List.forall_mem_cons.mpr ⟨Or.inr w_code_Book_init, List.forall_mem_cons.mpr ⟨Or.inr w_code_Draws_init, List.forall_mem_cons.mpr ⟨Or.inr w_code_Image_init, List.forall_mem_cons.mpr ⟨Or.inr w_code_Sp_feed, List.forall_mem_cons.mpr ⟨Or.inr w_code_Text_add, List.forall_mem_cons.mpr ⟨Or.inr w_code_Sp_line, List.forall_mem_cons.mpr ⟨Or.inr w_code_Reader_read, List.forall_mem_cons.mpr ⟨Or.inr w_code_Line_clear, List.forall_mem_cons.mpr ⟨Or.inr w_code_Scene_clear, fun _ h => absurd h List.not_mem_nil⟩⟩⟩⟩⟩⟩⟩⟩⟩⟩⟩⟩⟩⟩⟩⟩
theorem w_row1 : ∀ M ∈ ([M_Reader_skipBlanks, M_Text_letterAt, M_Reader_readClause, M_Line_isTold, M_Reader_blame, M_Reader_readStations, M_Reader_readNumber, M_Reader_isFigure, M_Reader_readEnd, M_Reader_readPerson, M_Sp_bit, M_Sp_withBit, M_Line_takeFrom, M_Scene_takeFrom, M_Sp_fault, M_Sp_told] : List am_M), am_cwd M := List.forall_mem_cons.mpr ⟨Or.inr w_code_Reader_skipBlanks, List.forall_mem_cons.mpr ⟨Or.inr w_code_Text_letterAt, List.forall_mem_cons.mpr ⟨Or.inr w_code_Reader_readClause, List.forall_mem_cons.mpr ⟨Or.inr w_code_Line_isTold, List.forall_mem_cons.mpr ⟨Or.inr w_code_Reader_blame, List.forall_mem_cons.mpr ⟨Or.inr w_code_Reader_readStations, List.forall_mem_cons.mpr ⟨Or.inr w_code_Reader_readNumber, List.forall_mem_cons.mpr ⟨Or.inr w_code_Reader_isFigure, List.forall_mem_cons.mpr ⟨Or.inr w_code_Reader_readEnd, List.forall_mem_cons.mpr ⟨Or.inr w_code_Reader_readPerson, List.forall_mem_cons.mpr ⟨Or.inr w_code_Sp_bit, List.forall_mem_cons.mpr ⟨Or.inr w_code_Sp_withBit, List.forall_mem_cons.mpr ⟨Or.inr w_code_Line_takeFrom, List.forall_mem_cons.mpr ⟨Or.inr w_code_Scene_takeFrom, List.forall_mem_cons.mpr ⟨Or.inr w_code_Sp_fault, List.forall_mem_cons.mpr ⟨Or.inr w_code_Sp_told, fun _ h => absurd h List.not_mem_nil⟩⟩⟩⟩⟩⟩⟩⟩⟩⟩⟩⟩⟩⟩⟩⟩
theorem w_row2 : ∀ M ∈ ([M_Scene_awaited, M_Scene_shows, M_Scene_alarm, M_Scene_arrived, M_Scene_hasArrived, M_Sp_person, M_Line_hasPerson, M_Sp_station, M_Line_hasStation, M_Scene_standing, M_Scene_mostShown, M_Sp_mien, M_Deeds_note, M_Sp_feet, M_Sp_flowers, M_Sp_walk] : List am_M), am_cwd M := List.forall_mem_cons.mpr ⟨Or.inr w_code_Scene_awaited, List.forall_mem_cons.mpr ⟨Or.inr w_code_Scene_shows, List.forall_mem_cons.mpr ⟨Or.inr w_code_Scene_alarm, List.forall_mem_cons.mpr ⟨Or.inr w_code_Scene_arrived, List.forall_mem_cons.mpr ⟨Or.inr w_code_Scene_hasArrived, List.forall_mem_cons.mpr ⟨Or.inr w_code_Sp_person, List.forall_mem_cons.mpr ⟨Or.inr w_code_Line_hasPerson, List.forall_mem_cons.mpr ⟨Or.inr w_code_Sp_station, List.forall_mem_cons.mpr ⟨Or.inr w_code_Line_hasStation, List.forall_mem_cons.mpr ⟨Or.inr w_code_Scene_standing, List.forall_mem_cons.mpr ⟨Or.inr w_code_Scene_mostShown, List.forall_mem_cons.mpr ⟨Or.inr w_code_Sp_mien, List.forall_mem_cons.mpr ⟨Or.inr w_code_Deeds_note, List.forall_mem_cons.mpr ⟨Or.inr w_code_Sp_feet, List.forall_mem_cons.mpr ⟨Or.inr w_code_Sp_flowers, List.forall_mem_cons.mpr ⟨Or.inr w_code_Sp_walk, fun _ h => absurd h List.not_mem_nil⟩⟩⟩⟩⟩⟩⟩⟩⟩⟩⟩⟩⟩⟩⟩⟩
theorem w_row3 : ∀ M ∈ ([M_Sp_fog, M_Sp_train, M_Sp_trainsRefused, M_Scene_runTrain, M_Scene_stopsOfNext, M_Line_allStations, M_Scene_letOut, M_Scene_takeIn, M_Scene_emptyAtLast, M_Sp_drift, M_Sp_drawDay, M_Draws_next, M_Sp_undo, M_Deeds_takeBack, M_Sp_stops, M_Sp_calm] : List am_M), am_cwd M := List.forall_mem_cons.mpr ⟨Or.inr w_code_Sp_fog, List.forall_mem_cons.mpr ⟨Or.inr w_code_Sp_train, List.forall_mem_cons.mpr ⟨Or.inr w_code_Sp_trainsRefused, List.forall_mem_cons.mpr ⟨Or.inr w_code_Scene_runTrain, List.forall_mem_cons.mpr ⟨Or.inr w_code_Scene_stopsOfNext, List.forall_mem_cons.mpr ⟨Or.inr w_code_Line_allStations, List.forall_mem_cons.mpr ⟨Or.inr w_code_Scene_letOut, List.forall_mem_cons.mpr ⟨Or.inr w_code_Scene_takeIn, List.forall_mem_cons.mpr ⟨Or.inr w_code_Scene_emptyAtLast, List.forall_mem_cons.mpr ⟨Or.inr w_code_Sp_drift, List.forall_mem_cons.mpr ⟨Or.inr w_code_Sp_drawDay, List.forall_mem_cons.mpr ⟨Or.inr w_code_Draws_next, List.forall_mem_cons.mpr ⟨Or.inr w_code_Sp_undo, List.forall_mem_cons.mpr ⟨Or.inr w_code_Deeds_takeBack, List.forall_mem_cons.mpr ⟨Or.inr w_code_Sp_stops, List.forall_mem_cons.mpr ⟨Or.inr w_code_Sp_calm, fun _ h => absurd h List.not_mem_nil⟩⟩⟩⟩⟩⟩⟩⟩⟩⟩⟩⟩⟩⟩⟩⟩
theorem w_row4 : ∀ M ∈ ([M_Sp_journey, M_Sp_never, M_Sp_cut, M_Sp_arrivesThough, M_Sp_aunts, M_Sp_endsAt, M_Sp_chance, M_Sp_ran, M_Witness_add, M_Sp_hoped, M_Witness_find, M_Witness_tryHopeful, M_Witness_fits, M_Sp_sure, M_Line_allPersons, M_Sp_look] : List am_M), am_cwd M := List.forall_mem_cons.mpr ⟨Or.inr w_code_Sp_journey, List.forall_mem_cons.mpr ⟨Or.inr w_code_Sp_never, List.forall_mem_cons.mpr ⟨Or.inr w_code_Sp_cut, List.forall_mem_cons.mpr ⟨Or.inr w_code_Sp_arrivesThough, List.forall_mem_cons.mpr ⟨Or.inr w_code_Sp_aunts, List.forall_mem_cons.mpr ⟨Or.inr w_code_Sp_endsAt, List.forall_mem_cons.mpr ⟨Or.inr w_code_Sp_chance, List.forall_mem_cons.mpr ⟨Or.inr w_code_Sp_ran, List.forall_mem_cons.mpr ⟨Or.inr w_code_Witness_add, List.forall_mem_cons.mpr ⟨Or.inr w_code_Sp_hoped, List.forall_mem_cons.mpr ⟨Or.inr w_code_Witness_find, List.forall_mem_cons.mpr ⟨Or.inr w_code_Witness_tryHopeful, List.forall_mem_cons.mpr ⟨Or.inr w_code_Witness_fits, List.forall_mem_cons.mpr ⟨Or.inr w_code_Sp_sure, List.forall_mem_cons.mpr ⟨Or.inr w_code_Line_allPersons, List.forall_mem_cons.mpr ⟨Or.inr w_code_Sp_look, fun _ h => absurd h List.not_mem_nil⟩⟩⟩⟩⟩⟩⟩⟩⟩⟩⟩⟩⟩⟩⟩⟩
theorem w_row5 : ∀ M ∈ ([M_Witness_greatestPart, M_Sp_write, M_Book_add, M_Sp_judge, M_Book_firstWrong, M_Sp_tear, M_Sp_seed, M_Sp_keep, M_Sp_goBack, M_Mo_init, M_Mo_feed, M_Mo_in, M_Mo_line, M_Mo_skip, M_Mo_here, M_Mo_readsLine] : List am_M), am_cwd M := List.forall_mem_cons.mpr ⟨Or.inr w_code_Witness_greatestPart, List.forall_mem_cons.mpr ⟨Or.inr w_code_Sp_write, List.forall_mem_cons.mpr ⟨Or.inr w_code_Book_add, List.forall_mem_cons.mpr ⟨Or.inr w_code_Sp_judge, List.forall_mem_cons.mpr ⟨Or.inr w_code_Book_firstWrong, List.forall_mem_cons.mpr ⟨Or.inr w_code_Sp_tear, List.forall_mem_cons.mpr ⟨Or.inr w_code_Sp_seed, List.forall_mem_cons.mpr ⟨Or.inr w_code_Sp_keep, List.forall_mem_cons.mpr ⟨Or.inr w_code_Sp_goBack, List.forall_mem_cons.mpr ⟨Or.inr w_code_Mo_init, List.forall_mem_cons.mpr ⟨Or.inr w_code_Mo_feed, List.forall_mem_cons.mpr ⟨Or.inr w_code_Mo_in, List.forall_mem_cons.mpr ⟨Or.inr w_code_Mo_line, List.forall_mem_cons.mpr ⟨Or.inr w_code_Mo_skip, List.forall_mem_cons.mpr ⟨Or.inr w_code_Mo_here, List.forall_mem_cons.mpr ⟨Or.inr w_code_Mo_readsLine, fun _ h => absurd h List.not_mem_nil⟩⟩⟩⟩⟩⟩⟩⟩⟩⟩⟩⟩⟩⟩⟩⟩
theorem w_row6 : ∀ M ∈ ([M_Mo_readsFirst, M_Mo_sign, M_Mo_fails, M_Mo_number, M_Mo_readsPerson, M_Mo_readsMet, M_Mo_fault, M_Mo_told, M_Mo_awaitedSet, M_Mo_isAwaited, M_Mo_shows, M_Mo_arrivedSet, M_Mo_person, M_Mo_isPerson, M_Mo_station, M_Mo_isStation] : List am_M), am_cwd M := List.forall_mem_cons.mpr ⟨Or.inr w_code_Mo_readsFirst, List.forall_mem_cons.mpr ⟨Or.inr w_code_Mo_sign, List.forall_mem_cons.mpr ⟨Or.inr w_code_Mo_fails, List.forall_mem_cons.mpr ⟨Or.inr w_code_Mo_number, List.forall_mem_cons.mpr ⟨Or.inr w_code_Mo_readsPerson, List.forall_mem_cons.mpr ⟨Or.inr w_code_Mo_readsMet, List.forall_mem_cons.mpr ⟨Or.inr w_code_Mo_fault, List.forall_mem_cons.mpr ⟨Or.inr w_code_Mo_told, List.forall_mem_cons.mpr ⟨Or.inr w_code_Mo_awaitedSet, List.forall_mem_cons.mpr ⟨Or.inr w_code_Mo_isAwaited, List.forall_mem_cons.mpr ⟨Or.inr w_code_Mo_shows, List.forall_mem_cons.mpr ⟨Or.inr w_code_Mo_arrivedSet, List.forall_mem_cons.mpr ⟨Or.inr w_code_Mo_person, List.forall_mem_cons.mpr ⟨Or.inr w_code_Mo_isPerson, List.forall_mem_cons.mpr ⟨Or.inr w_code_Mo_station, List.forall_mem_cons.mpr ⟨Or.inr w_code_Mo_isStation, fun _ h => absurd h List.not_mem_nil⟩⟩⟩⟩⟩⟩⟩⟩⟩⟩⟩⟩⟩⟩⟩⟩
theorem w_row7 : ∀ M ∈ ([M_Mo_mien, M_Mo_notes, M_Mo_laysBy, M_Mo_feet, M_Mo_flowers, M_Mo_walk, M_Mo_fog, M_Mo_train, M_Mo_run, M_Mo_has, M_Mo_getOut, M_Mo_drift, M_Mo_drawn, M_Mo_undo, M_Mo_read, M_Mo_stops] : List am_M), am_cwd M := List.forall_mem_cons.mpr ⟨Or.inr w_code_Mo_mien, List.forall_mem_cons.mpr ⟨Or.inr w_code_Mo_notes, List.forall_mem_cons.mpr ⟨Or.inr w_code_Mo_laysBy, List.forall_mem_cons.mpr ⟨Or.inr w_code_Mo_feet, List.forall_mem_cons.mpr ⟨Or.inr w_code_Mo_flowers, List.forall_mem_cons.mpr ⟨Or.inr w_code_Mo_walk, List.forall_mem_cons.mpr ⟨Or.inr w_code_Mo_fog, List.forall_mem_cons.mpr ⟨Or.inr w_code_Mo_train, List.forall_mem_cons.mpr ⟨Or.inr w_code_Mo_run, List.forall_mem_cons.mpr ⟨Or.inr w_code_Mo_has, List.forall_mem_cons.mpr ⟨Or.inr w_code_Mo_getOut, List.forall_mem_cons.mpr ⟨Or.inr w_code_Mo_drift, List.forall_mem_cons.mpr ⟨Or.inr w_code_Mo_drawn, List.forall_mem_cons.mpr ⟨Or.inr w_code_Mo_undo, List.forall_mem_cons.mpr ⟨Or.inr w_code_Mo_read, List.forall_mem_cons.mpr ⟨Or.inr w_code_Mo_stops, fun _ h => absurd h List.not_mem_nil⟩⟩⟩⟩⟩⟩⟩⟩⟩⟩⟩⟩⟩⟩⟩⟩
theorem w_row8 : ∀ M ∈ ([M_Mo_nextStops, M_Mo_begin, M_Mo_back, M_Mo_calm, M_Mo_journey, M_Mo_never, M_Mo_cut, M_Mo_bits, M_Mo_aunts, M_Mo_chance, M_Mo_ran, M_Mo_hoped, M_Mo_setHopes, M_Mo_goesSo, M_Mo_sure, M_Mo_look] : List am_M), am_cwd M := List.forall_mem_cons.mpr ⟨Or.inr w_code_Mo_nextStops, List.forall_mem_cons.mpr ⟨Or.inr w_code_Mo_begin, List.forall_mem_cons.mpr ⟨Or.inr w_code_Mo_back, List.forall_mem_cons.mpr ⟨Or.inr w_code_Mo_calm, List.forall_mem_cons.mpr ⟨Or.inr w_code_Mo_journey, List.forall_mem_cons.mpr ⟨Or.inr w_code_Mo_never, List.forall_mem_cons.mpr ⟨Or.inr w_code_Mo_cut, List.forall_mem_cons.mpr ⟨Or.inr w_code_Mo_bits, List.forall_mem_cons.mpr ⟨Or.inr w_code_Mo_aunts, List.forall_mem_cons.mpr ⟨Or.inr w_code_Mo_chance, List.forall_mem_cons.mpr ⟨Or.inr w_code_Mo_ran, List.forall_mem_cons.mpr ⟨Or.inr w_code_Mo_hoped, List.forall_mem_cons.mpr ⟨Or.inr w_code_Mo_setHopes, List.forall_mem_cons.mpr ⟨Or.inr w_code_Mo_goesSo, List.forall_mem_cons.mpr ⟨Or.inr w_code_Mo_sure, List.forall_mem_cons.mpr ⟨Or.inr w_code_Mo_look, fun _ h => absurd h List.not_mem_nil⟩⟩⟩⟩⟩⟩⟩⟩⟩⟩⟩⟩⟩⟩⟩⟩
theorem w_row9 : ∀ M ∈ ([M_Mo_write, M_Mo_judge, M_Mo_tear, M_Mo_seed, M_Mo_keep, M_Mo_goBack, M_L_law] : List am_M), am_cwd M := List.forall_mem_cons.mpr ⟨Or.inr w_code_Mo_write, List.forall_mem_cons.mpr ⟨Or.inr w_code_Mo_judge, List.forall_mem_cons.mpr ⟨Or.inr w_code_Mo_tear, List.forall_mem_cons.mpr ⟨Or.inr w_code_Mo_seed, List.forall_mem_cons.mpr ⟨Or.inr w_code_Mo_keep, List.forall_mem_cons.mpr ⟨Or.inr w_code_Mo_goBack, List.forall_mem_cons.mpr ⟨Or.inl rfl, fun _ h => absurd h List.not_mem_nil⟩⟩⟩⟩⟩⟩⟩
theorem w_rows : ∀ r ∈ am_tabL, ∀ M ∈ r, am_cwd M := List.forall_mem_cons.mpr ⟨w_row0, List.forall_mem_cons.mpr ⟨w_row1, List.forall_mem_cons.mpr ⟨w_row2, List.forall_mem_cons.mpr ⟨w_row3, List.forall_mem_cons.mpr ⟨w_row4, List.forall_mem_cons.mpr ⟨w_row5, List.forall_mem_cons.mpr ⟨w_row6, List.forall_mem_cons.mpr ⟨w_row7, List.forall_mem_cons.mpr ⟨w_row8, List.forall_mem_cons.mpr ⟨w_row9, fun _ h => absurd h List.not_mem_nil⟩⟩⟩⟩⟩⟩⟩⟩⟩⟩
theorem am_nth_all {α : Type} {Pr : α → Prop} {d : α} (hd : Pr d) : ∀ (l : List α) (n : Nat), (∀ x ∈ l, Pr x) → Pr (am_nth d l n)
  | [], _, _ => hd
  | x :: _, 0, h => h x List.mem_cons_self
  | _ :: l, n + 1, h => am_nth_all hd l n (fun y hy => h y (List.mem_cons_of_mem _ hy))
theorem am_tab_all {Pr : am_M → Prop} (hd : Pr M_L_law) (h : ∀ r ∈ am_tabL, ∀ M ∈ r, Pr M) (k : Nat) : Pr (am_tab k) := by
  unfold am_tab am_at2
  exact am_nth_all hd _ _ (am_nth_all (Pr := fun r : List am_M => ∀ M ∈ r, Pr M) (fun M hM => absurd hM List.not_mem_nil) am_tabL _ h)
theorem w_code (k : Nat) : am_cwd (am_tab k) := am_tab_all (Or.inl rfl) w_rows k
theorem w_ini : ∀ k ∈ List.range 150, Jvm.Cond.initialized (am_tab k).1.cls ∈ am_tw := am_wall (fun k : Nat => Jvm.Cond.initialized (am_tab k).1.cls) (List.range 150) [43, 44, 45, 46, 47, 48, 49, 50, 51, 52, 43, 44, 43, 45, 46, 47, 45, 44, 45, 46, 45, 45, 45, 45, 45, 45, 43, 43, 46, 47, 43, 43, 47, 47, 47, 47, 47, 43, 46, 43, 46, 47, 47, 43, 48, 43, 43, 43, 43, 43, 43, 47, 47, 46, 47, 47, 47, 43, 43, 51, 43, 48, 43, 43, 43, 43, 43, 43, 43, 43, 43, 43, 49, 43, 49, 49, 49, 43, 46, 43, 49, 43, 50, 43, 50, 43, 43, 43, 43, 53, 53, 53, 53, 53, 53, 53, 53, 53, 53, 53, 53, 53, 53, 53, 53, 53, 53, 53, 53, 53, 53, 53, 53, 53, 53, 53, 53, 53, 53, 53, 53, 53, 53, 53, 53, 53, 53, 53, 53, 53, 53, 53, 53, 53, 53, 53, 53, 53, 53, 53, 53, 53, 53, 53, 53, 53, 53, 53, 53, 53] (by decide +kernel) (by decide +kernel)
theorem w_cls : ∀ k ∈ List.range 150, (am_tab k).1.cls = am_own (am_tab k).2.2.2.2.1 ∧ (am_tab k).1.cls ≠ "SpiteLineLaw" ∧ plainName (am_tab k).1.cls = true ∧ (am_tab k).1.cls ≠ "java/lang/invoke/MethodHandle" ∧ (am_tab k).1.cls ≠ "java/lang/invoke/VarHandle" := by decide +kernel
theorem w_im : ∀ k ∈ am_lin, Jvm.Cond.instanceMethod (am_tab k).1 ∈ am_tw := am_wall (fun k : Nat => Jvm.Cond.instanceMethod (am_tab k).1) am_lin [59, 67, 83, 89, 126, 194, 214, 239, 256, 268, 324, 329, 334, 338, 342, 346, 351, 354, 359, 362, 367, 371, 375, 382, 386, 395, 402, 407, 411, 415, 419, 424, 428, 432, 436, 440, 447, 451, 455, 459, 466, 470, 475, 480, 484, 491, 497, 502, 505, 509, 513, 519, 524, 528, 531, 536, 539, 547, 551, 555, 560, 567, 572, 576, 581, 584, 589, 593, 602, 606, 610, 614, 619, 624, 628, 632, 636, 640, 645, 649, 653, 657, 661, 665, 669, 673, 679, 790, 799, 804, 808, 812, 816, 820, 824, 828, 832, 836, 839, 843, 848, 852, 856, 860, 863, 868, 872, 877, 880, 885, 889, 892, 896, 900, 904, 909, 914, 921, 924, 929, 936, 941, 944, 949, 953, 957, 960, 964, 968, 972, 979, 983, 989, 993, 998, 1002, 1005, 1009, 1013, 1017, 1021, 1025, 1029, 1033] (by decide +kernel) (by decide +kernel)
theorem w_sm : ∀ k ∈ am_lst, Jvm.Cond.static (am_tab k).1 ∈ am_tw := am_wall (fun k : Nat => Jvm.Cond.static (am_tab k).1) am_lst [378, 389, 392, 794, 917, 976] (by decide +kernel) (by decide +kernel)
theorem w_sel : ∀ k ∈ am_lse, Jvm.Cond.selects (am_tab k).1.cls (am_tab k).1 (am_tab k).1 ∈ am_tw := am_wall (fun k : Nat => Jvm.Cond.selects (am_tab k).1.cls (am_tab k).1 (am_tab k).1) am_lse [325, 330, 335, 339, 343, 347, 0, 355, 1, 363, 2, 3, 4, 5, 6, 396, 403, 408, 412, 416, 420, 425, 429, 433, 437, 441, 448, 452, 456, 460, 467, 471, 476, 481, 485, 492, 498, 7, 506, 510, 514, 8, 9, 10, 532, 11, 540, 548, 552, 556, 561, 568, 573, 577, 12, 585, 13, 594, 603, 607, 611, 615, 14, 15, 629, 633, 637, 641, 646, 650, 654, 658, 662, 666, 670, 674, 791, 800, 16, 17, 18, 19, 20, 21, 22, 23, 24, 840, 844, 25, 26, 27, 28, 864, 29, 873, 30, 881, 31, 32, 893, 897, 901, 905, 910, 33, 34, 925, 35, 937, 36, 945, 37, 38, 39, 961, 965, 969, 973, 980, 984, 990, 994, 40, 41, 1006, 1010, 1014, 1018, 1022, 1026, 1030, 1034] (by decide +kernel) (by decide +kernel)
theorem w_lse : ∀ k ∈ am_lse, k ∈ am_lin ∧ (am_tab k).2.2.2.2.1 < 11 := by decide +kernel
end
section
/-! every step of the abstract machine is a step of the machine -/
def am_ctx (b base : Nat) (aC : FieldType → ClassId) (D : va_G) (L : Nat) (xs : Nat → Int32) (p : Program) (s : State) (m : MethodId) (args : Array Value) (meth : Method) (c : Code) (M : am_M) : Prop :=
  p.tables.exec = Jvm.exec ∧ c.code = M.2.1 ∧ c.maxLocals = M.2.2.1 ∧ meth.sig.returnType = M.2.2.2.1 ∧ s.vm.findClass (am_own M.2.2.2.2.1) = some m.cls ∧ (∀ w ∈ am_tw, w.before args s = true) ∧ meth.locks = false ∧ meth.name = M.1.name ∧
  va_K D am_cl (am_tys aC) s ∧ va_X b L xs s s.heap ∧ b < base ∧ base ≤ s.heap.size ∧ (∀ q ∈ am_mn, va_Nw (am_nww q) s) ∧ va_AO "SpiteLine$Scene" s ∧ va_AO "SpiteLine$Image" s
theorem am_nx_spec {M : am_M} {j n len : Nat} {ins : Instr} {z : Nat × Nat × Value × List (Int32 × Nat)} (hins : am_ins M j = (ins, len, z)) (h : am_nx M j n = true) : len = n ∧ am_pc M (j + 1) = am_pc M j + n := by
  unfold am_nx at h
  rw [hins] at h
  exact of_decide_eq_true h
theorem am_jp_spec {M : am_M} {j t : Nat} {off : Int} (h : am_jp M j t off = true) : (am_pc M j : Int) + off = (am_pc M t : Int) := of_decide_eq_true h
theorem am_tsc_spec {M : am_M} {j d : Nat} {x : Int32} : ∀ (offs : List Int) (lo : Int) (sw : List (Int32 × Nat)), am_tsc M j offs lo sw = true → (x.toInt < lo ∨ lo + offs.length ≤ x.toInt → am_sw x d sw = d) ∧ (lo ≤ x.toInt → x.toInt < lo + offs.length → ∃ o, offs[(x.toInt - lo).toNat]? = some o ∧ (am_pc M j : Int) + o = (am_pc M (am_sw x d sw) : Int))
  | [], lo, [], _ => ⟨fun _ => rfl, fun h1 h2 => by simp at h2; omega⟩
  | [], lo, _ :: _, h => by simp [am_tsc] at h
  | _ :: _, lo, [], h => by simp [am_tsc] at h
  | o :: os, lo, (k, t) :: l, h => by
    simp only [am_tsc, Bool.and_eq_true, decide_eq_true_eq] at h
    obtain ⟨hk, hj, hr⟩ := h
    obtain ⟨r1, r2⟩ := am_tsc_spec (d := d) (x := x) os (lo + 1) l hr
    by_cases e : x = k
    · subst e
      refine ⟨fun q => ?_, fun _ _ => ⟨o, ?_, ?_⟩⟩
      · simp only [List.length_cons] at q
        omega
      · rw [hk, Int.sub_self]
        rfl
      · simp only [am_sw, if_true]
        exact am_jp_spec hj
    · have ne : ¬ x.toInt = lo := fun q => e (Int32.toInt_inj.mp (by rw [q, hk]))
      simp only [am_sw, if_neg e, List.length_cons]
      refine ⟨fun q => r1 (by omega), fun q1 q2 => ?_⟩
      obtain ⟨o', g1, g2⟩ := r2 (by omega) (by omega)
      refine ⟨o', ?_, g2⟩
      rw [show (x.toInt - lo).toNat = (x.toInt - (lo + 1)).toNat + 1 by omega, List.getElem?_cons_succ]
      exact g1
theorem am_lsc_spec {M : am_M} {j d : Nat} {dd : Int} {x : Int32} (hd : (am_pc M j : Int) + dd = (am_pc M d : Int)) : ∀ (ps : List (Int × Int)) (sw : List (Int32 × Nat)), am_lsc M j ps sw = true → (am_pc M j : Int) + Op.lookupswitch.offset ps dd x.toInt = (am_pc M (am_sw x d sw) : Int)
  | [], [], _ => hd
  | [], _ :: _, h => by simp [am_lsc] at h
  | _ :: _, [], h => by simp [am_lsc] at h
  | (q, o) :: os, (k, t) :: l, h => by
    simp only [am_lsc, Bool.and_eq_true, decide_eq_true_eq] at h
    obtain ⟨hk, hj, hr⟩ := h
    rw [Op.lookupswitch.offset_cons]
    by_cases e : x = k
    · subst e
      rw [if_pos hk.symm]
      simp only [am_sw, if_true]
      exact am_jp_spec hj
    · have ne : ¬ q = x.toInt := fun z => e (Int32.toInt_inj.mp (by rw [hk]; exact z.symm))
      rw [if_neg ne]
      simp only [am_sw, if_neg e]
      exact am_lsc_spec hd os l hr
theorem am_up_map {b base k v : Nat} (f : Nat → Option Nat) : (fun j => (va_up f k (some v) j).map (am_ad b base)) = va_up (fun j => (f j).map (am_ad b base)) k (some (am_ad b base v)) := by
  funext j
  unfold va_up
  by_cases e : j = k
  · rw [if_pos e, if_pos e]
    rfl
  · rw [if_neg e, if_neg e]
theorem am_dfl_len (ci : Nat) : (am_dfl ci).length = am_fn ci := by simp [am_dfl, am_fn]
theorem am_cv_dv (b base : Nat) (ty : FieldType) : am_cv b base (defaultValue ty) = defaultValue ty := by cases ty <;> rfl
theorem am_dfl_at {b base ci k : Nat} (hk : k < am_fn ci) : defaultValue (am_fty ci k) = vp_V ((am_dfl ci).map (am_cv b base)) k := by
  unfold vp_V
  rw [List.getD_eq_getElem?_getD, List.getElem?_map]
  have : (am_dfl ci)[k]? = some (defaultValue (am_fty ci k)) := by
    unfold am_dfl
    rw [List.getElem?_map, List.getElem?_range (show k < (am_cl.getD ci ("", (fun _ => ("", "", "", false)), 0)).2.2 from hk)]
    rfl
  rw [this]
  exact (am_cv_dv b base _).symm
theorem am_fresh {b base : Nat} {aC : FieldType → ClassId} {D : va_G} {h : am_H} {q : Nat} {x : va_E} {H1 : Heap} (hP1 : va_P D am_cl (am_ws b base aC h ++ [(q, x)]) H1) (hD1 : va_D (am_A base) (am_ws b base aC h ++ [(q, x)])) (hz : H1.size ≤ base + h.2.1 + 1) : q = base + h.2.1 := by
  have hl : (am_ws b base aC h ++ [(q, x)])[h.2.1]? = some (q, x) := by
    rw [List.getElem?_append_right (by rw [am_ws_len]; exact Nat.le_refl _), am_ws_len, Nat.sub_self]
    rfl
  have h1 : q < H1.size := (hP1 _ _ hl).lt
  have h2 : base ≤ q := hD1.2 _ _ hl
  rcases Nat.lt_or_ge q (base + h.2.1) with g | g
  · have hk : q - base < h.2.1 := by omega
    have ha : (am_ws b base aC h ++ [(q, x)])[q - base]? = some (base + (q - base), am_cc b base aC (h.1 (q - base + 1))) := by
      rw [List.getElem?_append_left (by rw [am_ws_len]; exact hk), am_ws_at hk]
    have := hD1.1 _ _ _ _ ha hl (by show base + (q - base) = q; omega)
    omega
  · omega
section AMS
variable {b base L : Nat} {xs : Nat → Int32} {aC : FieldType → ClassId} {D : va_G}
variable {p : Program} {l : Launch} {e : Env} {R : Room} {s : State} {m : MethodId} {args : Array Value} {below : List Frame} {meth : Method} {c : Code} {H : Heap} {locs : List Loc} {cells slots : Nat} {Q : State → Prop}
theorem am_fin1 {n w k : Nat} {g g' : JFrame} (kz : W p l e R s m args below meth c H locs (cells + (n + 1 - n)) (slots + (w + k - w)) Q g) (hg : g = g') : W p l e R s m args below meth c H locs (cells + 1) (slots + k) Q g' := by
  subst hg
  rw [Nat.add_sub_cancel_left, Nat.add_sub_cancel_left] at kz
  exact kz
set_option maxHeartbeats 1000000 in
theorem ss_iload {M : am_M} {j len a bb : Nat} {v : Value} {sw : List (Int32 × Nat)} {i : Nat} {ls st : List Value} {h h' : am_H} {F' : am_F} {LS : Array Slot} (hins : am_ins M j = (.iload i, len, a, bb, v, sw)) (hdec : decode M.2.1 (am_pc M j) = .ok (.iload i, len)) (hI : am_chkI M j (.iload i, len, a, bb, v, sw) = true) (C0 : am_ctx b base aC D L xs p s m args meth c M) (hkd : am_kind (.iload i, len, a, bb, v, sw) = 0) (es : am_step (.iload i, len, a, bb, v, sw) j ls st h = some (F', h')) (X : am_st b base aC D L xs M.2.2.1 s h H locs ls LS) (hcnt : s.heap.size + cells = base + h.2.1) (hcl : cells + (h'.2.1 - h.2.1) ≤ R.cells) (hsl : slots + (h'.2.2 - h.2.2) ≤ R.slots) (hfr : M.2.2.2.2.2.1.1 ≤ R.frames) (hlo : M.2.2.2.2.2.1.2 ≤ R.locals)
    (kk : (∀ (H1 : Heap) (locs1 : List Loc) (LS1 : Array Slot), am_st b base aC D L xs M.2.2.1 s h' H1 locs1 F'.2.1 LS1 → W p l e R s m args below meth c H1 locs1 (cells + (h'.2.1 - h.2.1)) (slots + (h'.2.2 - h.2.2)) Q (F0 m (am_pc M F'.1) LS1 (F'.2.2.map (am_cv b base))))) :
    W p l e R s m args below meth c H locs cells slots Q (F0 m (am_pc M j) LS (st.map (am_cv b base))) := by
  obtain ⟨hx, hb, hml, hr, hown, hts, hlocks, hname, hK, hX, hbb, hbs, hnw, haS, haI⟩ := C0
  obtain ⟨hR, hS0, hS, hlv, hlen⟩ := id X
  simp only [am_chkI, Bool.and_eq_true, decide_eq_true_eq] at hI
  obtain ⟨hnx, rfl⟩ := hI
  obtain ⟨rfl, hn⟩ := am_nx_spec hins hnx
  simp only [am_step] at es
  split at es
  · rename_i x hx1
    cases es
    refine lv_iload hx hb hdec (am_lp_at hlv hx1 (fun q => by cases q)) ?_
    exact am_fin0 (kk H locs LS X) (congrArg (fun z => F0 m z LS _) hn)
  · cases es
set_option maxHeartbeats 1000000 in
theorem ss_iload_n {M : am_M} {j len a bb : Nat} {v : Value} {sw : List (Int32 × Nat)} {i : Fin 4} {ls st : List Value} {h h' : am_H} {F' : am_F} {LS : Array Slot} (hins : am_ins M j = (.iload_n i, len, a, bb, v, sw)) (hdec : decode M.2.1 (am_pc M j) = .ok (.iload_n i, len)) (hI : am_chkI M j (.iload_n i, len, a, bb, v, sw) = true) (C0 : am_ctx b base aC D L xs p s m args meth c M) (hkd : am_kind (.iload_n i, len, a, bb, v, sw) = 0) (es : am_step (.iload_n i, len, a, bb, v, sw) j ls st h = some (F', h')) (X : am_st b base aC D L xs M.2.2.1 s h H locs ls LS) (hcnt : s.heap.size + cells = base + h.2.1) (hcl : cells + (h'.2.1 - h.2.1) ≤ R.cells) (hsl : slots + (h'.2.2 - h.2.2) ≤ R.slots) (hfr : M.2.2.2.2.2.1.1 ≤ R.frames) (hlo : M.2.2.2.2.2.1.2 ≤ R.locals)
    (kk : (∀ (H1 : Heap) (locs1 : List Loc) (LS1 : Array Slot), am_st b base aC D L xs M.2.2.1 s h' H1 locs1 F'.2.1 LS1 → W p l e R s m args below meth c H1 locs1 (cells + (h'.2.1 - h.2.1)) (slots + (h'.2.2 - h.2.2)) Q (F0 m (am_pc M F'.1) LS1 (F'.2.2.map (am_cv b base))))) :
    W p l e R s m args below meth c H locs cells slots Q (F0 m (am_pc M j) LS (st.map (am_cv b base))) := by
  obtain ⟨hx, hb, hml, hr, hown, hts, hlocks, hname, hK, hX, hbb, hbs, hnw, haS, haI⟩ := C0
  obtain ⟨hR, hS0, hS, hlv, hlen⟩ := id X
  simp only [am_chkI, Bool.and_eq_true, decide_eq_true_eq] at hI
  obtain ⟨hnx, rfl⟩ := hI
  obtain ⟨rfl, hn⟩ := am_nx_spec hins hnx
  simp only [am_step] at es
  split at es
  · rename_i x hx1
    cases es
    refine lv_iload_n hx hb hdec rfl (am_lp_at hlv hx1 (fun q => by cases q)) ?_
    exact am_fin0 (kk H locs LS X) (congrArg (fun z => F0 m z LS _) hn)
  · cases es
set_option maxHeartbeats 1000000 in
theorem ss_aload {M : am_M} {j len a bb : Nat} {v : Value} {sw : List (Int32 × Nat)} {i : Nat} {ls st : List Value} {h h' : am_H} {F' : am_F} {LS : Array Slot} (hins : am_ins M j = (.aload i, len, a, bb, v, sw)) (hdec : decode M.2.1 (am_pc M j) = .ok (.aload i, len)) (hI : am_chkI M j (.aload i, len, a, bb, v, sw) = true) (C0 : am_ctx b base aC D L xs p s m args meth c M) (hkd : am_kind (.aload i, len, a, bb, v, sw) = 0) (es : am_step (.aload i, len, a, bb, v, sw) j ls st h = some (F', h')) (X : am_st b base aC D L xs M.2.2.1 s h H locs ls LS) (hcnt : s.heap.size + cells = base + h.2.1) (hcl : cells + (h'.2.1 - h.2.1) ≤ R.cells) (hsl : slots + (h'.2.2 - h.2.2) ≤ R.slots) (hfr : M.2.2.2.2.2.1.1 ≤ R.frames) (hlo : M.2.2.2.2.2.1.2 ≤ R.locals)
    (kk : (∀ (H1 : Heap) (locs1 : List Loc) (LS1 : Array Slot), am_st b base aC D L xs M.2.2.1 s h' H1 locs1 F'.2.1 LS1 → W p l e R s m args below meth c H1 locs1 (cells + (h'.2.1 - h.2.1)) (slots + (h'.2.2 - h.2.2)) Q (F0 m (am_pc M F'.1) LS1 (F'.2.2.map (am_cv b base))))) :
    W p l e R s m args below meth c H locs cells slots Q (F0 m (am_pc M j) LS (st.map (am_cv b base))) := by
  obtain ⟨hx, hb, hml, hr, hown, hts, hlocks, hname, hK, hX, hbb, hbs, hnw, haS, haI⟩ := C0
  obtain ⟨hR, hS0, hS, hlv, hlen⟩ := id X
  simp only [am_chkI, Bool.and_eq_true, decide_eq_true_eq] at hI
  obtain ⟨hnx, rfl⟩ := hI
  obtain ⟨rfl, hn⟩ := am_nx_spec hins hnx
  simp only [am_step] at es
  split at es
  · rename_i x hx1
    cases es
    refine lv_aload hx hb hdec (am_lp_at hlv hx1 (fun q => by cases q)) ?_
    exact am_fin0 (kk H locs LS X) (congrArg (fun z => F0 m z LS _) hn)
  · cases es
set_option maxHeartbeats 1000000 in
theorem ss_aload_n {M : am_M} {j len a bb : Nat} {v : Value} {sw : List (Int32 × Nat)} {i : Fin 4} {ls st : List Value} {h h' : am_H} {F' : am_F} {LS : Array Slot} (hins : am_ins M j = (.aload_n i, len, a, bb, v, sw)) (hdec : decode M.2.1 (am_pc M j) = .ok (.aload_n i, len)) (hI : am_chkI M j (.aload_n i, len, a, bb, v, sw) = true) (C0 : am_ctx b base aC D L xs p s m args meth c M) (hkd : am_kind (.aload_n i, len, a, bb, v, sw) = 0) (es : am_step (.aload_n i, len, a, bb, v, sw) j ls st h = some (F', h')) (X : am_st b base aC D L xs M.2.2.1 s h H locs ls LS) (hcnt : s.heap.size + cells = base + h.2.1) (hcl : cells + (h'.2.1 - h.2.1) ≤ R.cells) (hsl : slots + (h'.2.2 - h.2.2) ≤ R.slots) (hfr : M.2.2.2.2.2.1.1 ≤ R.frames) (hlo : M.2.2.2.2.2.1.2 ≤ R.locals)
    (kk : (∀ (H1 : Heap) (locs1 : List Loc) (LS1 : Array Slot), am_st b base aC D L xs M.2.2.1 s h' H1 locs1 F'.2.1 LS1 → W p l e R s m args below meth c H1 locs1 (cells + (h'.2.1 - h.2.1)) (slots + (h'.2.2 - h.2.2)) Q (F0 m (am_pc M F'.1) LS1 (F'.2.2.map (am_cv b base))))) :
    W p l e R s m args below meth c H locs cells slots Q (F0 m (am_pc M j) LS (st.map (am_cv b base))) := by
  obtain ⟨hx, hb, hml, hr, hown, hts, hlocks, hname, hK, hX, hbb, hbs, hnw, haS, haI⟩ := C0
  obtain ⟨hR, hS0, hS, hlv, hlen⟩ := id X
  simp only [am_chkI, Bool.and_eq_true, decide_eq_true_eq] at hI
  obtain ⟨hnx, rfl⟩ := hI
  obtain ⟨rfl, hn⟩ := am_nx_spec hins hnx
  simp only [am_step] at es
  split at es
  · rename_i x hx1
    cases es
    refine lv_aload_n hx hb hdec rfl (am_lp_at hlv hx1 (fun q => by cases q)) ?_
    exact am_fin0 (kk H locs LS X) (congrArg (fun z => F0 m z LS _) hn)
  · cases es
set_option maxHeartbeats 1000000 in
theorem ss_lload {M : am_M} {j len a bb : Nat} {v : Value} {sw : List (Int32 × Nat)} {i : Nat} {ls st : List Value} {h h' : am_H} {F' : am_F} {LS : Array Slot} (hins : am_ins M j = (.lload i, len, a, bb, v, sw)) (hdec : decode M.2.1 (am_pc M j) = .ok (.lload i, len)) (hI : am_chkI M j (.lload i, len, a, bb, v, sw) = true) (C0 : am_ctx b base aC D L xs p s m args meth c M) (hkd : am_kind (.lload i, len, a, bb, v, sw) = 0) (es : am_step (.lload i, len, a, bb, v, sw) j ls st h = some (F', h')) (X : am_st b base aC D L xs M.2.2.1 s h H locs ls LS) (hcnt : s.heap.size + cells = base + h.2.1) (hcl : cells + (h'.2.1 - h.2.1) ≤ R.cells) (hsl : slots + (h'.2.2 - h.2.2) ≤ R.slots) (hfr : M.2.2.2.2.2.1.1 ≤ R.frames) (hlo : M.2.2.2.2.2.1.2 ≤ R.locals)
    (kk : (∀ (H1 : Heap) (locs1 : List Loc) (LS1 : Array Slot), am_st b base aC D L xs M.2.2.1 s h' H1 locs1 F'.2.1 LS1 → W p l e R s m args below meth c H1 locs1 (cells + (h'.2.1 - h.2.1)) (slots + (h'.2.2 - h.2.2)) Q (F0 m (am_pc M F'.1) LS1 (F'.2.2.map (am_cv b base))))) :
    W p l e R s m args below meth c H locs cells slots Q (F0 m (am_pc M j) LS (st.map (am_cv b base))) := by
  obtain ⟨hx, hb, hml, hr, hown, hts, hlocks, hname, hK, hX, hbb, hbs, hnw, haS, haI⟩ := C0
  obtain ⟨hR, hS0, hS, hlv, hlen⟩ := id X
  simp only [am_chkI, Bool.and_eq_true, decide_eq_true_eq] at hI
  obtain ⟨hnx, rfl⟩ := hI
  obtain ⟨rfl, hn⟩ := am_nx_spec hins hnx
  simp only [am_step] at es
  split at es
  · rename_i x hx1
    cases es
    refine lv_lload hx hb hdec (am_lp_at hlv hx1 (fun q => by cases q)) ?_
    exact am_fin0 (kk H locs LS X) (congrArg (fun z => F0 m z LS _) hn)
  · cases es
set_option maxHeartbeats 1000000 in
theorem ss_lload_n {M : am_M} {j len a bb : Nat} {v : Value} {sw : List (Int32 × Nat)} {i : Fin 4} {ls st : List Value} {h h' : am_H} {F' : am_F} {LS : Array Slot} (hins : am_ins M j = (.lload_n i, len, a, bb, v, sw)) (hdec : decode M.2.1 (am_pc M j) = .ok (.lload_n i, len)) (hI : am_chkI M j (.lload_n i, len, a, bb, v, sw) = true) (C0 : am_ctx b base aC D L xs p s m args meth c M) (hkd : am_kind (.lload_n i, len, a, bb, v, sw) = 0) (es : am_step (.lload_n i, len, a, bb, v, sw) j ls st h = some (F', h')) (X : am_st b base aC D L xs M.2.2.1 s h H locs ls LS) (hcnt : s.heap.size + cells = base + h.2.1) (hcl : cells + (h'.2.1 - h.2.1) ≤ R.cells) (hsl : slots + (h'.2.2 - h.2.2) ≤ R.slots) (hfr : M.2.2.2.2.2.1.1 ≤ R.frames) (hlo : M.2.2.2.2.2.1.2 ≤ R.locals)
    (kk : (∀ (H1 : Heap) (locs1 : List Loc) (LS1 : Array Slot), am_st b base aC D L xs M.2.2.1 s h' H1 locs1 F'.2.1 LS1 → W p l e R s m args below meth c H1 locs1 (cells + (h'.2.1 - h.2.1)) (slots + (h'.2.2 - h.2.2)) Q (F0 m (am_pc M F'.1) LS1 (F'.2.2.map (am_cv b base))))) :
    W p l e R s m args below meth c H locs cells slots Q (F0 m (am_pc M j) LS (st.map (am_cv b base))) := by
  obtain ⟨hx, hb, hml, hr, hown, hts, hlocks, hname, hK, hX, hbb, hbs, hnw, haS, haI⟩ := C0
  obtain ⟨hR, hS0, hS, hlv, hlen⟩ := id X
  simp only [am_chkI, Bool.and_eq_true, decide_eq_true_eq] at hI
  obtain ⟨hnx, rfl⟩ := hI
  obtain ⟨rfl, hn⟩ := am_nx_spec hins hnx
  simp only [am_step] at es
  split at es
  · rename_i x hx1
    cases es
    refine lv_lload_n hx hb hdec rfl (am_lp_at hlv hx1 (fun q => by cases q)) ?_
    exact am_fin0 (kk H locs LS X) (congrArg (fun z => F0 m z LS _) hn)
  · cases es
set_option maxHeartbeats 1000000 in
theorem ss_istore {M : am_M} {j len a bb : Nat} {v : Value} {sw : List (Int32 × Nat)} {i : Nat} {ls st : List Value} {h h' : am_H} {F' : am_F} {LS : Array Slot} (hins : am_ins M j = (.istore i, len, a, bb, v, sw)) (hdec : decode M.2.1 (am_pc M j) = .ok (.istore i, len)) (hI : am_chkI M j (.istore i, len, a, bb, v, sw) = true) (C0 : am_ctx b base aC D L xs p s m args meth c M) (hkd : am_kind (.istore i, len, a, bb, v, sw) = 0) (es : am_step (.istore i, len, a, bb, v, sw) j ls st h = some (F', h')) (X : am_st b base aC D L xs M.2.2.1 s h H locs ls LS) (hcnt : s.heap.size + cells = base + h.2.1) (hcl : cells + (h'.2.1 - h.2.1) ≤ R.cells) (hsl : slots + (h'.2.2 - h.2.2) ≤ R.slots) (hfr : M.2.2.2.2.2.1.1 ≤ R.frames) (hlo : M.2.2.2.2.2.1.2 ≤ R.locals)
    (kk : (∀ (H1 : Heap) (locs1 : List Loc) (LS1 : Array Slot), am_st b base aC D L xs M.2.2.1 s h' H1 locs1 F'.2.1 LS1 → W p l e R s m args below meth c H1 locs1 (cells + (h'.2.1 - h.2.1)) (slots + (h'.2.2 - h.2.2)) Q (F0 m (am_pc M F'.1) LS1 (F'.2.2.map (am_cv b base))))) :
    W p l e R s m args below meth c H locs cells slots Q (F0 m (am_pc M j) LS (st.map (am_cv b base))) := by
  obtain ⟨hx, hb, hml, hr, hown, hts, hlocks, hname, hK, hX, hbb, hbs, hnw, haS, haI⟩ := C0
  obtain ⟨hR, hS0, hS, hlv, hlen⟩ := id X
  simp only [am_chkI, Bool.and_eq_true, decide_eq_true_eq] at hI
  obtain ⟨hnx, rfl⟩ := hI
  obtain ⟨rfl, hn⟩ := am_nx_spec hins hnx
  simp only [am_step] at es
  obtain ⟨x, r, rfl, es2⟩ := am_i1_some es
  clear es
  have es := es2
  clear es2
  unfold am_store at es
  split at es
  · rename_i hc1
    cases es
    refine lv_istore hx hb hdec hlv hc1.2 rfl (fun LS1 hl1 => ?_)
    exact am_fin0 (kk H locs LS1 ⟨hR, hS0, hS, am_lp_set1 (v := .int x) hl1 hc1.2 hc1.1, by rw [List.length_set]; exact hlen⟩) (congrArg (fun z => F0 m z LS1 _) hn)
  · cases es
set_option maxHeartbeats 1000000 in
theorem ss_istore_n {M : am_M} {j len a bb : Nat} {v : Value} {sw : List (Int32 × Nat)} {i : Fin 4} {ls st : List Value} {h h' : am_H} {F' : am_F} {LS : Array Slot} (hins : am_ins M j = (.istore_n i, len, a, bb, v, sw)) (hdec : decode M.2.1 (am_pc M j) = .ok (.istore_n i, len)) (hI : am_chkI M j (.istore_n i, len, a, bb, v, sw) = true) (C0 : am_ctx b base aC D L xs p s m args meth c M) (hkd : am_kind (.istore_n i, len, a, bb, v, sw) = 0) (es : am_step (.istore_n i, len, a, bb, v, sw) j ls st h = some (F', h')) (X : am_st b base aC D L xs M.2.2.1 s h H locs ls LS) (hcnt : s.heap.size + cells = base + h.2.1) (hcl : cells + (h'.2.1 - h.2.1) ≤ R.cells) (hsl : slots + (h'.2.2 - h.2.2) ≤ R.slots) (hfr : M.2.2.2.2.2.1.1 ≤ R.frames) (hlo : M.2.2.2.2.2.1.2 ≤ R.locals)
    (kk : (∀ (H1 : Heap) (locs1 : List Loc) (LS1 : Array Slot), am_st b base aC D L xs M.2.2.1 s h' H1 locs1 F'.2.1 LS1 → W p l e R s m args below meth c H1 locs1 (cells + (h'.2.1 - h.2.1)) (slots + (h'.2.2 - h.2.2)) Q (F0 m (am_pc M F'.1) LS1 (F'.2.2.map (am_cv b base))))) :
    W p l e R s m args below meth c H locs cells slots Q (F0 m (am_pc M j) LS (st.map (am_cv b base))) := by
  obtain ⟨hx, hb, hml, hr, hown, hts, hlocks, hname, hK, hX, hbb, hbs, hnw, haS, haI⟩ := C0
  obtain ⟨hR, hS0, hS, hlv, hlen⟩ := id X
  simp only [am_chkI, Bool.and_eq_true, decide_eq_true_eq] at hI
  obtain ⟨hnx, rfl⟩ := hI
  obtain ⟨rfl, hn⟩ := am_nx_spec hins hnx
  simp only [am_step] at es
  obtain ⟨x, r, rfl, es2⟩ := am_i1_some es
  clear es
  have es := es2
  clear es2
  unfold am_store at es
  split at es
  · rename_i hc1
    cases es
    refine lv_istore_n hx hb hdec rfl hlv hc1.2 rfl (fun LS1 hl1 => ?_)
    exact am_fin0 (kk H locs LS1 ⟨hR, hS0, hS, am_lp_set1 (v := .int x) hl1 hc1.2 hc1.1, by rw [List.length_set]; exact hlen⟩) (congrArg (fun z => F0 m z LS1 _) hn)
  · cases es
set_option maxHeartbeats 1000000 in
theorem ss_astore_n {M : am_M} {j len a bb : Nat} {v : Value} {sw : List (Int32 × Nat)} {i : Fin 4} {ls st : List Value} {h h' : am_H} {F' : am_F} {LS : Array Slot} (hins : am_ins M j = (.astore_n i, len, a, bb, v, sw)) (hdec : decode M.2.1 (am_pc M j) = .ok (.astore_n i, len)) (hI : am_chkI M j (.astore_n i, len, a, bb, v, sw) = true) (C0 : am_ctx b base aC D L xs p s m args meth c M) (hkd : am_kind (.astore_n i, len, a, bb, v, sw) = 0) (es : am_step (.astore_n i, len, a, bb, v, sw) j ls st h = some (F', h')) (X : am_st b base aC D L xs M.2.2.1 s h H locs ls LS) (hcnt : s.heap.size + cells = base + h.2.1) (hcl : cells + (h'.2.1 - h.2.1) ≤ R.cells) (hsl : slots + (h'.2.2 - h.2.2) ≤ R.slots) (hfr : M.2.2.2.2.2.1.1 ≤ R.frames) (hlo : M.2.2.2.2.2.1.2 ≤ R.locals)
    (kk : (∀ (H1 : Heap) (locs1 : List Loc) (LS1 : Array Slot), am_st b base aC D L xs M.2.2.1 s h' H1 locs1 F'.2.1 LS1 → W p l e R s m args below meth c H1 locs1 (cells + (h'.2.1 - h.2.1)) (slots + (h'.2.2 - h.2.2)) Q (F0 m (am_pc M F'.1) LS1 (F'.2.2.map (am_cv b base))))) :
    W p l e R s m args below meth c H locs cells slots Q (F0 m (am_pc M j) LS (st.map (am_cv b base))) := by
  obtain ⟨hx, hb, hml, hr, hown, hts, hlocks, hname, hK, hX, hbb, hbs, hnw, haS, haI⟩ := C0
  obtain ⟨hR, hS0, hS, hlv, hlen⟩ := id X
  simp only [am_chkI, Bool.and_eq_true, decide_eq_true_eq] at hI
  obtain ⟨hnx, rfl⟩ := hI
  obtain ⟨rfl, hn⟩ := am_nx_spec hins hnx
  simp only [am_step] at es
  obtain ⟨x, r, rfl, es2⟩ := am_r1_some es
  clear es
  have es := es2
  clear es2
  unfold am_store at es
  split at es
  · rename_i hc1
    cases es
    refine lv_astore_n hx hb hdec rfl hlv hc1.2 rfl (fun LS1 hl1 => ?_)
    exact am_fin0 (kk H locs LS1 ⟨hR, hS0, hS, am_lp_set1 (v := .ref x) hl1 hc1.2 hc1.1, by rw [List.length_set]; exact hlen⟩) (congrArg (fun z => F0 m z LS1 _) hn)
  · cases es
set_option maxHeartbeats 1000000 in
theorem ss_lstore_n {M : am_M} {j len a bb : Nat} {v : Value} {sw : List (Int32 × Nat)} {i : Fin 4} {ls st : List Value} {h h' : am_H} {F' : am_F} {LS : Array Slot} (hins : am_ins M j = (.lstore_n i, len, a, bb, v, sw)) (hdec : decode M.2.1 (am_pc M j) = .ok (.lstore_n i, len)) (hI : am_chkI M j (.lstore_n i, len, a, bb, v, sw) = true) (C0 : am_ctx b base aC D L xs p s m args meth c M) (hkd : am_kind (.lstore_n i, len, a, bb, v, sw) = 0) (es : am_step (.lstore_n i, len, a, bb, v, sw) j ls st h = some (F', h')) (X : am_st b base aC D L xs M.2.2.1 s h H locs ls LS) (hcnt : s.heap.size + cells = base + h.2.1) (hcl : cells + (h'.2.1 - h.2.1) ≤ R.cells) (hsl : slots + (h'.2.2 - h.2.2) ≤ R.slots) (hfr : M.2.2.2.2.2.1.1 ≤ R.frames) (hlo : M.2.2.2.2.2.1.2 ≤ R.locals)
    (kk : (∀ (H1 : Heap) (locs1 : List Loc) (LS1 : Array Slot), am_st b base aC D L xs M.2.2.1 s h' H1 locs1 F'.2.1 LS1 → W p l e R s m args below meth c H1 locs1 (cells + (h'.2.1 - h.2.1)) (slots + (h'.2.2 - h.2.2)) Q (F0 m (am_pc M F'.1) LS1 (F'.2.2.map (am_cv b base))))) :
    W p l e R s m args below meth c H locs cells slots Q (F0 m (am_pc M j) LS (st.map (am_cv b base))) := by
  obtain ⟨hx, hb, hml, hr, hown, hts, hlocks, hname, hK, hX, hbb, hbs, hnw, haS, haI⟩ := C0
  obtain ⟨hR, hS0, hS, hlv, hlen⟩ := id X
  simp only [am_chkI, Bool.and_eq_true, decide_eq_true_eq] at hI
  obtain ⟨hnx, rfl⟩ := hI
  obtain ⟨rfl, hn⟩ := am_nx_spec hins hnx
  simp only [am_step] at es
  obtain ⟨x, r, rfl, es2⟩ := am_l1_some es
  clear es
  have es := es2
  clear es2
  split at es
  · rename_i hc1
    cases es
    refine lv_lstore_n hx hb hdec rfl hlv hc1.2 rfl (fun LS1 hl1 => ?_)
    exact am_fin0 (kk H locs LS1 ⟨hR, hS0, hS, am_lp_set2 (v := .long x) hl1 hc1.2 hc1.1, by rw [List.length_set, List.length_set]; exact hlen⟩) (congrArg (fun z => F0 m z LS1 _) hn)
  · cases es
set_option maxHeartbeats 1000000 in
theorem ss_lstore {M : am_M} {j len a bb : Nat} {v : Value} {sw : List (Int32 × Nat)} {i : Nat} {ls st : List Value} {h h' : am_H} {F' : am_F} {LS : Array Slot} (hins : am_ins M j = (.lstore i, len, a, bb, v, sw)) (hdec : decode M.2.1 (am_pc M j) = .ok (.lstore i, len)) (hI : am_chkI M j (.lstore i, len, a, bb, v, sw) = true) (C0 : am_ctx b base aC D L xs p s m args meth c M) (hkd : am_kind (.lstore i, len, a, bb, v, sw) = 0) (es : am_step (.lstore i, len, a, bb, v, sw) j ls st h = some (F', h')) (X : am_st b base aC D L xs M.2.2.1 s h H locs ls LS) (hcnt : s.heap.size + cells = base + h.2.1) (hcl : cells + (h'.2.1 - h.2.1) ≤ R.cells) (hsl : slots + (h'.2.2 - h.2.2) ≤ R.slots) (hfr : M.2.2.2.2.2.1.1 ≤ R.frames) (hlo : M.2.2.2.2.2.1.2 ≤ R.locals)
    (kk : (∀ (H1 : Heap) (locs1 : List Loc) (LS1 : Array Slot), am_st b base aC D L xs M.2.2.1 s h' H1 locs1 F'.2.1 LS1 → W p l e R s m args below meth c H1 locs1 (cells + (h'.2.1 - h.2.1)) (slots + (h'.2.2 - h.2.2)) Q (F0 m (am_pc M F'.1) LS1 (F'.2.2.map (am_cv b base))))) :
    W p l e R s m args below meth c H locs cells slots Q (F0 m (am_pc M j) LS (st.map (am_cv b base))) := by
  obtain ⟨hx, hb, hml, hr, hown, hts, hlocks, hname, hK, hX, hbb, hbs, hnw, haS, haI⟩ := C0
  obtain ⟨hR, hS0, hS, hlv, hlen⟩ := id X
  simp only [am_chkI, Bool.and_eq_true, decide_eq_true_eq] at hI
  obtain ⟨hnx, rfl⟩ := hI
  obtain ⟨rfl, hn⟩ := am_nx_spec hins hnx
  simp only [am_step] at es
  obtain ⟨x, r, rfl, es2⟩ := am_l1_some es
  clear es
  have es := es2
  clear es2
  split at es
  · rename_i hc1
    cases es
    refine lv_lstore hx hb hdec hlv hc1.2 rfl (fun LS1 hl1 => ?_)
    exact am_fin0 (kk H locs LS1 ⟨hR, hS0, hS, am_lp_set2 (v := .long x) hl1 hc1.2 hc1.1, by rw [List.length_set, List.length_set]; exact hlen⟩) (congrArg (fun z => F0 m z LS1 _) hn)
  · cases es
set_option maxHeartbeats 1000000 in
theorem ss_iinc {M : am_M} {j len a bb : Nat} {v : Value} {sw : List (Int32 × Nat)} {i : Nat} {n : Int} {ls st : List Value} {h h' : am_H} {F' : am_F} {LS : Array Slot} (hins : am_ins M j = (.iinc i n, len, a, bb, v, sw)) (hdec : decode M.2.1 (am_pc M j) = .ok (.iinc i n, len)) (hI : am_chkI M j (.iinc i n, len, a, bb, v, sw) = true) (C0 : am_ctx b base aC D L xs p s m args meth c M) (hkd : am_kind (.iinc i n, len, a, bb, v, sw) = 0) (es : am_step (.iinc i n, len, a, bb, v, sw) j ls st h = some (F', h')) (X : am_st b base aC D L xs M.2.2.1 s h H locs ls LS) (hcnt : s.heap.size + cells = base + h.2.1) (hcl : cells + (h'.2.1 - h.2.1) ≤ R.cells) (hsl : slots + (h'.2.2 - h.2.2) ≤ R.slots) (hfr : M.2.2.2.2.2.1.1 ≤ R.frames) (hlo : M.2.2.2.2.2.1.2 ≤ R.locals)
    (kk : (∀ (H1 : Heap) (locs1 : List Loc) (LS1 : Array Slot), am_st b base aC D L xs M.2.2.1 s h' H1 locs1 F'.2.1 LS1 → W p l e R s m args below meth c H1 locs1 (cells + (h'.2.1 - h.2.1)) (slots + (h'.2.2 - h.2.2)) Q (F0 m (am_pc M F'.1) LS1 (F'.2.2.map (am_cv b base))))) :
    W p l e R s m args below meth c H locs cells slots Q (F0 m (am_pc M j) LS (st.map (am_cv b base))) := by
  obtain ⟨hx, hb, hml, hr, hown, hts, hlocks, hname, hK, hX, hbb, hbs, hnw, haS, haI⟩ := C0
  obtain ⟨hR, hS0, hS, hlv, hlen⟩ := id X
  simp only [am_chkI, Bool.and_eq_true, decide_eq_true_eq] at hI
  obtain ⟨hnx, rfl, rfl⟩ := hI
  obtain ⟨rfl, hn⟩ := am_nx_spec hins hnx
  simp only [am_step] at es
  split at es
  · rename_i x cc hx1 hx2
    cases hx2
    unfold am_store at es
    split at es
    · rename_i hc1
      cases es
      obtain ⟨k, hk⟩ := List.getElem?_of_mem ((am_lp_mem (b := b) (base := base) (ls := ls) (q := (a, .int x))).mpr ⟨hc1.2, by rw [hx1]; exact fun q => Value.noConfusion q, by rw [hx1]; rfl⟩)
      refine lv_iinc hx hb hdec hlv hk rfl hc1.2 rfl (fun LS1 hl1 => ?_)
      exact am_fin0 (kk H locs LS1 ⟨hR, hS0, hS, am_lp_set1 (v := .int (x + Int32.ofInt n)) hl1 hc1.2 hc1.1, by rw [List.length_set]; exact hlen⟩) (congrArg (fun z => F0 m z LS1 _) hn)
    · cases es
  · cases es
set_option maxHeartbeats 1000000 in
theorem ss_iconst {M : am_M} {j len a bb : Nat} {v : Value} {sw : List (Int32 × Nat)} {n : Int} {ls st : List Value} {h h' : am_H} {F' : am_F} {LS : Array Slot} (hins : am_ins M j = (.iconst n, len, a, bb, v, sw)) (hdec : decode M.2.1 (am_pc M j) = .ok (.iconst n, len)) (hI : am_chkI M j (.iconst n, len, a, bb, v, sw) = true) (C0 : am_ctx b base aC D L xs p s m args meth c M) (hkd : am_kind (.iconst n, len, a, bb, v, sw) = 0) (es : am_step (.iconst n, len, a, bb, v, sw) j ls st h = some (F', h')) (X : am_st b base aC D L xs M.2.2.1 s h H locs ls LS) (hcnt : s.heap.size + cells = base + h.2.1) (hcl : cells + (h'.2.1 - h.2.1) ≤ R.cells) (hsl : slots + (h'.2.2 - h.2.2) ≤ R.slots) (hfr : M.2.2.2.2.2.1.1 ≤ R.frames) (hlo : M.2.2.2.2.2.1.2 ≤ R.locals)
    (kk : (∀ (H1 : Heap) (locs1 : List Loc) (LS1 : Array Slot), am_st b base aC D L xs M.2.2.1 s h' H1 locs1 F'.2.1 LS1 → W p l e R s m args below meth c H1 locs1 (cells + (h'.2.1 - h.2.1)) (slots + (h'.2.2 - h.2.2)) Q (F0 m (am_pc M F'.1) LS1 (F'.2.2.map (am_cv b base))))) :
    W p l e R s m args below meth c H locs cells slots Q (F0 m (am_pc M j) LS (st.map (am_cv b base))) := by
  obtain ⟨hx, hb, hml, hr, hown, hts, hlocks, hname, hK, hX, hbb, hbs, hnw, haS, haI⟩ := C0
  obtain ⟨hR, hS0, hS, hlv, hlen⟩ := id X
  simp only [am_chkI, Bool.and_eq_true, decide_eq_true_eq] at hI
  obtain ⟨hnx, rfl⟩ := hI
  obtain ⟨rfl, hn⟩ := am_nx_spec hins hnx
  cases es
  refine lv_iconst hx hb hdec rfl ?_
  exact am_fin0 (kk H locs LS X) (congrArg (fun z => F0 m z LS _) hn)
set_option maxHeartbeats 1000000 in
theorem ss_bipush {M : am_M} {j len a bb : Nat} {v : Value} {sw : List (Int32 × Nat)} {n : Int} {ls st : List Value} {h h' : am_H} {F' : am_F} {LS : Array Slot} (hins : am_ins M j = (.bipush n, len, a, bb, v, sw)) (hdec : decode M.2.1 (am_pc M j) = .ok (.bipush n, len)) (hI : am_chkI M j (.bipush n, len, a, bb, v, sw) = true) (C0 : am_ctx b base aC D L xs p s m args meth c M) (hkd : am_kind (.bipush n, len, a, bb, v, sw) = 0) (es : am_step (.bipush n, len, a, bb, v, sw) j ls st h = some (F', h')) (X : am_st b base aC D L xs M.2.2.1 s h H locs ls LS) (hcnt : s.heap.size + cells = base + h.2.1) (hcl : cells + (h'.2.1 - h.2.1) ≤ R.cells) (hsl : slots + (h'.2.2 - h.2.2) ≤ R.slots) (hfr : M.2.2.2.2.2.1.1 ≤ R.frames) (hlo : M.2.2.2.2.2.1.2 ≤ R.locals)
    (kk : (∀ (H1 : Heap) (locs1 : List Loc) (LS1 : Array Slot), am_st b base aC D L xs M.2.2.1 s h' H1 locs1 F'.2.1 LS1 → W p l e R s m args below meth c H1 locs1 (cells + (h'.2.1 - h.2.1)) (slots + (h'.2.2 - h.2.2)) Q (F0 m (am_pc M F'.1) LS1 (F'.2.2.map (am_cv b base))))) :
    W p l e R s m args below meth c H locs cells slots Q (F0 m (am_pc M j) LS (st.map (am_cv b base))) := by
  obtain ⟨hx, hb, hml, hr, hown, hts, hlocks, hname, hK, hX, hbb, hbs, hnw, haS, haI⟩ := C0
  obtain ⟨hR, hS0, hS, hlv, hlen⟩ := id X
  simp only [am_chkI, Bool.and_eq_true, decide_eq_true_eq] at hI
  obtain ⟨hnx, rfl⟩ := hI
  obtain ⟨rfl, hn⟩ := am_nx_spec hins hnx
  cases es
  refine lv_bipush hx hb hdec rfl ?_
  exact am_fin0 (kk H locs LS X) (congrArg (fun z => F0 m z LS _) hn)
set_option maxHeartbeats 1000000 in
theorem ss_sipush {M : am_M} {j len a bb : Nat} {v : Value} {sw : List (Int32 × Nat)} {n : Int} {ls st : List Value} {h h' : am_H} {F' : am_F} {LS : Array Slot} (hins : am_ins M j = (.sipush n, len, a, bb, v, sw)) (hdec : decode M.2.1 (am_pc M j) = .ok (.sipush n, len)) (hI : am_chkI M j (.sipush n, len, a, bb, v, sw) = true) (C0 : am_ctx b base aC D L xs p s m args meth c M) (hkd : am_kind (.sipush n, len, a, bb, v, sw) = 0) (es : am_step (.sipush n, len, a, bb, v, sw) j ls st h = some (F', h')) (X : am_st b base aC D L xs M.2.2.1 s h H locs ls LS) (hcnt : s.heap.size + cells = base + h.2.1) (hcl : cells + (h'.2.1 - h.2.1) ≤ R.cells) (hsl : slots + (h'.2.2 - h.2.2) ≤ R.slots) (hfr : M.2.2.2.2.2.1.1 ≤ R.frames) (hlo : M.2.2.2.2.2.1.2 ≤ R.locals)
    (kk : (∀ (H1 : Heap) (locs1 : List Loc) (LS1 : Array Slot), am_st b base aC D L xs M.2.2.1 s h' H1 locs1 F'.2.1 LS1 → W p l e R s m args below meth c H1 locs1 (cells + (h'.2.1 - h.2.1)) (slots + (h'.2.2 - h.2.2)) Q (F0 m (am_pc M F'.1) LS1 (F'.2.2.map (am_cv b base))))) :
    W p l e R s m args below meth c H locs cells slots Q (F0 m (am_pc M j) LS (st.map (am_cv b base))) := by
  obtain ⟨hx, hb, hml, hr, hown, hts, hlocks, hname, hK, hX, hbb, hbs, hnw, haS, haI⟩ := C0
  obtain ⟨hR, hS0, hS, hlv, hlen⟩ := id X
  simp only [am_chkI, Bool.and_eq_true, decide_eq_true_eq] at hI
  obtain ⟨hnx, rfl⟩ := hI
  obtain ⟨rfl, hn⟩ := am_nx_spec hins hnx
  cases es
  refine lv_sipush hx hb hdec rfl ?_
  exact am_fin0 (kk H locs LS X) (congrArg (fun z => F0 m z LS _) hn)
set_option maxHeartbeats 1000000 in
theorem ss_ldc {M : am_M} {j len a bb : Nat} {v : Value} {sw : List (Int32 × Nat)} {n : Nat} {ls st : List Value} {h h' : am_H} {F' : am_F} {LS : Array Slot} (hins : am_ins M j = (.ldc n, len, a, bb, v, sw)) (hdec : decode M.2.1 (am_pc M j) = .ok (.ldc n, len)) (hI : am_chkI M j (.ldc n, len, a, bb, v, sw) = true) (C0 : am_ctx b base aC D L xs p s m args meth c M) (hkd : am_kind (.ldc n, len, a, bb, v, sw) = 0) (es : am_step (.ldc n, len, a, bb, v, sw) j ls st h = some (F', h')) (X : am_st b base aC D L xs M.2.2.1 s h H locs ls LS) (hcnt : s.heap.size + cells = base + h.2.1) (hcl : cells + (h'.2.1 - h.2.1) ≤ R.cells) (hsl : slots + (h'.2.2 - h.2.2) ≤ R.slots) (hfr : M.2.2.2.2.2.1.1 ≤ R.frames) (hlo : M.2.2.2.2.2.1.2 ≤ R.locals)
    (kk : (∀ (H1 : Heap) (locs1 : List Loc) (LS1 : Array Slot), am_st b base aC D L xs M.2.2.1 s h' H1 locs1 F'.2.1 LS1 → W p l e R s m args below meth c H1 locs1 (cells + (h'.2.1 - h.2.1)) (slots + (h'.2.2 - h.2.2)) Q (F0 m (am_pc M F'.1) LS1 (F'.2.2.map (am_cv b base))))) :
    W p l e R s m args below meth c H locs cells slots Q (F0 m (am_pc M j) LS (st.map (am_cv b base))) := by
  obtain ⟨hx, hb, hml, hr, hown, hts, hlocks, hname, hK, hX, hbb, hbs, hnw, haS, haI⟩ := C0
  obtain ⟨hR, hS0, hS, hlv, hlen⟩ := id X
  simp only [am_chkI, Bool.and_eq_true] at hI
  obtain ⟨hnx, hw⟩ := hI
  obtain ⟨rfl, hn⟩ := am_nx_spec hins hnx
  split at hw
  · rename_i x hx1
    cases es
    refine lv_ldc hx hb hown (hts _ (w_ki _ (of_decide_eq_true hw))) hdec ?_
    exact am_fin0 (kk H locs LS X) (congrArg (fun z => F0 m z LS _) hn)
  · cases hw
set_option maxHeartbeats 1000000 in
theorem ss_ldc2_w {M : am_M} {j len a bb : Nat} {v : Value} {sw : List (Int32 × Nat)} {n : Nat} {ls st : List Value} {h h' : am_H} {F' : am_F} {LS : Array Slot} (hins : am_ins M j = (.ldc2_w n, len, a, bb, v, sw)) (hdec : decode M.2.1 (am_pc M j) = .ok (.ldc2_w n, len)) (hI : am_chkI M j (.ldc2_w n, len, a, bb, v, sw) = true) (C0 : am_ctx b base aC D L xs p s m args meth c M) (hkd : am_kind (.ldc2_w n, len, a, bb, v, sw) = 0) (es : am_step (.ldc2_w n, len, a, bb, v, sw) j ls st h = some (F', h')) (X : am_st b base aC D L xs M.2.2.1 s h H locs ls LS) (hcnt : s.heap.size + cells = base + h.2.1) (hcl : cells + (h'.2.1 - h.2.1) ≤ R.cells) (hsl : slots + (h'.2.2 - h.2.2) ≤ R.slots) (hfr : M.2.2.2.2.2.1.1 ≤ R.frames) (hlo : M.2.2.2.2.2.1.2 ≤ R.locals)
    (kk : (∀ (H1 : Heap) (locs1 : List Loc) (LS1 : Array Slot), am_st b base aC D L xs M.2.2.1 s h' H1 locs1 F'.2.1 LS1 → W p l e R s m args below meth c H1 locs1 (cells + (h'.2.1 - h.2.1)) (slots + (h'.2.2 - h.2.2)) Q (F0 m (am_pc M F'.1) LS1 (F'.2.2.map (am_cv b base))))) :
    W p l e R s m args below meth c H locs cells slots Q (F0 m (am_pc M j) LS (st.map (am_cv b base))) := by
  obtain ⟨hx, hb, hml, hr, hown, hts, hlocks, hname, hK, hX, hbb, hbs, hnw, haS, haI⟩ := C0
  obtain ⟨hR, hS0, hS, hlv, hlen⟩ := id X
  simp only [am_chkI, Bool.and_eq_true] at hI
  obtain ⟨hnx, hw⟩ := hI
  obtain ⟨rfl, hn⟩ := am_nx_spec hins hnx
  split at hw
  · rename_i x hx1
    cases es
    refine lv_ldc2 hx hb hown (hts _ (w_kl _ (of_decide_eq_true hw))) hdec ?_
    exact am_fin0 (kk H locs LS X) (congrArg (fun z => F0 m z LS _) hn)
  · cases hw
set_option maxHeartbeats 1000000 in
theorem ss_iadd {M : am_M} {j len a bb : Nat} {v : Value} {sw : List (Int32 × Nat)} {ls st : List Value} {h h' : am_H} {F' : am_F} {LS : Array Slot} (hins : am_ins M j = (.iadd, len, a, bb, v, sw)) (hdec : decode M.2.1 (am_pc M j) = .ok (.iadd, len)) (hI : am_chkI M j (.iadd, len, a, bb, v, sw) = true) (C0 : am_ctx b base aC D L xs p s m args meth c M) (hkd : am_kind (.iadd, len, a, bb, v, sw) = 0) (es : am_step (.iadd, len, a, bb, v, sw) j ls st h = some (F', h')) (X : am_st b base aC D L xs M.2.2.1 s h H locs ls LS) (hcnt : s.heap.size + cells = base + h.2.1) (hcl : cells + (h'.2.1 - h.2.1) ≤ R.cells) (hsl : slots + (h'.2.2 - h.2.2) ≤ R.slots) (hfr : M.2.2.2.2.2.1.1 ≤ R.frames) (hlo : M.2.2.2.2.2.1.2 ≤ R.locals)
    (kk : (∀ (H1 : Heap) (locs1 : List Loc) (LS1 : Array Slot), am_st b base aC D L xs M.2.2.1 s h' H1 locs1 F'.2.1 LS1 → W p l e R s m args below meth c H1 locs1 (cells + (h'.2.1 - h.2.1)) (slots + (h'.2.2 - h.2.2)) Q (F0 m (am_pc M F'.1) LS1 (F'.2.2.map (am_cv b base))))) :
    W p l e R s m args below meth c H locs cells slots Q (F0 m (am_pc M j) LS (st.map (am_cv b base))) := by
  obtain ⟨hx, hb, hml, hr, hown, hts, hlocks, hname, hK, hX, hbb, hbs, hnw, haS, haI⟩ := C0
  obtain ⟨hR, hS0, hS, hlv, hlen⟩ := id X
  obtain ⟨rfl, hn⟩ := am_nx_spec hins (show am_nx M j 1 = true from hI)
  obtain ⟨x, y, r, rfl, es2⟩ := am_i2_some es
  clear es
  have es := es2
  clear es2
  cases es
  refine lv_iadd hx hb hdec ?_
  exact am_fin0 (kk H locs LS X) (congrArg (fun z => F0 m z LS _) hn)
set_option maxHeartbeats 1000000 in
theorem ss_isub {M : am_M} {j len a bb : Nat} {v : Value} {sw : List (Int32 × Nat)} {ls st : List Value} {h h' : am_H} {F' : am_F} {LS : Array Slot} (hins : am_ins M j = (.isub, len, a, bb, v, sw)) (hdec : decode M.2.1 (am_pc M j) = .ok (.isub, len)) (hI : am_chkI M j (.isub, len, a, bb, v, sw) = true) (C0 : am_ctx b base aC D L xs p s m args meth c M) (hkd : am_kind (.isub, len, a, bb, v, sw) = 0) (es : am_step (.isub, len, a, bb, v, sw) j ls st h = some (F', h')) (X : am_st b base aC D L xs M.2.2.1 s h H locs ls LS) (hcnt : s.heap.size + cells = base + h.2.1) (hcl : cells + (h'.2.1 - h.2.1) ≤ R.cells) (hsl : slots + (h'.2.2 - h.2.2) ≤ R.slots) (hfr : M.2.2.2.2.2.1.1 ≤ R.frames) (hlo : M.2.2.2.2.2.1.2 ≤ R.locals)
    (kk : (∀ (H1 : Heap) (locs1 : List Loc) (LS1 : Array Slot), am_st b base aC D L xs M.2.2.1 s h' H1 locs1 F'.2.1 LS1 → W p l e R s m args below meth c H1 locs1 (cells + (h'.2.1 - h.2.1)) (slots + (h'.2.2 - h.2.2)) Q (F0 m (am_pc M F'.1) LS1 (F'.2.2.map (am_cv b base))))) :
    W p l e R s m args below meth c H locs cells slots Q (F0 m (am_pc M j) LS (st.map (am_cv b base))) := by
  obtain ⟨hx, hb, hml, hr, hown, hts, hlocks, hname, hK, hX, hbb, hbs, hnw, haS, haI⟩ := C0
  obtain ⟨hR, hS0, hS, hlv, hlen⟩ := id X
  obtain ⟨rfl, hn⟩ := am_nx_spec hins (show am_nx M j 1 = true from hI)
  obtain ⟨x, y, r, rfl, es2⟩ := am_i2_some es
  clear es
  have es := es2
  clear es2
  cases es
  refine lv_isub hx hb hdec ?_
  exact am_fin0 (kk H locs LS X) (congrArg (fun z => F0 m z LS _) hn)
set_option maxHeartbeats 1000000 in
theorem ss_imul {M : am_M} {j len a bb : Nat} {v : Value} {sw : List (Int32 × Nat)} {ls st : List Value} {h h' : am_H} {F' : am_F} {LS : Array Slot} (hins : am_ins M j = (.imul, len, a, bb, v, sw)) (hdec : decode M.2.1 (am_pc M j) = .ok (.imul, len)) (hI : am_chkI M j (.imul, len, a, bb, v, sw) = true) (C0 : am_ctx b base aC D L xs p s m args meth c M) (hkd : am_kind (.imul, len, a, bb, v, sw) = 0) (es : am_step (.imul, len, a, bb, v, sw) j ls st h = some (F', h')) (X : am_st b base aC D L xs M.2.2.1 s h H locs ls LS) (hcnt : s.heap.size + cells = base + h.2.1) (hcl : cells + (h'.2.1 - h.2.1) ≤ R.cells) (hsl : slots + (h'.2.2 - h.2.2) ≤ R.slots) (hfr : M.2.2.2.2.2.1.1 ≤ R.frames) (hlo : M.2.2.2.2.2.1.2 ≤ R.locals)
    (kk : (∀ (H1 : Heap) (locs1 : List Loc) (LS1 : Array Slot), am_st b base aC D L xs M.2.2.1 s h' H1 locs1 F'.2.1 LS1 → W p l e R s m args below meth c H1 locs1 (cells + (h'.2.1 - h.2.1)) (slots + (h'.2.2 - h.2.2)) Q (F0 m (am_pc M F'.1) LS1 (F'.2.2.map (am_cv b base))))) :
    W p l e R s m args below meth c H locs cells slots Q (F0 m (am_pc M j) LS (st.map (am_cv b base))) := by
  obtain ⟨hx, hb, hml, hr, hown, hts, hlocks, hname, hK, hX, hbb, hbs, hnw, haS, haI⟩ := C0
  obtain ⟨hR, hS0, hS, hlv, hlen⟩ := id X
  obtain ⟨rfl, hn⟩ := am_nx_spec hins (show am_nx M j 1 = true from hI)
  obtain ⟨x, y, r, rfl, es2⟩ := am_i2_some es
  clear es
  have es := es2
  clear es2
  cases es
  refine lv_imul hx hb hdec ?_
  exact am_fin0 (kk H locs LS X) (congrArg (fun z => F0 m z LS _) hn)
set_option maxHeartbeats 1000000 in
theorem ss_iand {M : am_M} {j len a bb : Nat} {v : Value} {sw : List (Int32 × Nat)} {ls st : List Value} {h h' : am_H} {F' : am_F} {LS : Array Slot} (hins : am_ins M j = (.iand, len, a, bb, v, sw)) (hdec : decode M.2.1 (am_pc M j) = .ok (.iand, len)) (hI : am_chkI M j (.iand, len, a, bb, v, sw) = true) (C0 : am_ctx b base aC D L xs p s m args meth c M) (hkd : am_kind (.iand, len, a, bb, v, sw) = 0) (es : am_step (.iand, len, a, bb, v, sw) j ls st h = some (F', h')) (X : am_st b base aC D L xs M.2.2.1 s h H locs ls LS) (hcnt : s.heap.size + cells = base + h.2.1) (hcl : cells + (h'.2.1 - h.2.1) ≤ R.cells) (hsl : slots + (h'.2.2 - h.2.2) ≤ R.slots) (hfr : M.2.2.2.2.2.1.1 ≤ R.frames) (hlo : M.2.2.2.2.2.1.2 ≤ R.locals)
    (kk : (∀ (H1 : Heap) (locs1 : List Loc) (LS1 : Array Slot), am_st b base aC D L xs M.2.2.1 s h' H1 locs1 F'.2.1 LS1 → W p l e R s m args below meth c H1 locs1 (cells + (h'.2.1 - h.2.1)) (slots + (h'.2.2 - h.2.2)) Q (F0 m (am_pc M F'.1) LS1 (F'.2.2.map (am_cv b base))))) :
    W p l e R s m args below meth c H locs cells slots Q (F0 m (am_pc M j) LS (st.map (am_cv b base))) := by
  obtain ⟨hx, hb, hml, hr, hown, hts, hlocks, hname, hK, hX, hbb, hbs, hnw, haS, haI⟩ := C0
  obtain ⟨hR, hS0, hS, hlv, hlen⟩ := id X
  obtain ⟨rfl, hn⟩ := am_nx_spec hins (show am_nx M j 1 = true from hI)
  obtain ⟨x, y, r, rfl, es2⟩ := am_i2_some es
  clear es
  have es := es2
  clear es2
  cases es
  refine lv_iand hx hb hdec ?_
  exact am_fin0 (kk H locs LS X) (congrArg (fun z => F0 m z LS _) hn)
set_option maxHeartbeats 1000000 in
theorem ss_ior {M : am_M} {j len a bb : Nat} {v : Value} {sw : List (Int32 × Nat)} {ls st : List Value} {h h' : am_H} {F' : am_F} {LS : Array Slot} (hins : am_ins M j = (.ior, len, a, bb, v, sw)) (hdec : decode M.2.1 (am_pc M j) = .ok (.ior, len)) (hI : am_chkI M j (.ior, len, a, bb, v, sw) = true) (C0 : am_ctx b base aC D L xs p s m args meth c M) (hkd : am_kind (.ior, len, a, bb, v, sw) = 0) (es : am_step (.ior, len, a, bb, v, sw) j ls st h = some (F', h')) (X : am_st b base aC D L xs M.2.2.1 s h H locs ls LS) (hcnt : s.heap.size + cells = base + h.2.1) (hcl : cells + (h'.2.1 - h.2.1) ≤ R.cells) (hsl : slots + (h'.2.2 - h.2.2) ≤ R.slots) (hfr : M.2.2.2.2.2.1.1 ≤ R.frames) (hlo : M.2.2.2.2.2.1.2 ≤ R.locals)
    (kk : (∀ (H1 : Heap) (locs1 : List Loc) (LS1 : Array Slot), am_st b base aC D L xs M.2.2.1 s h' H1 locs1 F'.2.1 LS1 → W p l e R s m args below meth c H1 locs1 (cells + (h'.2.1 - h.2.1)) (slots + (h'.2.2 - h.2.2)) Q (F0 m (am_pc M F'.1) LS1 (F'.2.2.map (am_cv b base))))) :
    W p l e R s m args below meth c H locs cells slots Q (F0 m (am_pc M j) LS (st.map (am_cv b base))) := by
  obtain ⟨hx, hb, hml, hr, hown, hts, hlocks, hname, hK, hX, hbb, hbs, hnw, haS, haI⟩ := C0
  obtain ⟨hR, hS0, hS, hlv, hlen⟩ := id X
  obtain ⟨rfl, hn⟩ := am_nx_spec hins (show am_nx M j 1 = true from hI)
  obtain ⟨x, y, r, rfl, es2⟩ := am_i2_some es
  clear es
  have es := es2
  clear es2
  cases es
  refine lv_ior hx hb hdec ?_
  exact am_fin0 (kk H locs LS X) (congrArg (fun z => F0 m z LS _) hn)
set_option maxHeartbeats 1000000 in
theorem ss_ixor {M : am_M} {j len a bb : Nat} {v : Value} {sw : List (Int32 × Nat)} {ls st : List Value} {h h' : am_H} {F' : am_F} {LS : Array Slot} (hins : am_ins M j = (.ixor, len, a, bb, v, sw)) (hdec : decode M.2.1 (am_pc M j) = .ok (.ixor, len)) (hI : am_chkI M j (.ixor, len, a, bb, v, sw) = true) (C0 : am_ctx b base aC D L xs p s m args meth c M) (hkd : am_kind (.ixor, len, a, bb, v, sw) = 0) (es : am_step (.ixor, len, a, bb, v, sw) j ls st h = some (F', h')) (X : am_st b base aC D L xs M.2.2.1 s h H locs ls LS) (hcnt : s.heap.size + cells = base + h.2.1) (hcl : cells + (h'.2.1 - h.2.1) ≤ R.cells) (hsl : slots + (h'.2.2 - h.2.2) ≤ R.slots) (hfr : M.2.2.2.2.2.1.1 ≤ R.frames) (hlo : M.2.2.2.2.2.1.2 ≤ R.locals)
    (kk : (∀ (H1 : Heap) (locs1 : List Loc) (LS1 : Array Slot), am_st b base aC D L xs M.2.2.1 s h' H1 locs1 F'.2.1 LS1 → W p l e R s m args below meth c H1 locs1 (cells + (h'.2.1 - h.2.1)) (slots + (h'.2.2 - h.2.2)) Q (F0 m (am_pc M F'.1) LS1 (F'.2.2.map (am_cv b base))))) :
    W p l e R s m args below meth c H locs cells slots Q (F0 m (am_pc M j) LS (st.map (am_cv b base))) := by
  obtain ⟨hx, hb, hml, hr, hown, hts, hlocks, hname, hK, hX, hbb, hbs, hnw, haS, haI⟩ := C0
  obtain ⟨hR, hS0, hS, hlv, hlen⟩ := id X
  obtain ⟨rfl, hn⟩ := am_nx_spec hins (show am_nx M j 1 = true from hI)
  obtain ⟨x, y, r, rfl, es2⟩ := am_i2_some es
  clear es
  have es := es2
  clear es2
  cases es
  refine lv_ixor hx hb hdec ?_
  exact am_fin0 (kk H locs LS X) (congrArg (fun z => F0 m z LS _) hn)
set_option maxHeartbeats 1000000 in
theorem ss_ishl {M : am_M} {j len a bb : Nat} {v : Value} {sw : List (Int32 × Nat)} {ls st : List Value} {h h' : am_H} {F' : am_F} {LS : Array Slot} (hins : am_ins M j = (.ishl, len, a, bb, v, sw)) (hdec : decode M.2.1 (am_pc M j) = .ok (.ishl, len)) (hI : am_chkI M j (.ishl, len, a, bb, v, sw) = true) (C0 : am_ctx b base aC D L xs p s m args meth c M) (hkd : am_kind (.ishl, len, a, bb, v, sw) = 0) (es : am_step (.ishl, len, a, bb, v, sw) j ls st h = some (F', h')) (X : am_st b base aC D L xs M.2.2.1 s h H locs ls LS) (hcnt : s.heap.size + cells = base + h.2.1) (hcl : cells + (h'.2.1 - h.2.1) ≤ R.cells) (hsl : slots + (h'.2.2 - h.2.2) ≤ R.slots) (hfr : M.2.2.2.2.2.1.1 ≤ R.frames) (hlo : M.2.2.2.2.2.1.2 ≤ R.locals)
    (kk : (∀ (H1 : Heap) (locs1 : List Loc) (LS1 : Array Slot), am_st b base aC D L xs M.2.2.1 s h' H1 locs1 F'.2.1 LS1 → W p l e R s m args below meth c H1 locs1 (cells + (h'.2.1 - h.2.1)) (slots + (h'.2.2 - h.2.2)) Q (F0 m (am_pc M F'.1) LS1 (F'.2.2.map (am_cv b base))))) :
    W p l e R s m args below meth c H locs cells slots Q (F0 m (am_pc M j) LS (st.map (am_cv b base))) := by
  obtain ⟨hx, hb, hml, hr, hown, hts, hlocks, hname, hK, hX, hbb, hbs, hnw, haS, haI⟩ := C0
  obtain ⟨hR, hS0, hS, hlv, hlen⟩ := id X
  obtain ⟨rfl, hn⟩ := am_nx_spec hins (show am_nx M j 1 = true from hI)
  obtain ⟨x, y, r, rfl, es2⟩ := am_i2_some es
  clear es
  have es := es2
  clear es2
  cases es
  refine lv_ishl hx hb hdec ?_
  exact am_fin0 (kk H locs LS X) (congrArg (fun z => F0 m z LS _) hn)
set_option maxHeartbeats 1000000 in
theorem ss_ishr {M : am_M} {j len a bb : Nat} {v : Value} {sw : List (Int32 × Nat)} {ls st : List Value} {h h' : am_H} {F' : am_F} {LS : Array Slot} (hins : am_ins M j = (.ishr, len, a, bb, v, sw)) (hdec : decode M.2.1 (am_pc M j) = .ok (.ishr, len)) (hI : am_chkI M j (.ishr, len, a, bb, v, sw) = true) (C0 : am_ctx b base aC D L xs p s m args meth c M) (hkd : am_kind (.ishr, len, a, bb, v, sw) = 0) (es : am_step (.ishr, len, a, bb, v, sw) j ls st h = some (F', h')) (X : am_st b base aC D L xs M.2.2.1 s h H locs ls LS) (hcnt : s.heap.size + cells = base + h.2.1) (hcl : cells + (h'.2.1 - h.2.1) ≤ R.cells) (hsl : slots + (h'.2.2 - h.2.2) ≤ R.slots) (hfr : M.2.2.2.2.2.1.1 ≤ R.frames) (hlo : M.2.2.2.2.2.1.2 ≤ R.locals)
    (kk : (∀ (H1 : Heap) (locs1 : List Loc) (LS1 : Array Slot), am_st b base aC D L xs M.2.2.1 s h' H1 locs1 F'.2.1 LS1 → W p l e R s m args below meth c H1 locs1 (cells + (h'.2.1 - h.2.1)) (slots + (h'.2.2 - h.2.2)) Q (F0 m (am_pc M F'.1) LS1 (F'.2.2.map (am_cv b base))))) :
    W p l e R s m args below meth c H locs cells slots Q (F0 m (am_pc M j) LS (st.map (am_cv b base))) := by
  obtain ⟨hx, hb, hml, hr, hown, hts, hlocks, hname, hK, hX, hbb, hbs, hnw, haS, haI⟩ := C0
  obtain ⟨hR, hS0, hS, hlv, hlen⟩ := id X
  obtain ⟨rfl, hn⟩ := am_nx_spec hins (show am_nx M j 1 = true from hI)
  obtain ⟨x, y, r, rfl, es2⟩ := am_i2_some es
  clear es
  have es := es2
  clear es2
  cases es
  refine lv_ishr hx hb hdec ?_
  exact am_fin0 (kk H locs LS X) (congrArg (fun z => F0 m z LS _) hn)
set_option maxHeartbeats 1000000 in
theorem ss_idiv {M : am_M} {j len a bb : Nat} {v : Value} {sw : List (Int32 × Nat)} {ls st : List Value} {h h' : am_H} {F' : am_F} {LS : Array Slot} (hins : am_ins M j = (.idiv, len, a, bb, v, sw)) (hdec : decode M.2.1 (am_pc M j) = .ok (.idiv, len)) (hI : am_chkI M j (.idiv, len, a, bb, v, sw) = true) (C0 : am_ctx b base aC D L xs p s m args meth c M) (hkd : am_kind (.idiv, len, a, bb, v, sw) = 0) (es : am_step (.idiv, len, a, bb, v, sw) j ls st h = some (F', h')) (X : am_st b base aC D L xs M.2.2.1 s h H locs ls LS) (hcnt : s.heap.size + cells = base + h.2.1) (hcl : cells + (h'.2.1 - h.2.1) ≤ R.cells) (hsl : slots + (h'.2.2 - h.2.2) ≤ R.slots) (hfr : M.2.2.2.2.2.1.1 ≤ R.frames) (hlo : M.2.2.2.2.2.1.2 ≤ R.locals)
    (kk : (∀ (H1 : Heap) (locs1 : List Loc) (LS1 : Array Slot), am_st b base aC D L xs M.2.2.1 s h' H1 locs1 F'.2.1 LS1 → W p l e R s m args below meth c H1 locs1 (cells + (h'.2.1 - h.2.1)) (slots + (h'.2.2 - h.2.2)) Q (F0 m (am_pc M F'.1) LS1 (F'.2.2.map (am_cv b base))))) :
    W p l e R s m args below meth c H locs cells slots Q (F0 m (am_pc M j) LS (st.map (am_cv b base))) := by
  obtain ⟨hx, hb, hml, hr, hown, hts, hlocks, hname, hK, hX, hbb, hbs, hnw, haS, haI⟩ := C0
  obtain ⟨hR, hS0, hS, hlv, hlen⟩ := id X
  obtain ⟨rfl, hn⟩ := am_nx_spec hins (show am_nx M j 1 = true from hI)
  simp only [am_step] at es
  obtain ⟨x, y, r, rfl, es2⟩ := am_i2_some es
  clear es
  have es := es2
  clear es2
  split at es
  · cases es
  · rename_i hne
    cases es
    refine lv_idiv hx hb hdec hne ?_
    exact am_fin0 (kk H locs LS X) (congrArg (fun z => F0 m z LS _) hn)
set_option maxHeartbeats 1000000 in
theorem ss_irem {M : am_M} {j len a bb : Nat} {v : Value} {sw : List (Int32 × Nat)} {ls st : List Value} {h h' : am_H} {F' : am_F} {LS : Array Slot} (hins : am_ins M j = (.irem, len, a, bb, v, sw)) (hdec : decode M.2.1 (am_pc M j) = .ok (.irem, len)) (hI : am_chkI M j (.irem, len, a, bb, v, sw) = true) (C0 : am_ctx b base aC D L xs p s m args meth c M) (hkd : am_kind (.irem, len, a, bb, v, sw) = 0) (es : am_step (.irem, len, a, bb, v, sw) j ls st h = some (F', h')) (X : am_st b base aC D L xs M.2.2.1 s h H locs ls LS) (hcnt : s.heap.size + cells = base + h.2.1) (hcl : cells + (h'.2.1 - h.2.1) ≤ R.cells) (hsl : slots + (h'.2.2 - h.2.2) ≤ R.slots) (hfr : M.2.2.2.2.2.1.1 ≤ R.frames) (hlo : M.2.2.2.2.2.1.2 ≤ R.locals)
    (kk : (∀ (H1 : Heap) (locs1 : List Loc) (LS1 : Array Slot), am_st b base aC D L xs M.2.2.1 s h' H1 locs1 F'.2.1 LS1 → W p l e R s m args below meth c H1 locs1 (cells + (h'.2.1 - h.2.1)) (slots + (h'.2.2 - h.2.2)) Q (F0 m (am_pc M F'.1) LS1 (F'.2.2.map (am_cv b base))))) :
    W p l e R s m args below meth c H locs cells slots Q (F0 m (am_pc M j) LS (st.map (am_cv b base))) := by
  obtain ⟨hx, hb, hml, hr, hown, hts, hlocks, hname, hK, hX, hbb, hbs, hnw, haS, haI⟩ := C0
  obtain ⟨hR, hS0, hS, hlv, hlen⟩ := id X
  obtain ⟨rfl, hn⟩ := am_nx_spec hins (show am_nx M j 1 = true from hI)
  simp only [am_step] at es
  obtain ⟨x, y, r, rfl, es2⟩ := am_i2_some es
  clear es
  have es := es2
  clear es2
  split at es
  · cases es
  · rename_i hne
    cases es
    refine lv_irem hx hb hdec hne ?_
    exact am_fin0 (kk H locs LS X) (congrArg (fun z => F0 m z LS _) hn)
set_option maxHeartbeats 1000000 in
theorem ss_ladd {M : am_M} {j len a bb : Nat} {v : Value} {sw : List (Int32 × Nat)} {ls st : List Value} {h h' : am_H} {F' : am_F} {LS : Array Slot} (hins : am_ins M j = (.ladd, len, a, bb, v, sw)) (hdec : decode M.2.1 (am_pc M j) = .ok (.ladd, len)) (hI : am_chkI M j (.ladd, len, a, bb, v, sw) = true) (C0 : am_ctx b base aC D L xs p s m args meth c M) (hkd : am_kind (.ladd, len, a, bb, v, sw) = 0) (es : am_step (.ladd, len, a, bb, v, sw) j ls st h = some (F', h')) (X : am_st b base aC D L xs M.2.2.1 s h H locs ls LS) (hcnt : s.heap.size + cells = base + h.2.1) (hcl : cells + (h'.2.1 - h.2.1) ≤ R.cells) (hsl : slots + (h'.2.2 - h.2.2) ≤ R.slots) (hfr : M.2.2.2.2.2.1.1 ≤ R.frames) (hlo : M.2.2.2.2.2.1.2 ≤ R.locals)
    (kk : (∀ (H1 : Heap) (locs1 : List Loc) (LS1 : Array Slot), am_st b base aC D L xs M.2.2.1 s h' H1 locs1 F'.2.1 LS1 → W p l e R s m args below meth c H1 locs1 (cells + (h'.2.1 - h.2.1)) (slots + (h'.2.2 - h.2.2)) Q (F0 m (am_pc M F'.1) LS1 (F'.2.2.map (am_cv b base))))) :
    W p l e R s m args below meth c H locs cells slots Q (F0 m (am_pc M j) LS (st.map (am_cv b base))) := by
  obtain ⟨hx, hb, hml, hr, hown, hts, hlocks, hname, hK, hX, hbb, hbs, hnw, haS, haI⟩ := C0
  obtain ⟨hR, hS0, hS, hlv, hlen⟩ := id X
  obtain ⟨rfl, hn⟩ := am_nx_spec hins (show am_nx M j 1 = true from hI)
  obtain ⟨x, y, r, rfl, es2⟩ := am_l2_some es
  clear es
  have es := es2
  clear es2
  cases es
  refine lv_ladd hx hb hdec ?_
  exact am_fin0 (kk H locs LS X) (congrArg (fun z => F0 m z LS _) hn)
set_option maxHeartbeats 1000000 in
theorem ss_lmul {M : am_M} {j len a bb : Nat} {v : Value} {sw : List (Int32 × Nat)} {ls st : List Value} {h h' : am_H} {F' : am_F} {LS : Array Slot} (hins : am_ins M j = (.lmul, len, a, bb, v, sw)) (hdec : decode M.2.1 (am_pc M j) = .ok (.lmul, len)) (hI : am_chkI M j (.lmul, len, a, bb, v, sw) = true) (C0 : am_ctx b base aC D L xs p s m args meth c M) (hkd : am_kind (.lmul, len, a, bb, v, sw) = 0) (es : am_step (.lmul, len, a, bb, v, sw) j ls st h = some (F', h')) (X : am_st b base aC D L xs M.2.2.1 s h H locs ls LS) (hcnt : s.heap.size + cells = base + h.2.1) (hcl : cells + (h'.2.1 - h.2.1) ≤ R.cells) (hsl : slots + (h'.2.2 - h.2.2) ≤ R.slots) (hfr : M.2.2.2.2.2.1.1 ≤ R.frames) (hlo : M.2.2.2.2.2.1.2 ≤ R.locals)
    (kk : (∀ (H1 : Heap) (locs1 : List Loc) (LS1 : Array Slot), am_st b base aC D L xs M.2.2.1 s h' H1 locs1 F'.2.1 LS1 → W p l e R s m args below meth c H1 locs1 (cells + (h'.2.1 - h.2.1)) (slots + (h'.2.2 - h.2.2)) Q (F0 m (am_pc M F'.1) LS1 (F'.2.2.map (am_cv b base))))) :
    W p l e R s m args below meth c H locs cells slots Q (F0 m (am_pc M j) LS (st.map (am_cv b base))) := by
  obtain ⟨hx, hb, hml, hr, hown, hts, hlocks, hname, hK, hX, hbb, hbs, hnw, haS, haI⟩ := C0
  obtain ⟨hR, hS0, hS, hlv, hlen⟩ := id X
  obtain ⟨rfl, hn⟩ := am_nx_spec hins (show am_nx M j 1 = true from hI)
  obtain ⟨x, y, r, rfl, es2⟩ := am_l2_some es
  clear es
  have es := es2
  clear es2
  cases es
  refine lv_lmul hx hb hdec ?_
  exact am_fin0 (kk H locs LS X) (congrArg (fun z => F0 m z LS _) hn)
set_option maxHeartbeats 1000000 in
theorem ss_land {M : am_M} {j len a bb : Nat} {v : Value} {sw : List (Int32 × Nat)} {ls st : List Value} {h h' : am_H} {F' : am_F} {LS : Array Slot} (hins : am_ins M j = (.land, len, a, bb, v, sw)) (hdec : decode M.2.1 (am_pc M j) = .ok (.land, len)) (hI : am_chkI M j (.land, len, a, bb, v, sw) = true) (C0 : am_ctx b base aC D L xs p s m args meth c M) (hkd : am_kind (.land, len, a, bb, v, sw) = 0) (es : am_step (.land, len, a, bb, v, sw) j ls st h = some (F', h')) (X : am_st b base aC D L xs M.2.2.1 s h H locs ls LS) (hcnt : s.heap.size + cells = base + h.2.1) (hcl : cells + (h'.2.1 - h.2.1) ≤ R.cells) (hsl : slots + (h'.2.2 - h.2.2) ≤ R.slots) (hfr : M.2.2.2.2.2.1.1 ≤ R.frames) (hlo : M.2.2.2.2.2.1.2 ≤ R.locals)
    (kk : (∀ (H1 : Heap) (locs1 : List Loc) (LS1 : Array Slot), am_st b base aC D L xs M.2.2.1 s h' H1 locs1 F'.2.1 LS1 → W p l e R s m args below meth c H1 locs1 (cells + (h'.2.1 - h.2.1)) (slots + (h'.2.2 - h.2.2)) Q (F0 m (am_pc M F'.1) LS1 (F'.2.2.map (am_cv b base))))) :
    W p l e R s m args below meth c H locs cells slots Q (F0 m (am_pc M j) LS (st.map (am_cv b base))) := by
  obtain ⟨hx, hb, hml, hr, hown, hts, hlocks, hname, hK, hX, hbb, hbs, hnw, haS, haI⟩ := C0
  obtain ⟨hR, hS0, hS, hlv, hlen⟩ := id X
  obtain ⟨rfl, hn⟩ := am_nx_spec hins (show am_nx M j 1 = true from hI)
  obtain ⟨x, y, r, rfl, es2⟩ := am_l2_some es
  clear es
  have es := es2
  clear es2
  cases es
  refine lv_land hx hb hdec ?_
  exact am_fin0 (kk H locs LS X) (congrArg (fun z => F0 m z LS _) hn)
set_option maxHeartbeats 1000000 in
theorem ss_ldiv {M : am_M} {j len a bb : Nat} {v : Value} {sw : List (Int32 × Nat)} {ls st : List Value} {h h' : am_H} {F' : am_F} {LS : Array Slot} (hins : am_ins M j = (.ldiv, len, a, bb, v, sw)) (hdec : decode M.2.1 (am_pc M j) = .ok (.ldiv, len)) (hI : am_chkI M j (.ldiv, len, a, bb, v, sw) = true) (C0 : am_ctx b base aC D L xs p s m args meth c M) (hkd : am_kind (.ldiv, len, a, bb, v, sw) = 0) (es : am_step (.ldiv, len, a, bb, v, sw) j ls st h = some (F', h')) (X : am_st b base aC D L xs M.2.2.1 s h H locs ls LS) (hcnt : s.heap.size + cells = base + h.2.1) (hcl : cells + (h'.2.1 - h.2.1) ≤ R.cells) (hsl : slots + (h'.2.2 - h.2.2) ≤ R.slots) (hfr : M.2.2.2.2.2.1.1 ≤ R.frames) (hlo : M.2.2.2.2.2.1.2 ≤ R.locals)
    (kk : (∀ (H1 : Heap) (locs1 : List Loc) (LS1 : Array Slot), am_st b base aC D L xs M.2.2.1 s h' H1 locs1 F'.2.1 LS1 → W p l e R s m args below meth c H1 locs1 (cells + (h'.2.1 - h.2.1)) (slots + (h'.2.2 - h.2.2)) Q (F0 m (am_pc M F'.1) LS1 (F'.2.2.map (am_cv b base))))) :
    W p l e R s m args below meth c H locs cells slots Q (F0 m (am_pc M j) LS (st.map (am_cv b base))) := by
  obtain ⟨hx, hb, hml, hr, hown, hts, hlocks, hname, hK, hX, hbb, hbs, hnw, haS, haI⟩ := C0
  obtain ⟨hR, hS0, hS, hlv, hlen⟩ := id X
  obtain ⟨rfl, hn⟩ := am_nx_spec hins (show am_nx M j 1 = true from hI)
  simp only [am_step] at es
  obtain ⟨x, y, r, rfl, es2⟩ := am_l2_some es
  clear es
  have es := es2
  clear es2
  split at es
  · cases es
  · rename_i hne
    cases es
    refine lv_ldiv hx hb hdec hne ?_
    exact am_fin0 (kk H locs LS X) (congrArg (fun z => F0 m z LS _) hn)
set_option maxHeartbeats 1000000 in
theorem ss_lrem {M : am_M} {j len a bb : Nat} {v : Value} {sw : List (Int32 × Nat)} {ls st : List Value} {h h' : am_H} {F' : am_F} {LS : Array Slot} (hins : am_ins M j = (.lrem, len, a, bb, v, sw)) (hdec : decode M.2.1 (am_pc M j) = .ok (.lrem, len)) (hI : am_chkI M j (.lrem, len, a, bb, v, sw) = true) (C0 : am_ctx b base aC D L xs p s m args meth c M) (hkd : am_kind (.lrem, len, a, bb, v, sw) = 0) (es : am_step (.lrem, len, a, bb, v, sw) j ls st h = some (F', h')) (X : am_st b base aC D L xs M.2.2.1 s h H locs ls LS) (hcnt : s.heap.size + cells = base + h.2.1) (hcl : cells + (h'.2.1 - h.2.1) ≤ R.cells) (hsl : slots + (h'.2.2 - h.2.2) ≤ R.slots) (hfr : M.2.2.2.2.2.1.1 ≤ R.frames) (hlo : M.2.2.2.2.2.1.2 ≤ R.locals)
    (kk : (∀ (H1 : Heap) (locs1 : List Loc) (LS1 : Array Slot), am_st b base aC D L xs M.2.2.1 s h' H1 locs1 F'.2.1 LS1 → W p l e R s m args below meth c H1 locs1 (cells + (h'.2.1 - h.2.1)) (slots + (h'.2.2 - h.2.2)) Q (F0 m (am_pc M F'.1) LS1 (F'.2.2.map (am_cv b base))))) :
    W p l e R s m args below meth c H locs cells slots Q (F0 m (am_pc M j) LS (st.map (am_cv b base))) := by
  obtain ⟨hx, hb, hml, hr, hown, hts, hlocks, hname, hK, hX, hbb, hbs, hnw, haS, haI⟩ := C0
  obtain ⟨hR, hS0, hS, hlv, hlen⟩ := id X
  obtain ⟨rfl, hn⟩ := am_nx_spec hins (show am_nx M j 1 = true from hI)
  simp only [am_step] at es
  obtain ⟨x, y, r, rfl, es2⟩ := am_l2_some es
  clear es
  have es := es2
  clear es2
  split at es
  · cases es
  · rename_i hne
    cases es
    refine lv_lrem hx hb hdec hne ?_
    exact am_fin0 (kk H locs LS X) (congrArg (fun z => F0 m z LS _) hn)
set_option maxHeartbeats 1000000 in
theorem ss_ineg {M : am_M} {j len a bb : Nat} {v : Value} {sw : List (Int32 × Nat)} {ls st : List Value} {h h' : am_H} {F' : am_F} {LS : Array Slot} (hins : am_ins M j = (.ineg, len, a, bb, v, sw)) (hdec : decode M.2.1 (am_pc M j) = .ok (.ineg, len)) (hI : am_chkI M j (.ineg, len, a, bb, v, sw) = true) (C0 : am_ctx b base aC D L xs p s m args meth c M) (hkd : am_kind (.ineg, len, a, bb, v, sw) = 0) (es : am_step (.ineg, len, a, bb, v, sw) j ls st h = some (F', h')) (X : am_st b base aC D L xs M.2.2.1 s h H locs ls LS) (hcnt : s.heap.size + cells = base + h.2.1) (hcl : cells + (h'.2.1 - h.2.1) ≤ R.cells) (hsl : slots + (h'.2.2 - h.2.2) ≤ R.slots) (hfr : M.2.2.2.2.2.1.1 ≤ R.frames) (hlo : M.2.2.2.2.2.1.2 ≤ R.locals)
    (kk : (∀ (H1 : Heap) (locs1 : List Loc) (LS1 : Array Slot), am_st b base aC D L xs M.2.2.1 s h' H1 locs1 F'.2.1 LS1 → W p l e R s m args below meth c H1 locs1 (cells + (h'.2.1 - h.2.1)) (slots + (h'.2.2 - h.2.2)) Q (F0 m (am_pc M F'.1) LS1 (F'.2.2.map (am_cv b base))))) :
    W p l e R s m args below meth c H locs cells slots Q (F0 m (am_pc M j) LS (st.map (am_cv b base))) := by
  obtain ⟨hx, hb, hml, hr, hown, hts, hlocks, hname, hK, hX, hbb, hbs, hnw, haS, haI⟩ := C0
  obtain ⟨hR, hS0, hS, hlv, hlen⟩ := id X
  obtain ⟨rfl, hn⟩ := am_nx_spec hins (show am_nx M j 1 = true from hI)
  obtain ⟨x, r, rfl, es2⟩ := am_i1_some es
  clear es
  have es := es2
  clear es2
  cases es
  refine lv_ineg hx hb hdec ?_
  exact am_fin0 (kk H locs LS X) (congrArg (fun z => F0 m z LS _) hn)
set_option maxHeartbeats 1000000 in
theorem ss_i2l {M : am_M} {j len a bb : Nat} {v : Value} {sw : List (Int32 × Nat)} {ls st : List Value} {h h' : am_H} {F' : am_F} {LS : Array Slot} (hins : am_ins M j = (.i2l, len, a, bb, v, sw)) (hdec : decode M.2.1 (am_pc M j) = .ok (.i2l, len)) (hI : am_chkI M j (.i2l, len, a, bb, v, sw) = true) (C0 : am_ctx b base aC D L xs p s m args meth c M) (hkd : am_kind (.i2l, len, a, bb, v, sw) = 0) (es : am_step (.i2l, len, a, bb, v, sw) j ls st h = some (F', h')) (X : am_st b base aC D L xs M.2.2.1 s h H locs ls LS) (hcnt : s.heap.size + cells = base + h.2.1) (hcl : cells + (h'.2.1 - h.2.1) ≤ R.cells) (hsl : slots + (h'.2.2 - h.2.2) ≤ R.slots) (hfr : M.2.2.2.2.2.1.1 ≤ R.frames) (hlo : M.2.2.2.2.2.1.2 ≤ R.locals)
    (kk : (∀ (H1 : Heap) (locs1 : List Loc) (LS1 : Array Slot), am_st b base aC D L xs M.2.2.1 s h' H1 locs1 F'.2.1 LS1 → W p l e R s m args below meth c H1 locs1 (cells + (h'.2.1 - h.2.1)) (slots + (h'.2.2 - h.2.2)) Q (F0 m (am_pc M F'.1) LS1 (F'.2.2.map (am_cv b base))))) :
    W p l e R s m args below meth c H locs cells slots Q (F0 m (am_pc M j) LS (st.map (am_cv b base))) := by
  obtain ⟨hx, hb, hml, hr, hown, hts, hlocks, hname, hK, hX, hbb, hbs, hnw, haS, haI⟩ := C0
  obtain ⟨hR, hS0, hS, hlv, hlen⟩ := id X
  obtain ⟨rfl, hn⟩ := am_nx_spec hins (show am_nx M j 1 = true from hI)
  obtain ⟨x, r, rfl, es2⟩ := am_i1_some es
  clear es
  have es := es2
  clear es2
  cases es
  refine lv_i2l hx hb hdec rfl ?_
  exact am_fin0 (kk H locs LS X) (congrArg (fun z => F0 m z LS _) hn)
set_option maxHeartbeats 1000000 in
theorem ss_l2i {M : am_M} {j len a bb : Nat} {v : Value} {sw : List (Int32 × Nat)} {ls st : List Value} {h h' : am_H} {F' : am_F} {LS : Array Slot} (hins : am_ins M j = (.l2i, len, a, bb, v, sw)) (hdec : decode M.2.1 (am_pc M j) = .ok (.l2i, len)) (hI : am_chkI M j (.l2i, len, a, bb, v, sw) = true) (C0 : am_ctx b base aC D L xs p s m args meth c M) (hkd : am_kind (.l2i, len, a, bb, v, sw) = 0) (es : am_step (.l2i, len, a, bb, v, sw) j ls st h = some (F', h')) (X : am_st b base aC D L xs M.2.2.1 s h H locs ls LS) (hcnt : s.heap.size + cells = base + h.2.1) (hcl : cells + (h'.2.1 - h.2.1) ≤ R.cells) (hsl : slots + (h'.2.2 - h.2.2) ≤ R.slots) (hfr : M.2.2.2.2.2.1.1 ≤ R.frames) (hlo : M.2.2.2.2.2.1.2 ≤ R.locals)
    (kk : (∀ (H1 : Heap) (locs1 : List Loc) (LS1 : Array Slot), am_st b base aC D L xs M.2.2.1 s h' H1 locs1 F'.2.1 LS1 → W p l e R s m args below meth c H1 locs1 (cells + (h'.2.1 - h.2.1)) (slots + (h'.2.2 - h.2.2)) Q (F0 m (am_pc M F'.1) LS1 (F'.2.2.map (am_cv b base))))) :
    W p l e R s m args below meth c H locs cells slots Q (F0 m (am_pc M j) LS (st.map (am_cv b base))) := by
  obtain ⟨hx, hb, hml, hr, hown, hts, hlocks, hname, hK, hX, hbb, hbs, hnw, haS, haI⟩ := C0
  obtain ⟨hR, hS0, hS, hlv, hlen⟩ := id X
  obtain ⟨rfl, hn⟩ := am_nx_spec hins (show am_nx M j 1 = true from hI)
  obtain ⟨x, r, rfl, es2⟩ := am_l1_some es
  clear es
  have es := es2
  clear es2
  cases es
  refine lv_l2i hx hb hdec rfl ?_
  exact am_fin0 (kk H locs LS X) (congrArg (fun z => F0 m z LS _) hn)
set_option maxHeartbeats 1000000 in
theorem ss_dup {M : am_M} {j len a bb : Nat} {v : Value} {sw : List (Int32 × Nat)} {ls st : List Value} {h h' : am_H} {F' : am_F} {LS : Array Slot} (hins : am_ins M j = (.dup, len, a, bb, v, sw)) (hdec : decode M.2.1 (am_pc M j) = .ok (.dup, len)) (hI : am_chkI M j (.dup, len, a, bb, v, sw) = true) (C0 : am_ctx b base aC D L xs p s m args meth c M) (hkd : am_kind (.dup, len, a, bb, v, sw) = 0) (es : am_step (.dup, len, a, bb, v, sw) j ls st h = some (F', h')) (X : am_st b base aC D L xs M.2.2.1 s h H locs ls LS) (hcnt : s.heap.size + cells = base + h.2.1) (hcl : cells + (h'.2.1 - h.2.1) ≤ R.cells) (hsl : slots + (h'.2.2 - h.2.2) ≤ R.slots) (hfr : M.2.2.2.2.2.1.1 ≤ R.frames) (hlo : M.2.2.2.2.2.1.2 ≤ R.locals)
    (kk : (∀ (H1 : Heap) (locs1 : List Loc) (LS1 : Array Slot), am_st b base aC D L xs M.2.2.1 s h' H1 locs1 F'.2.1 LS1 → W p l e R s m args below meth c H1 locs1 (cells + (h'.2.1 - h.2.1)) (slots + (h'.2.2 - h.2.2)) Q (F0 m (am_pc M F'.1) LS1 (F'.2.2.map (am_cv b base))))) :
    W p l e R s m args below meth c H locs cells slots Q (F0 m (am_pc M j) LS (st.map (am_cv b base))) := by
  obtain ⟨hx, hb, hml, hr, hown, hts, hlocks, hname, hK, hX, hbb, hbs, hnw, haS, haI⟩ := C0
  obtain ⟨hR, hS0, hS, hlv, hlen⟩ := id X
  obtain ⟨rfl, hn⟩ := am_nx_spec hins (show am_nx M j 1 = true from hI)
  simp only [am_step] at es
  split at es
  · split at es
    · rename_i hl
      cases es
      refine lv_dup hx hb hdec (by rw [am_cv_cat]; exact am_isL_cat hl) ?_
      exact am_fin0 (kk H locs LS X) (congrArg (fun z => F0 m z LS _) hn)
    · cases es
  · cases es
set_option maxHeartbeats 1000000 in
theorem ss_ifCond {M : am_M} {j len a bb : Nat} {v : Value} {sw : List (Int32 × Nat)} {cd : ClassFile.Cond} {off : Int} {ls st : List Value} {h h' : am_H} {F' : am_F} {LS : Array Slot} (hins : am_ins M j = (.ifCond cd off, len, a, bb, v, sw)) (hdec : decode M.2.1 (am_pc M j) = .ok (.ifCond cd off, len)) (hI : am_chkI M j (.ifCond cd off, len, a, bb, v, sw) = true) (C0 : am_ctx b base aC D L xs p s m args meth c M) (hkd : am_kind (.ifCond cd off, len, a, bb, v, sw) = 0) (es : am_step (.ifCond cd off, len, a, bb, v, sw) j ls st h = some (F', h')) (X : am_st b base aC D L xs M.2.2.1 s h H locs ls LS) (hcnt : s.heap.size + cells = base + h.2.1) (hcl : cells + (h'.2.1 - h.2.1) ≤ R.cells) (hsl : slots + (h'.2.2 - h.2.2) ≤ R.slots) (hfr : M.2.2.2.2.2.1.1 ≤ R.frames) (hlo : M.2.2.2.2.2.1.2 ≤ R.locals)
    (kk : (∀ (H1 : Heap) (locs1 : List Loc) (LS1 : Array Slot), am_st b base aC D L xs M.2.2.1 s h' H1 locs1 F'.2.1 LS1 → W p l e R s m args below meth c H1 locs1 (cells + (h'.2.1 - h.2.1)) (slots + (h'.2.2 - h.2.2)) Q (F0 m (am_pc M F'.1) LS1 (F'.2.2.map (am_cv b base))))) :
    W p l e R s m args below meth c H locs cells slots Q (F0 m (am_pc M j) LS (st.map (am_cv b base))) := by
  obtain ⟨hx, hb, hml, hr, hown, hts, hlocks, hname, hK, hX, hbb, hbs, hnw, haS, haI⟩ := C0
  obtain ⟨hR, hS0, hS, hlv, hlen⟩ := id X
  simp only [am_chkI, Bool.and_eq_true] at hI
  obtain ⟨hnx, hj⟩ := hI
  obtain ⟨rfl, hn⟩ := am_nx_spec hins hnx
  obtain ⟨x, r, rfl, es2⟩ := am_i1_some es
  clear es
  have es := es2
  clear es2
  cases es
  cases cd
  · refine lv_if_eq (tgt := am_pc M a) hx hb hdec (am_jp_spec hj) (fun hc => ?_) (fun hc => ?_)
    · exact am_fin0 (kk H locs LS X) (congrArg (fun z => F0 m (am_pc M z) LS _) (if_pos hc))
    · exact am_fin0 (kk H locs LS X) (congrArg (fun z => F0 m z LS _) ((congrArg (am_pc M) (if_neg hc)).trans hn))
  · refine lv_if_ne (tgt := am_pc M a) hx hb hdec (am_jp_spec hj) (fun hc => ?_) (fun hc => ?_)
    · exact am_fin0 (kk H locs LS X) (congrArg (fun z => F0 m (am_pc M z) LS _) (if_neg hc))
    · exact am_fin0 (kk H locs LS X) (congrArg (fun z => F0 m z LS _) ((congrArg (am_pc M) (if_pos hc)).trans hn))
  · refine lv_if_lt (tgt := am_pc M a) hx hb hdec (am_jp_spec hj) (fun hc => ?_) (fun hc => ?_)
    · exact am_fin0 (kk H locs LS X) (congrArg (fun z => F0 m (am_pc M z) LS _) (if_pos hc))
    · exact am_fin0 (kk H locs LS X) (congrArg (fun z => F0 m z LS _) ((congrArg (am_pc M) (if_neg hc)).trans hn))
  · refine lv_if_ge (tgt := am_pc M a) hx hb hdec (am_jp_spec hj) (fun hc => ?_) (fun hc => ?_)
    · exact am_fin0 (kk H locs LS X) (congrArg (fun z => F0 m (am_pc M z) LS _) (if_pos hc))
    · exact am_fin0 (kk H locs LS X) (congrArg (fun z => F0 m z LS _) ((congrArg (am_pc M) (if_neg hc)).trans hn))
  · refine lv_if_gt (tgt := am_pc M a) hx hb hdec (am_jp_spec hj) (fun hc => ?_) (fun hc => ?_)
    · exact am_fin0 (kk H locs LS X) (congrArg (fun z => F0 m (am_pc M z) LS _) (if_pos hc))
    · exact am_fin0 (kk H locs LS X) (congrArg (fun z => F0 m z LS _) ((congrArg (am_pc M) (if_neg hc)).trans hn))
  · refine lv_if_le (tgt := am_pc M a) hx hb hdec (am_jp_spec hj) (fun hc => ?_) (fun hc => ?_)
    · exact am_fin0 (kk H locs LS X) (congrArg (fun z => F0 m (am_pc M z) LS _) (if_pos hc))
    · exact am_fin0 (kk H locs LS X) (congrArg (fun z => F0 m z LS _) ((congrArg (am_pc M) (if_neg hc)).trans hn))
set_option maxHeartbeats 1000000 in
theorem ss_if_icmp {M : am_M} {j len a bb : Nat} {v : Value} {sw : List (Int32 × Nat)} {cd : ClassFile.Cond} {off : Int} {ls st : List Value} {h h' : am_H} {F' : am_F} {LS : Array Slot} (hins : am_ins M j = (.if_icmp cd off, len, a, bb, v, sw)) (hdec : decode M.2.1 (am_pc M j) = .ok (.if_icmp cd off, len)) (hI : am_chkI M j (.if_icmp cd off, len, a, bb, v, sw) = true) (C0 : am_ctx b base aC D L xs p s m args meth c M) (hkd : am_kind (.if_icmp cd off, len, a, bb, v, sw) = 0) (es : am_step (.if_icmp cd off, len, a, bb, v, sw) j ls st h = some (F', h')) (X : am_st b base aC D L xs M.2.2.1 s h H locs ls LS) (hcnt : s.heap.size + cells = base + h.2.1) (hcl : cells + (h'.2.1 - h.2.1) ≤ R.cells) (hsl : slots + (h'.2.2 - h.2.2) ≤ R.slots) (hfr : M.2.2.2.2.2.1.1 ≤ R.frames) (hlo : M.2.2.2.2.2.1.2 ≤ R.locals)
    (kk : (∀ (H1 : Heap) (locs1 : List Loc) (LS1 : Array Slot), am_st b base aC D L xs M.2.2.1 s h' H1 locs1 F'.2.1 LS1 → W p l e R s m args below meth c H1 locs1 (cells + (h'.2.1 - h.2.1)) (slots + (h'.2.2 - h.2.2)) Q (F0 m (am_pc M F'.1) LS1 (F'.2.2.map (am_cv b base))))) :
    W p l e R s m args below meth c H locs cells slots Q (F0 m (am_pc M j) LS (st.map (am_cv b base))) := by
  obtain ⟨hx, hb, hml, hr, hown, hts, hlocks, hname, hK, hX, hbb, hbs, hnw, haS, haI⟩ := C0
  obtain ⟨hR, hS0, hS, hlv, hlen⟩ := id X
  simp only [am_chkI, Bool.and_eq_true] at hI
  obtain ⟨hnx, hj⟩ := hI
  obtain ⟨rfl, hn⟩ := am_nx_spec hins hnx
  obtain ⟨x, y, r, rfl, es2⟩ := am_i2_some es
  clear es
  have es := es2
  clear es2
  cases es
  cases cd
  · refine lv_icmp_eq (tgt := am_pc M a) hx hb hdec (am_jp_spec hj) (fun hc => ?_) (fun hc => ?_)
    · exact am_fin0 (kk H locs LS X) (congrArg (fun z => F0 m (am_pc M z) LS _) (if_pos hc))
    · exact am_fin0 (kk H locs LS X) (congrArg (fun z => F0 m z LS _) ((congrArg (am_pc M) (if_neg hc)).trans hn))
  · refine lv_icmp_ne (tgt := am_pc M a) hx hb hdec (am_jp_spec hj) (fun hc => ?_) (fun hc => ?_)
    · exact am_fin0 (kk H locs LS X) (congrArg (fun z => F0 m (am_pc M z) LS _) (if_neg hc))
    · exact am_fin0 (kk H locs LS X) (congrArg (fun z => F0 m z LS _) ((congrArg (am_pc M) (if_pos hc)).trans hn))
  · refine lv_icmp_lt (tgt := am_pc M a) hx hb hdec (am_jp_spec hj) (fun hc => ?_) (fun hc => ?_)
    · exact am_fin0 (kk H locs LS X) (congrArg (fun z => F0 m (am_pc M z) LS _) (if_pos hc))
    · exact am_fin0 (kk H locs LS X) (congrArg (fun z => F0 m z LS _) ((congrArg (am_pc M) (if_neg hc)).trans hn))
  · refine lv_icmp_ge (tgt := am_pc M a) hx hb hdec (am_jp_spec hj) (fun hc => ?_) (fun hc => ?_)
    · exact am_fin0 (kk H locs LS X) (congrArg (fun z => F0 m (am_pc M z) LS _) (if_pos hc))
    · exact am_fin0 (kk H locs LS X) (congrArg (fun z => F0 m z LS _) ((congrArg (am_pc M) (if_neg hc)).trans hn))
  · refine lv_icmp_gt (tgt := am_pc M a) hx hb hdec (am_jp_spec hj) (fun hc => ?_) (fun hc => ?_)
    · exact am_fin0 (kk H locs LS X) (congrArg (fun z => F0 m (am_pc M z) LS _) (if_pos hc))
    · exact am_fin0 (kk H locs LS X) (congrArg (fun z => F0 m z LS _) ((congrArg (am_pc M) (if_neg hc)).trans hn))
  · refine lv_icmp_le (tgt := am_pc M a) hx hb hdec (am_jp_spec hj) (fun hc => ?_) (fun hc => ?_)
    · exact am_fin0 (kk H locs LS X) (congrArg (fun z => F0 m (am_pc M z) LS _) (if_pos hc))
    · exact am_fin0 (kk H locs LS X) (congrArg (fun z => F0 m z LS _) ((congrArg (am_pc M) (if_neg hc)).trans hn))
set_option maxHeartbeats 1000000 in
theorem ss_goto {M : am_M} {j len a bb : Nat} {v : Value} {sw : List (Int32 × Nat)} {off : Int} {ls st : List Value} {h h' : am_H} {F' : am_F} {LS : Array Slot} (hins : am_ins M j = (.goto off, len, a, bb, v, sw)) (hdec : decode M.2.1 (am_pc M j) = .ok (.goto off, len)) (hI : am_chkI M j (.goto off, len, a, bb, v, sw) = true) (C0 : am_ctx b base aC D L xs p s m args meth c M) (hkd : am_kind (.goto off, len, a, bb, v, sw) = 0) (es : am_step (.goto off, len, a, bb, v, sw) j ls st h = some (F', h')) (X : am_st b base aC D L xs M.2.2.1 s h H locs ls LS) (hcnt : s.heap.size + cells = base + h.2.1) (hcl : cells + (h'.2.1 - h.2.1) ≤ R.cells) (hsl : slots + (h'.2.2 - h.2.2) ≤ R.slots) (hfr : M.2.2.2.2.2.1.1 ≤ R.frames) (hlo : M.2.2.2.2.2.1.2 ≤ R.locals)
    (kk : (∀ (H1 : Heap) (locs1 : List Loc) (LS1 : Array Slot), am_st b base aC D L xs M.2.2.1 s h' H1 locs1 F'.2.1 LS1 → W p l e R s m args below meth c H1 locs1 (cells + (h'.2.1 - h.2.1)) (slots + (h'.2.2 - h.2.2)) Q (F0 m (am_pc M F'.1) LS1 (F'.2.2.map (am_cv b base))))) :
    W p l e R s m args below meth c H locs cells slots Q (F0 m (am_pc M j) LS (st.map (am_cv b base))) := by
  obtain ⟨hx, hb, hml, hr, hown, hts, hlocks, hname, hK, hX, hbb, hbs, hnw, haS, haI⟩ := C0
  obtain ⟨hR, hS0, hS, hlv, hlen⟩ := id X
  simp only [am_chkI, Bool.and_eq_true, decide_eq_true_eq] at hI
  obtain ⟨rfl, hj⟩ := hI
  cases es
  refine lv_goto (tgt := am_pc M a) hx hb hdec (am_jp_spec hj) ?_
  exact am_fin0 (kk H locs LS X) rfl
set_option maxHeartbeats 1000000 in
theorem ss_tableswitch {M : am_M} {j len a bb : Nat} {v : Value} {sw : List (Int32 × Nat)} {d lo hi : Int} {offs : Array Int} {ls st : List Value} {h h' : am_H} {F' : am_F} {LS : Array Slot} (hins : am_ins M j = (.tableswitch d lo hi offs, len, a, bb, v, sw)) (hdec : decode M.2.1 (am_pc M j) = .ok (.tableswitch d lo hi offs, len)) (hI : am_chkI M j (.tableswitch d lo hi offs, len, a, bb, v, sw) = true) (C0 : am_ctx b base aC D L xs p s m args meth c M) (hkd : am_kind (.tableswitch d lo hi offs, len, a, bb, v, sw) = 0) (es : am_step (.tableswitch d lo hi offs, len, a, bb, v, sw) j ls st h = some (F', h')) (X : am_st b base aC D L xs M.2.2.1 s h H locs ls LS) (hcnt : s.heap.size + cells = base + h.2.1) (hcl : cells + (h'.2.1 - h.2.1) ≤ R.cells) (hsl : slots + (h'.2.2 - h.2.2) ≤ R.slots) (hfr : M.2.2.2.2.2.1.1 ≤ R.frames) (hlo : M.2.2.2.2.2.1.2 ≤ R.locals)
    (kk : (∀ (H1 : Heap) (locs1 : List Loc) (LS1 : Array Slot), am_st b base aC D L xs M.2.2.1 s h' H1 locs1 F'.2.1 LS1 → W p l e R s m args below meth c H1 locs1 (cells + (h'.2.1 - h.2.1)) (slots + (h'.2.2 - h.2.2)) Q (F0 m (am_pc M F'.1) LS1 (F'.2.2.map (am_cv b base))))) :
    W p l e R s m args below meth c H locs cells slots Q (F0 m (am_pc M j) LS (st.map (am_cv b base))) := by
  obtain ⟨hx, hb, hml, hr, hown, hts, hlocks, hname, hK, hX, hbb, hbs, hnw, haS, haI⟩ := C0
  obtain ⟨hR, hS0, hS, hlv, hlen⟩ := id X
  simp only [am_chkI, Bool.and_eq_true, decide_eq_true_eq] at hI
  obtain ⟨hj, hh, hc⟩ := hI
  obtain ⟨x, r, rfl, es2⟩ := am_i1_some es
  clear es
  have es := es2
  clear es2
  cases es
  obtain ⟨r1, r2⟩ := am_tsc_spec (d := a) (x := x) offs.toList lo sw hc
  by_cases q : x.toInt < lo ∨ hi < x.toInt
  · refine lv_tableOut (tgt := am_pc M a) hx hb hdec q (am_jp_spec hj) ?_
    exact am_fin0 (kk H locs LS X) (congrArg (fun z => F0 m (am_pc M z) LS _) (r1 (by omega)))
  · obtain ⟨o, g1, g2⟩ := r2 (by omega) (by omega)
    refine lv_tableIn (tgt := am_pc M (am_sw x a sw)) hx hb hdec (fun z => q (Or.inl z)) (fun z => q (Or.inr z)) (by rw [← Array.getElem?_toList]; exact g1) g2 ?_
    exact am_fin0 (kk H locs LS X) rfl
set_option maxHeartbeats 1000000 in
theorem ss_lookupswitch {M : am_M} {j len a bb : Nat} {v : Value} {sw : List (Int32 × Nat)} {d : Int} {ps : Array (Int × Int)} {ls st : List Value} {h h' : am_H} {F' : am_F} {LS : Array Slot} (hins : am_ins M j = (.lookupswitch d ps, len, a, bb, v, sw)) (hdec : decode M.2.1 (am_pc M j) = .ok (.lookupswitch d ps, len)) (hI : am_chkI M j (.lookupswitch d ps, len, a, bb, v, sw) = true) (C0 : am_ctx b base aC D L xs p s m args meth c M) (hkd : am_kind (.lookupswitch d ps, len, a, bb, v, sw) = 0) (es : am_step (.lookupswitch d ps, len, a, bb, v, sw) j ls st h = some (F', h')) (X : am_st b base aC D L xs M.2.2.1 s h H locs ls LS) (hcnt : s.heap.size + cells = base + h.2.1) (hcl : cells + (h'.2.1 - h.2.1) ≤ R.cells) (hsl : slots + (h'.2.2 - h.2.2) ≤ R.slots) (hfr : M.2.2.2.2.2.1.1 ≤ R.frames) (hlo : M.2.2.2.2.2.1.2 ≤ R.locals)
    (kk : (∀ (H1 : Heap) (locs1 : List Loc) (LS1 : Array Slot), am_st b base aC D L xs M.2.2.1 s h' H1 locs1 F'.2.1 LS1 → W p l e R s m args below meth c H1 locs1 (cells + (h'.2.1 - h.2.1)) (slots + (h'.2.2 - h.2.2)) Q (F0 m (am_pc M F'.1) LS1 (F'.2.2.map (am_cv b base))))) :
    W p l e R s m args below meth c H locs cells slots Q (F0 m (am_pc M j) LS (st.map (am_cv b base))) := by
  obtain ⟨hx, hb, hml, hr, hown, hts, hlocks, hname, hK, hX, hbb, hbs, hnw, haS, haI⟩ := C0
  obtain ⟨hR, hS0, hS, hlv, hlen⟩ := id X
  simp only [am_chkI, Bool.and_eq_true] at hI
  obtain ⟨hj, hp, hc⟩ := hI
  obtain ⟨x, r, rfl, es2⟩ := am_i1_some es
  clear es
  have es := es2
  clear es2
  cases es
  refine lv_lookup (tgt := am_pc M (am_sw x a sw)) hx hb hdec hp rfl (am_lsc_spec (am_jp_spec hj) ps.toList sw hc) ?_
  exact am_fin0 (kk H locs LS X) rfl
set_option maxHeartbeats 1000000 in
theorem ss_getfield {M : am_M} {j len a bb : Nat} {v : Value} {sw : List (Int32 × Nat)} {n : Nat} {ls st : List Value} {h h' : am_H} {F' : am_F} {LS : Array Slot} (hins : am_ins M j = (.getfield n, len, a, bb, v, sw)) (hdec : decode M.2.1 (am_pc M j) = .ok (.getfield n, len)) (hI : am_chkI M j (.getfield n, len, a, bb, v, sw) = true) (C0 : am_ctx b base aC D L xs p s m args meth c M) (hkd : am_kind (.getfield n, len, a, bb, v, sw) = 0) (es : am_step (.getfield n, len, a, bb, v, sw) j ls st h = some (F', h')) (X : am_st b base aC D L xs M.2.2.1 s h H locs ls LS) (hcnt : s.heap.size + cells = base + h.2.1) (hcl : cells + (h'.2.1 - h.2.1) ≤ R.cells) (hsl : slots + (h'.2.2 - h.2.2) ≤ R.slots) (hfr : M.2.2.2.2.2.1.1 ≤ R.frames) (hlo : M.2.2.2.2.2.1.2 ≤ R.locals)
    (kk : (∀ (H1 : Heap) (locs1 : List Loc) (LS1 : Array Slot), am_st b base aC D L xs M.2.2.1 s h' H1 locs1 F'.2.1 LS1 → W p l e R s m args below meth c H1 locs1 (cells + (h'.2.1 - h.2.1)) (slots + (h'.2.2 - h.2.2)) Q (F0 m (am_pc M F'.1) LS1 (F'.2.2.map (am_cv b base))))) :
    W p l e R s m args below meth c H locs cells slots Q (F0 m (am_pc M j) LS (st.map (am_cv b base))) := by
  obtain ⟨hx, hb, hml, hr, hown, hts, hlocks, hname, hK, hX, hbb, hbs, hnw, haS, haI⟩ := C0
  obtain ⟨hR, hS0, hS, hlv, hlen⟩ := id X
  simp only [am_chkI, Bool.and_eq_true, decide_eq_true_eq] at hI
  obtain ⟨hnx, hfl⟩ := hI
  obtain ⟨rfl, hn⟩ := am_nx_spec hins hnx
  obtain ⟨a1, r, rfl, es2⟩ := am_r1_some es
  clear es
  have es := es2
  clear es2
  obtain ⟨fs, hc, es⟩ := am_obj_some es
  dsimp only at hc es
  obtain ⟨hci, hkf⟩ := w_fln _ hfl
  dsimp only at hci hkf
  split at es
  · rename_i w hw
    cases es
    obtain ⟨k0, rfl, hk0⟩ := am_place_obj hR hS0 hc (by omega)
    have hat : (am_ws b base aC h)[k0]? = some (am_ad b base (k0 + 1), .inr (a, fs.map (am_cv b base))) := by
      rw [am_ws_at hk0, hc]
      rfl
    refine va_get (C := am_own a) (T := am_ft a) (N := am_fn a) (ref := (am_ft a bb).1) (v := am_cv b base w) hx hb hts (w_lay hci) hown hK hR.1 k0 hat (am_cls hci) bb hkf (hts _ (w_fl _ hfl)) (fun _ q => q) (by rw [List.getElem?_map, hw]; rfl) hdec ?_
    exact am_fin0 (kk H locs LS X) (congrArg (fun z => F0 m z LS _) hn)
  · cases es
set_option maxHeartbeats 1000000 in
theorem ss_putfield {M : am_M} {j len a bb : Nat} {v : Value} {sw : List (Int32 × Nat)} {n : Nat} {ls st : List Value} {h h' : am_H} {F' : am_F} {LS : Array Slot} (hins : am_ins M j = (.putfield n, len, a, bb, v, sw)) (hdec : decode M.2.1 (am_pc M j) = .ok (.putfield n, len)) (hI : am_chkI M j (.putfield n, len, a, bb, v, sw) = true) (C0 : am_ctx b base aC D L xs p s m args meth c M) (hkd : am_kind (.putfield n, len, a, bb, v, sw) = 0) (es : am_step (.putfield n, len, a, bb, v, sw) j ls st h = some (F', h')) (X : am_st b base aC D L xs M.2.2.1 s h H locs ls LS) (hcnt : s.heap.size + cells = base + h.2.1) (hcl : cells + (h'.2.1 - h.2.1) ≤ R.cells) (hsl : slots + (h'.2.2 - h.2.2) ≤ R.slots) (hfr : M.2.2.2.2.2.1.1 ≤ R.frames) (hlo : M.2.2.2.2.2.1.2 ≤ R.locals)
    (kk : (∀ (H1 : Heap) (locs1 : List Loc) (LS1 : Array Slot), am_st b base aC D L xs M.2.2.1 s h' H1 locs1 F'.2.1 LS1 → W p l e R s m args below meth c H1 locs1 (cells + (h'.2.1 - h.2.1)) (slots + (h'.2.2 - h.2.2)) Q (F0 m (am_pc M F'.1) LS1 (F'.2.2.map (am_cv b base))))) :
    W p l e R s m args below meth c H locs cells slots Q (F0 m (am_pc M j) LS (st.map (am_cv b base))) := by
  obtain ⟨hx, hb, hml, hr, hown, hts, hlocks, hname, hK, hX, hbb, hbs, hnw, haS, haI⟩ := C0
  obtain ⟨hR, hS0, hS, hlv, hlen⟩ := id X
  simp only [am_chkI, Bool.and_eq_true, decide_eq_true_eq] at hI
  obtain ⟨hnx, hfl, hfin⟩ := hI
  obtain ⟨rfl, hn⟩ := am_nx_spec hins hnx
  simp only [am_step] at es
  split at es
  · rename_i w a1 r
    obtain ⟨fs, hc, es⟩ := am_obj_some es
    obtain ⟨hci, hkf⟩ := w_fln _ hfl
    dsimp only at hci hkf
    split at es
    · rename_i hcond
      cases es
      obtain ⟨k0, rfl, hk0⟩ := am_place_obj hR hS0 hc (by omega)
      have hat : (am_ws b base aC h)[k0]? = some (am_ad b base (k0 + 1), .inr (a, fs.map (am_cv b base))) := by
        rw [am_ws_at hk0, hc]
        rfl
      obtain ⟨n1, n2⟩ := am_fit_ok (b := b) (base := base) hcond.2
      have dn : ∀ (H1 : Heap) (locs1 : List Loc), va_P D am_cl ((am_ws b base aC h).set k0 (am_ad b base (k0 + 1), .inr (a, (fs.map (am_cv b base)).set bb (am_cv b base w)))) H1 → va_S (am_A base) s.heap H1 locs1 → W p l e R s m args below meth c H1 locs1 cells slots Q (F0 m (am_pc M j + 3) LS (r.map (am_cv b base))) := by
        intro H1 locs1 hP1 hS1
        rw [← List.map_set] at hP1
        exact am_fin0 (kk H1 locs1 LS ⟨am_rel_set (.inr (a, fs.set bb w)) hR hk0 hP1, am_scr_set _ hS0, hS1, hlv, hlen⟩) (congrArg (fun z => F0 m z LS _) hn)
      rcases hfin with hf | ⟨hf, hi1, hi2⟩
      · exact va_put (C := am_own a) (T := am_ft a) (N := am_fn a) (ref := (am_ft a bb).1) hx hb hts (w_lay hci) (am_fty a) (am_ty_ok hci) (am_nm_ok hci) hown hK hR.1 (am_ws_D h) hS k0 hat (am_cls hci) bb hkf (hts _ (w_fl _ hfl)) (fun _ q => q) hf (am_ty_ok hci bb hkf) n1 n2 (by rw [List.length_map]; exact hcond.1) hdec (fun H1 locs1 hP1 _ hS1 => dn H1 locs1 hP1 hS1)
      · exact va_putF (C := am_own a) (T := am_ft a) (N := am_fn a) (ref := (am_ft a bb).1) hx hb hts (w_lay hci) (am_fty a) (am_ty_ok hci) (am_nm_ok hci) hown hK hR.1 (am_ws_D h) hS k0 hat (am_cls hci) bb hkf (hts _ (w_fl _ hfl)) (fun _ q => q) hf (hname.trans hi1) hi2 (am_ty_ok hci bb hkf) n1 n2 (by rw [List.length_map]; exact hcond.1) hdec (fun H1 locs1 hP1 _ hS1 => dn H1 locs1 hP1 hS1)
    · cases es
  · cases es
set_option maxHeartbeats 1000000 in
theorem ss_iaload {M : am_M} {j len a bb : Nat} {v : Value} {sw : List (Int32 × Nat)} {ls st : List Value} {h h' : am_H} {F' : am_F} {LS : Array Slot} (hins : am_ins M j = (.iaload, len, a, bb, v, sw)) (hdec : decode M.2.1 (am_pc M j) = .ok (.iaload, len)) (hI : am_chkI M j (.iaload, len, a, bb, v, sw) = true) (C0 : am_ctx b base aC D L xs p s m args meth c M) (hkd : am_kind (.iaload, len, a, bb, v, sw) = 0) (es : am_step (.iaload, len, a, bb, v, sw) j ls st h = some (F', h')) (X : am_st b base aC D L xs M.2.2.1 s h H locs ls LS) (hcnt : s.heap.size + cells = base + h.2.1) (hcl : cells + (h'.2.1 - h.2.1) ≤ R.cells) (hsl : slots + (h'.2.2 - h.2.2) ≤ R.slots) (hfr : M.2.2.2.2.2.1.1 ≤ R.frames) (hlo : M.2.2.2.2.2.1.2 ≤ R.locals)
    (kk : (∀ (H1 : Heap) (locs1 : List Loc) (LS1 : Array Slot), am_st b base aC D L xs M.2.2.1 s h' H1 locs1 F'.2.1 LS1 → W p l e R s m args below meth c H1 locs1 (cells + (h'.2.1 - h.2.1)) (slots + (h'.2.2 - h.2.2)) Q (F0 m (am_pc M F'.1) LS1 (F'.2.2.map (am_cv b base))))) :
    W p l e R s m args below meth c H locs cells slots Q (F0 m (am_pc M j) LS (st.map (am_cv b base))) := by
  obtain ⟨hx, hb, hml, hr, hown, hts, hlocks, hname, hK, hX, hbb, hbs, hnw, haS, haI⟩ := C0
  obtain ⟨hR, hS0, hS, hlv, hlen⟩ := id X
  obtain ⟨rfl, hn⟩ := am_nx_spec hins (show am_nx M j 1 = true from hI)
  simp only [am_step] at es
  split at es
  · rename_i i a1 r
    obtain ⟨n, f, hc, es⟩ := am_ari_some es
    split at es
    · cases es
    · rename_i hin
      cases es
      by_cases h0 : a1 = 0
      · subst h0
        rcases hS0 with q | q
        · rw [hc] at q
          unfold am_dead at q
          cases q
        · rw [hc] at q
          cases q
          refine va_sld hx hb hX (Nat.lt_of_lt_of_le hbb hbs) (Nat.not_le.mpr hbb) hS hin hdec ?_
          exact am_fin0 (kk H locs LS X) (congrArg (fun z => F0 m z LS _) hn)
      · obtain ⟨k0, rfl, hk0⟩ := am_live hR h0 (by rw [hc]; unfold am_dead; exact fun q => by cases q)
        have hat : (am_ws b base aC h)[k0]? = some (am_ad b base (k0 + 1), .inl (aC .int, n, .inl f)) := by
          rw [am_ws_at hk0, hc]
          rfl
        refine va_iald hx hb hK hR.1 k0 0 hat rfl hin hdec ?_
        exact am_fin0 (kk H locs LS X) (congrArg (fun z => F0 m z LS _) hn)
  · cases es
set_option maxHeartbeats 1000000 in
theorem ss_baload {M : am_M} {j len a bb : Nat} {v : Value} {sw : List (Int32 × Nat)} {ls st : List Value} {h h' : am_H} {F' : am_F} {LS : Array Slot} (hins : am_ins M j = (.baload, len, a, bb, v, sw)) (hdec : decode M.2.1 (am_pc M j) = .ok (.baload, len)) (hI : am_chkI M j (.baload, len, a, bb, v, sw) = true) (C0 : am_ctx b base aC D L xs p s m args meth c M) (hkd : am_kind (.baload, len, a, bb, v, sw) = 0) (es : am_step (.baload, len, a, bb, v, sw) j ls st h = some (F', h')) (X : am_st b base aC D L xs M.2.2.1 s h H locs ls LS) (hcnt : s.heap.size + cells = base + h.2.1) (hcl : cells + (h'.2.1 - h.2.1) ≤ R.cells) (hsl : slots + (h'.2.2 - h.2.2) ≤ R.slots) (hfr : M.2.2.2.2.2.1.1 ≤ R.frames) (hlo : M.2.2.2.2.2.1.2 ≤ R.locals)
    (kk : (∀ (H1 : Heap) (locs1 : List Loc) (LS1 : Array Slot), am_st b base aC D L xs M.2.2.1 s h' H1 locs1 F'.2.1 LS1 → W p l e R s m args below meth c H1 locs1 (cells + (h'.2.1 - h.2.1)) (slots + (h'.2.2 - h.2.2)) Q (F0 m (am_pc M F'.1) LS1 (F'.2.2.map (am_cv b base))))) :
    W p l e R s m args below meth c H locs cells slots Q (F0 m (am_pc M j) LS (st.map (am_cv b base))) := by
  obtain ⟨hx, hb, hml, hr, hown, hts, hlocks, hname, hK, hX, hbb, hbs, hnw, haS, haI⟩ := C0
  obtain ⟨hR, hS0, hS, hlv, hlen⟩ := id X
  obtain ⟨rfl, hn⟩ := am_nx_spec hins (show am_nx M j 1 = true from hI)
  simp only [am_step] at es
  split at es
  · rename_i i a1 r
    obtain ⟨n, f, hc, es⟩ := am_arz_some es
    split at es
    · cases es
    · rename_i hin
      cases es
      obtain ⟨k0, rfl, hk0⟩ := (am_place hR hS0 (by rw [hc]; unfold am_dead; exact fun q => by cases q) (by rw [hc]; exact fun q => by cases q))
      have hat : (am_ws b base aC h)[k0]? = some (am_ad b base (k0 + 1), .inl (aC .boolean, n, .inl f)) := by
        rw [am_ws_at hk0, hc]
        rfl
      refine va_zald hx hb hK hR.1 k0 1 hat rfl hin hdec ?_
      exact am_fin0 (kk H locs LS X) (congrArg (fun z => F0 m z LS _) hn)
  · cases es
set_option maxHeartbeats 1000000 in
theorem ss_laload {M : am_M} {j len a bb : Nat} {v : Value} {sw : List (Int32 × Nat)} {ls st : List Value} {h h' : am_H} {F' : am_F} {LS : Array Slot} (hins : am_ins M j = (.laload, len, a, bb, v, sw)) (hdec : decode M.2.1 (am_pc M j) = .ok (.laload, len)) (hI : am_chkI M j (.laload, len, a, bb, v, sw) = true) (C0 : am_ctx b base aC D L xs p s m args meth c M) (hkd : am_kind (.laload, len, a, bb, v, sw) = 0) (es : am_step (.laload, len, a, bb, v, sw) j ls st h = some (F', h')) (X : am_st b base aC D L xs M.2.2.1 s h H locs ls LS) (hcnt : s.heap.size + cells = base + h.2.1) (hcl : cells + (h'.2.1 - h.2.1) ≤ R.cells) (hsl : slots + (h'.2.2 - h.2.2) ≤ R.slots) (hfr : M.2.2.2.2.2.1.1 ≤ R.frames) (hlo : M.2.2.2.2.2.1.2 ≤ R.locals)
    (kk : (∀ (H1 : Heap) (locs1 : List Loc) (LS1 : Array Slot), am_st b base aC D L xs M.2.2.1 s h' H1 locs1 F'.2.1 LS1 → W p l e R s m args below meth c H1 locs1 (cells + (h'.2.1 - h.2.1)) (slots + (h'.2.2 - h.2.2)) Q (F0 m (am_pc M F'.1) LS1 (F'.2.2.map (am_cv b base))))) :
    W p l e R s m args below meth c H locs cells slots Q (F0 m (am_pc M j) LS (st.map (am_cv b base))) := by
  obtain ⟨hx, hb, hml, hr, hown, hts, hlocks, hname, hK, hX, hbb, hbs, hnw, haS, haI⟩ := C0
  obtain ⟨hR, hS0, hS, hlv, hlen⟩ := id X
  obtain ⟨rfl, hn⟩ := am_nx_spec hins (show am_nx M j 1 = true from hI)
  simp only [am_step] at es
  split at es
  · rename_i i a1 r
    obtain ⟨n, f, hc, es⟩ := am_arl_some es
    split at es
    · cases es
    · rename_i hin
      cases es
      obtain ⟨k0, rfl, hk0⟩ := (am_place hR hS0 (by rw [hc]; unfold am_dead; exact fun q => by cases q) (by rw [hc]; exact fun q => by cases q))
      have hat : (am_ws b base aC h)[k0]? = some (am_ad b base (k0 + 1), .inl (aC .long, n, .inr (.inl f))) := by
        rw [am_ws_at hk0, hc]
        rfl
      refine va_lald hx hb hK hR.1 k0 2 hat rfl hin hdec ?_
      exact am_fin0 (kk H locs LS X) (congrArg (fun z => F0 m z LS _) hn)
  · cases es
set_option maxHeartbeats 1000000 in
theorem ss_aaload {M : am_M} {j len a bb : Nat} {v : Value} {sw : List (Int32 × Nat)} {ls st : List Value} {h h' : am_H} {F' : am_F} {LS : Array Slot} (hins : am_ins M j = (.aaload, len, a, bb, v, sw)) (hdec : decode M.2.1 (am_pc M j) = .ok (.aaload, len)) (hI : am_chkI M j (.aaload, len, a, bb, v, sw) = true) (C0 : am_ctx b base aC D L xs p s m args meth c M) (hkd : am_kind (.aaload, len, a, bb, v, sw) = 0) (es : am_step (.aaload, len, a, bb, v, sw) j ls st h = some (F', h')) (X : am_st b base aC D L xs M.2.2.1 s h H locs ls LS) (hcnt : s.heap.size + cells = base + h.2.1) (hcl : cells + (h'.2.1 - h.2.1) ≤ R.cells) (hsl : slots + (h'.2.2 - h.2.2) ≤ R.slots) (hfr : M.2.2.2.2.2.1.1 ≤ R.frames) (hlo : M.2.2.2.2.2.1.2 ≤ R.locals)
    (kk : (∀ (H1 : Heap) (locs1 : List Loc) (LS1 : Array Slot), am_st b base aC D L xs M.2.2.1 s h' H1 locs1 F'.2.1 LS1 → W p l e R s m args below meth c H1 locs1 (cells + (h'.2.1 - h.2.1)) (slots + (h'.2.2 - h.2.2)) Q (F0 m (am_pc M F'.1) LS1 (F'.2.2.map (am_cv b base))))) :
    W p l e R s m args below meth c H locs cells slots Q (F0 m (am_pc M j) LS (st.map (am_cv b base))) := by
  obtain ⟨hx, hb, hml, hr, hown, hts, hlocks, hname, hK, hX, hbb, hbs, hnw, haS, haI⟩ := C0
  obtain ⟨hR, hS0, hS, hlv, hlen⟩ := id X
  obtain ⟨rfl, hn⟩ := am_nx_spec hins (show am_nx M j 1 = true from hI)
  simp only [am_step] at es
  split at es
  · rename_i i a1 r
    obtain ⟨C, n, f, hc, es⟩ := am_arq_some es
    rcases am_oc_some es with ⟨rfl, es⟩ | ⟨rfl, es⟩
    · split at es
      · cases es
      · rename_i hin
        split at es
        · rename_i y hy
          cases es
          obtain ⟨k0, rfl, hk0⟩ := (am_place hR hS0 (by rw [hc]; unfold am_dead; exact fun q => by cases q) (by rw [hc]; exact fun q => by cases q))
          have hat : (am_ws b base aC h)[k0]? = some (am_ad b base (k0 + 1), .inl (aC (.object "SpiteLine$Scene"), n, .inr (.inr (.inr (.inr (fun j => (f j).map (am_ad b base))))))) := by
            rw [am_ws_at hk0, hc]
            rfl
          refine va_aldq hx hb hK hR.1 k0 3 hat rfl hin hdec ?_
          exact am_fin0 (kk H locs LS X) (by
            show F0 m (am_pc M (j + 1)) LS (am_cv b base (.ref y) :: r.map (am_cv b base)) = F0 m (am_pc M j + 1) LS (va_rf ((f i.toNatClampNeg).map (am_ad b base)) :: r.map (am_cv b base))
            rw [hy, hn]
            rfl)
        · cases es
    · split at es
      · cases es
      · rename_i hin
        split at es
        · rename_i y hy
          cases es
          obtain ⟨k0, rfl, hk0⟩ := (am_place hR hS0 (by rw [hc]; unfold am_dead; exact fun q => by cases q) (by rw [hc]; exact fun q => by cases q))
          have hat : (am_ws b base aC h)[k0]? = some (am_ad b base (k0 + 1), .inl (aC (.object "SpiteLine$Image"), n, .inr (.inr (.inr (.inr (fun j => (f j).map (am_ad b base))))))) := by
            rw [am_ws_at hk0, hc]
            rfl
          refine va_aldq hx hb hK hR.1 k0 4 hat rfl hin hdec ?_
          exact am_fin0 (kk H locs LS X) (by
            show F0 m (am_pc M (j + 1)) LS (am_cv b base (.ref y) :: r.map (am_cv b base)) = F0 m (am_pc M j + 1) LS (va_rf ((f i.toNatClampNeg).map (am_ad b base)) :: r.map (am_cv b base))
            rw [hy, hn]
            rfl)
        · cases es
  · cases es
set_option maxHeartbeats 1000000 in
theorem ss_iastore {M : am_M} {j len a bb : Nat} {v : Value} {sw : List (Int32 × Nat)} {ls st : List Value} {h h' : am_H} {F' : am_F} {LS : Array Slot} (hins : am_ins M j = (.iastore, len, a, bb, v, sw)) (hdec : decode M.2.1 (am_pc M j) = .ok (.iastore, len)) (hI : am_chkI M j (.iastore, len, a, bb, v, sw) = true) (C0 : am_ctx b base aC D L xs p s m args meth c M) (hkd : am_kind (.iastore, len, a, bb, v, sw) = 0) (es : am_step (.iastore, len, a, bb, v, sw) j ls st h = some (F', h')) (X : am_st b base aC D L xs M.2.2.1 s h H locs ls LS) (hcnt : s.heap.size + cells = base + h.2.1) (hcl : cells + (h'.2.1 - h.2.1) ≤ R.cells) (hsl : slots + (h'.2.2 - h.2.2) ≤ R.slots) (hfr : M.2.2.2.2.2.1.1 ≤ R.frames) (hlo : M.2.2.2.2.2.1.2 ≤ R.locals)
    (kk : (∀ (H1 : Heap) (locs1 : List Loc) (LS1 : Array Slot), am_st b base aC D L xs M.2.2.1 s h' H1 locs1 F'.2.1 LS1 → W p l e R s m args below meth c H1 locs1 (cells + (h'.2.1 - h.2.1)) (slots + (h'.2.2 - h.2.2)) Q (F0 m (am_pc M F'.1) LS1 (F'.2.2.map (am_cv b base))))) :
    W p l e R s m args below meth c H locs cells slots Q (F0 m (am_pc M j) LS (st.map (am_cv b base))) := by
  obtain ⟨hx, hb, hml, hr, hown, hts, hlocks, hname, hK, hX, hbb, hbs, hnw, haS, haI⟩ := C0
  obtain ⟨hR, hS0, hS, hlv, hlen⟩ := id X
  obtain ⟨rfl, hn⟩ := am_nx_spec hins (show am_nx M j 1 = true from hI)
  simp only [am_step] at es
  split at es
  · rename_i x i a1 r
    obtain ⟨n, f, hc, es⟩ := am_ari_some es
    split at es
    · cases es
    · rename_i hin
      cases es
      obtain ⟨k0, rfl, hk0⟩ := am_live hR (fun q => hin (Or.inl q)) (by rw [hc]; unfold am_dead; exact fun q => by cases q)
      have hat : (am_ws b base aC h)[k0]? = some (am_ad b base (k0 + 1), .inl (aC .int, n, .inl f)) := by
        rw [am_ws_at hk0, hc]
        rfl
      refine va_iast hx hb hK hR.1 (am_ws_D h) hS k0 0 hat rfl (fun q => hin (Or.inr q)) hdec (fun H1 locs1 hP1 _ hS1 => ?_)
      exact am_fin0 (kk H1 locs1 LS ⟨am_rel_set (.inl (.int, n, .inl (upd f i.toNatClampNeg x))) hR hk0 hP1, am_scr_set _ hS0, hS1, hlv, hlen⟩) (congrArg (fun z => F0 m z LS _) hn)
  · cases es
set_option maxHeartbeats 1000000 in
theorem ss_bastore {M : am_M} {j len a bb : Nat} {v : Value} {sw : List (Int32 × Nat)} {ls st : List Value} {h h' : am_H} {F' : am_F} {LS : Array Slot} (hins : am_ins M j = (.bastore, len, a, bb, v, sw)) (hdec : decode M.2.1 (am_pc M j) = .ok (.bastore, len)) (hI : am_chkI M j (.bastore, len, a, bb, v, sw) = true) (C0 : am_ctx b base aC D L xs p s m args meth c M) (hkd : am_kind (.bastore, len, a, bb, v, sw) = 0) (es : am_step (.bastore, len, a, bb, v, sw) j ls st h = some (F', h')) (X : am_st b base aC D L xs M.2.2.1 s h H locs ls LS) (hcnt : s.heap.size + cells = base + h.2.1) (hcl : cells + (h'.2.1 - h.2.1) ≤ R.cells) (hsl : slots + (h'.2.2 - h.2.2) ≤ R.slots) (hfr : M.2.2.2.2.2.1.1 ≤ R.frames) (hlo : M.2.2.2.2.2.1.2 ≤ R.locals)
    (kk : (∀ (H1 : Heap) (locs1 : List Loc) (LS1 : Array Slot), am_st b base aC D L xs M.2.2.1 s h' H1 locs1 F'.2.1 LS1 → W p l e R s m args below meth c H1 locs1 (cells + (h'.2.1 - h.2.1)) (slots + (h'.2.2 - h.2.2)) Q (F0 m (am_pc M F'.1) LS1 (F'.2.2.map (am_cv b base))))) :
    W p l e R s m args below meth c H locs cells slots Q (F0 m (am_pc M j) LS (st.map (am_cv b base))) := by
  obtain ⟨hx, hb, hml, hr, hown, hts, hlocks, hname, hK, hX, hbb, hbs, hnw, haS, haI⟩ := C0
  obtain ⟨hR, hS0, hS, hlv, hlen⟩ := id X
  obtain ⟨rfl, hn⟩ := am_nx_spec hins (show am_nx M j 1 = true from hI)
  simp only [am_step] at es
  split at es
  · rename_i x i a1 r
    obtain ⟨n, f, hc, es⟩ := am_arz_some es
    split at es
    · cases es
    · rename_i hin
      cases es
      obtain ⟨k0, rfl, hk0⟩ := (am_place hR hS0 (by rw [hc]; unfold am_dead; exact fun q => by cases q) (by rw [hc]; exact fun q => by cases q))
      have hat : (am_ws b base aC h)[k0]? = some (am_ad b base (k0 + 1), .inl (aC .boolean, n, .inl f)) := by
        rw [am_ws_at hk0, hc]
        rfl
      refine va_zast hx hb hK hR.1 (am_ws_D h) hS k0 1 hat rfl hin hdec (fun H1 locs1 hP1 _ hS1 => ?_)
      exact am_fin0 (kk H1 locs1 LS ⟨am_rel_set (.inl (.boolean, n, .inl (upd f i.toNatClampNeg (x &&& 1)))) hR hk0 hP1, am_scr_set _ hS0, hS1, hlv, hlen⟩) (congrArg (fun z => F0 m z LS _) hn)
  · cases es
set_option maxHeartbeats 1000000 in
theorem ss_lastore {M : am_M} {j len a bb : Nat} {v : Value} {sw : List (Int32 × Nat)} {ls st : List Value} {h h' : am_H} {F' : am_F} {LS : Array Slot} (hins : am_ins M j = (.lastore, len, a, bb, v, sw)) (hdec : decode M.2.1 (am_pc M j) = .ok (.lastore, len)) (hI : am_chkI M j (.lastore, len, a, bb, v, sw) = true) (C0 : am_ctx b base aC D L xs p s m args meth c M) (hkd : am_kind (.lastore, len, a, bb, v, sw) = 0) (es : am_step (.lastore, len, a, bb, v, sw) j ls st h = some (F', h')) (X : am_st b base aC D L xs M.2.2.1 s h H locs ls LS) (hcnt : s.heap.size + cells = base + h.2.1) (hcl : cells + (h'.2.1 - h.2.1) ≤ R.cells) (hsl : slots + (h'.2.2 - h.2.2) ≤ R.slots) (hfr : M.2.2.2.2.2.1.1 ≤ R.frames) (hlo : M.2.2.2.2.2.1.2 ≤ R.locals)
    (kk : (∀ (H1 : Heap) (locs1 : List Loc) (LS1 : Array Slot), am_st b base aC D L xs M.2.2.1 s h' H1 locs1 F'.2.1 LS1 → W p l e R s m args below meth c H1 locs1 (cells + (h'.2.1 - h.2.1)) (slots + (h'.2.2 - h.2.2)) Q (F0 m (am_pc M F'.1) LS1 (F'.2.2.map (am_cv b base))))) :
    W p l e R s m args below meth c H locs cells slots Q (F0 m (am_pc M j) LS (st.map (am_cv b base))) := by
  obtain ⟨hx, hb, hml, hr, hown, hts, hlocks, hname, hK, hX, hbb, hbs, hnw, haS, haI⟩ := C0
  obtain ⟨hR, hS0, hS, hlv, hlen⟩ := id X
  obtain ⟨rfl, hn⟩ := am_nx_spec hins (show am_nx M j 1 = true from hI)
  simp only [am_step] at es
  split at es
  · rename_i x i a1 r
    obtain ⟨n, f, hc, es⟩ := am_arl_some es
    split at es
    · cases es
    · rename_i hin
      cases es
      obtain ⟨k0, rfl, hk0⟩ := (am_place hR hS0 (by rw [hc]; unfold am_dead; exact fun q => by cases q) (by rw [hc]; exact fun q => by cases q))
      have hat : (am_ws b base aC h)[k0]? = some (am_ad b base (k0 + 1), .inl (aC .long, n, .inr (.inl f))) := by
        rw [am_ws_at hk0, hc]
        rfl
      refine va_last hx hb hK hR.1 (am_ws_D h) hS k0 2 hat rfl hin hdec (fun H1 locs1 hP1 _ hS1 => ?_)
      exact am_fin0 (kk H1 locs1 LS ⟨am_rel_set (.inl (.long, n, .inr (.inl (vp_updL f i.toNatClampNeg x)))) hR hk0 hP1, am_scr_set _ hS0, hS1, hlv, hlen⟩) (congrArg (fun z => F0 m z LS _) hn)
  · cases es
set_option maxHeartbeats 1000000 in
theorem ss_aastore {M : am_M} {j len a bb : Nat} {v : Value} {sw : List (Int32 × Nat)} {ls st : List Value} {h h' : am_H} {F' : am_F} {LS : Array Slot} (hins : am_ins M j = (.aastore, len, a, bb, v, sw)) (hdec : decode M.2.1 (am_pc M j) = .ok (.aastore, len)) (hI : am_chkI M j (.aastore, len, a, bb, v, sw) = true) (C0 : am_ctx b base aC D L xs p s m args meth c M) (hkd : am_kind (.aastore, len, a, bb, v, sw) = 0) (es : am_step (.aastore, len, a, bb, v, sw) j ls st h = some (F', h')) (X : am_st b base aC D L xs M.2.2.1 s h H locs ls LS) (hcnt : s.heap.size + cells = base + h.2.1) (hcl : cells + (h'.2.1 - h.2.1) ≤ R.cells) (hsl : slots + (h'.2.2 - h.2.2) ≤ R.slots) (hfr : M.2.2.2.2.2.1.1 ≤ R.frames) (hlo : M.2.2.2.2.2.1.2 ≤ R.locals)
    (kk : (∀ (H1 : Heap) (locs1 : List Loc) (LS1 : Array Slot), am_st b base aC D L xs M.2.2.1 s h' H1 locs1 F'.2.1 LS1 → W p l e R s m args below meth c H1 locs1 (cells + (h'.2.1 - h.2.1)) (slots + (h'.2.2 - h.2.2)) Q (F0 m (am_pc M F'.1) LS1 (F'.2.2.map (am_cv b base))))) :
    W p l e R s m args below meth c H locs cells slots Q (F0 m (am_pc M j) LS (st.map (am_cv b base))) := by
  obtain ⟨hx, hb, hml, hr, hown, hts, hlocks, hname, hK, hX, hbb, hbs, hnw, haS, haI⟩ := C0
  obtain ⟨hR, hS0, hS, hlv, hlen⟩ := id X
  obtain ⟨rfl, hn⟩ := am_nx_spec hins (show am_nx M j 1 = true from hI)
  simp only [am_step] at es
  split at es
  · rename_i y i a1 r
    obtain ⟨C, n, f, hc, es⟩ := am_arq_some es
    rcases am_oc_some es with ⟨rfl, es⟩ | ⟨rfl, es⟩
    · obtain ⟨fs, hc2, es⟩ := am_obj_some es
      split at es
      · cases es
      · rename_i hin
        cases es
        obtain ⟨k0, rfl, hk0⟩ := (am_place hR hS0 (by rw [hc]; unfold am_dead; exact fun q => by cases q) (by rw [hc]; exact fun q => by cases q))
        obtain ⟨k1, rfl, hk1⟩ := am_place_obj hR hS0 hc2 (by omega)
        have hat : (am_ws b base aC h)[k0]? = some (am_ad b base (k0 + 1), .inl (aC (.object "SpiteLine$Scene"), n, .inr (.inr (.inr (.inr (fun j => (f j).map (am_ad b base))))))) := by
          rw [am_ws_at hk0, hc]
          rfl
        have hat2 : (am_ws b base aC h)[k1]? = some (am_ad b base (k1 + 1), .inr (6, fs.map (am_cv b base))) := by
          rw [am_ws_at hk1, hc2]
          rfl
        refine va_astq (r := (am_own 6, am_ft 6, am_fn 6)) hx hb hK hR.1 (am_ws_D h) hS k0 3 k1 6 hat rfl hat2 (am_cls (by omega)) hin hdec (fun H1 locs1 hP1 _ hS1 => ?_)
        rw [← am_up_map] at hP1
        exact am_fin0 (kk H1 locs1 LS ⟨am_rel_set (.inl (.object "SpiteLine$Scene", n, .inr (.inr (.inr (.inr (va_up f i.toNatClampNeg (some (k1 + 1)))))))) hR hk0 hP1, am_scr_set _ hS0, hS1, hlv, hlen⟩) (congrArg (fun z => F0 m z LS _) hn)
    · obtain ⟨fs, hc2, es⟩ := am_obj_some es
      split at es
      · cases es
      · rename_i hin
        cases es
        obtain ⟨k0, rfl, hk0⟩ := (am_place hR hS0 (by rw [hc]; unfold am_dead; exact fun q => by cases q) (by rw [hc]; exact fun q => by cases q))
        obtain ⟨k1, rfl, hk1⟩ := am_place_obj hR hS0 hc2 (by omega)
        have hat : (am_ws b base aC h)[k0]? = some (am_ad b base (k0 + 1), .inl (aC (.object "SpiteLine$Image"), n, .inr (.inr (.inr (.inr (fun j => (f j).map (am_ad b base))))))) := by
          rw [am_ws_at hk0, hc]
          rfl
        have hat2 : (am_ws b base aC h)[k1]? = some (am_ad b base (k1 + 1), .inr (3, fs.map (am_cv b base))) := by
          rw [am_ws_at hk1, hc2]
          rfl
        refine va_astq (r := (am_own 3, am_ft 3, am_fn 3)) hx hb hK hR.1 (am_ws_D h) hS k0 4 k1 3 hat rfl hat2 (am_cls (by omega)) hin hdec (fun H1 locs1 hP1 _ hS1 => ?_)
        rw [← am_up_map] at hP1
        exact am_fin0 (kk H1 locs1 LS ⟨am_rel_set (.inl (.object "SpiteLine$Image", n, .inr (.inr (.inr (.inr (va_up f i.toNatClampNeg (some (k1 + 1)))))))) hR hk0 hP1, am_scr_set _ hS0, hS1, hlv, hlen⟩) (congrArg (fun z => F0 m z LS _) hn)
  · cases es
set_option maxHeartbeats 1000000 in
theorem ss_arraylength {M : am_M} {j len a bb : Nat} {v : Value} {sw : List (Int32 × Nat)} {ls st : List Value} {h h' : am_H} {F' : am_F} {LS : Array Slot} (hins : am_ins M j = (.arraylength, len, a, bb, v, sw)) (hdec : decode M.2.1 (am_pc M j) = .ok (.arraylength, len)) (hI : am_chkI M j (.arraylength, len, a, bb, v, sw) = true) (C0 : am_ctx b base aC D L xs p s m args meth c M) (hkd : am_kind (.arraylength, len, a, bb, v, sw) = 0) (es : am_step (.arraylength, len, a, bb, v, sw) j ls st h = some (F', h')) (X : am_st b base aC D L xs M.2.2.1 s h H locs ls LS) (hcnt : s.heap.size + cells = base + h.2.1) (hcl : cells + (h'.2.1 - h.2.1) ≤ R.cells) (hsl : slots + (h'.2.2 - h.2.2) ≤ R.slots) (hfr : M.2.2.2.2.2.1.1 ≤ R.frames) (hlo : M.2.2.2.2.2.1.2 ≤ R.locals)
    (kk : (∀ (H1 : Heap) (locs1 : List Loc) (LS1 : Array Slot), am_st b base aC D L xs M.2.2.1 s h' H1 locs1 F'.2.1 LS1 → W p l e R s m args below meth c H1 locs1 (cells + (h'.2.1 - h.2.1)) (slots + (h'.2.2 - h.2.2)) Q (F0 m (am_pc M F'.1) LS1 (F'.2.2.map (am_cv b base))))) :
    W p l e R s m args below meth c H locs cells slots Q (F0 m (am_pc M j) LS (st.map (am_cv b base))) := by
  obtain ⟨hx, hb, hml, hr, hown, hts, hlocks, hname, hK, hX, hbb, hbs, hnw, haS, haI⟩ := C0
  obtain ⟨hR, hS0, hS, hlv, hlen⟩ := id X
  obtain ⟨rfl, hn⟩ := am_nx_spec hins (show am_nx M j 1 = true from hI)
  simp only [am_step] at es
  split at es
  · obtain ⟨n, f, hc, es⟩ := am_ari_some es
    cases es
    rcases hS0 with q | q
    · rw [hc] at q
      unfold am_dead at q
      cases q
    · rw [hc] at q
      cases q
      refine va_slen hx hb hX (Nat.lt_of_lt_of_le hbb hbs) (Nat.not_le.mpr hbb) hS hdec ?_
      exact am_fin0 (kk H locs LS X) (congrArg (fun z => F0 m z LS _) hn)
  · cases es
set_option maxHeartbeats 1000000 in
theorem ss_newarray {M : am_M} {j len a bb : Nat} {v : Value} {sw : List (Int32 × Nat)} {t : ArrayType} {ls st : List Value} {h h' : am_H} {F' : am_F} {LS : Array Slot} (hins : am_ins M j = (.newarray t, len, a, bb, v, sw)) (hdec : decode M.2.1 (am_pc M j) = .ok (.newarray t, len)) (hI : am_chkI M j (.newarray t, len, a, bb, v, sw) = true) (C0 : am_ctx b base aC D L xs p s m args meth c M) (hkd : am_kind (.newarray t, len, a, bb, v, sw) = 0) (es : am_step (.newarray t, len, a, bb, v, sw) j ls st h = some (F', h')) (X : am_st b base aC D L xs M.2.2.1 s h H locs ls LS) (hcnt : s.heap.size + cells = base + h.2.1) (hcl : cells + (h'.2.1 - h.2.1) ≤ R.cells) (hsl : slots + (h'.2.2 - h.2.2) ≤ R.slots) (hfr : M.2.2.2.2.2.1.1 ≤ R.frames) (hlo : M.2.2.2.2.2.1.2 ≤ R.locals)
    (kk : (∀ (H1 : Heap) (locs1 : List Loc) (LS1 : Array Slot), am_st b base aC D L xs M.2.2.1 s h' H1 locs1 F'.2.1 LS1 → W p l e R s m args below meth c H1 locs1 (cells + (h'.2.1 - h.2.1)) (slots + (h'.2.2 - h.2.2)) Q (F0 m (am_pc M F'.1) LS1 (F'.2.2.map (am_cv b base))))) :
    W p l e R s m args below meth c H locs cells slots Q (F0 m (am_pc M j) LS (st.map (am_cv b base))) := by
  obtain ⟨hx, hb, hml, hr, hown, hts, hlocks, hname, hK, hX, hbb, hbs, hnw, haS, haI⟩ := C0
  obtain ⟨hR, hS0, hS, hlv, hlen⟩ := id X
  obtain ⟨rfl, hn⟩ := am_nx_spec hins (show am_nx M j 2 = true from hI)
  have hA : ∀ q, s.heap.size ≤ q → am_A base q := fun q hq => Nat.le_trans hbs hq
  simp only [am_step] at es
  obtain ⟨x, r, rfl, es2⟩ := am_i1_some es
  clear es
  have es := es2
  clear es2
  cases t <;> dsimp only [am_nat] at es <;> try (cases es; done)
  · split at es
    · cases es
    · rename_i hin
      cases es
      dsimp only [am_push] at hcl hsl
      refine va_newa (atype := .boolean) (N' := x.toNatClampNeg) hx hb (hts _ w_aboolean) rfl hK hR.1 (am_ws_D h) hS hA (a0 := (x.toNatClampNeg, .inl (fun _ => 0))) (fun cA => rfl) (fun q => hin (Or.inl q)) rfl (by show x.toNatClampNeg * 1 ≤ 536870912; omega) (by omega) (by omega) hdec (fun q cA H1 hK1 hP1 hD1 hS1 => ?_)
      refine am_size (fun hz => ?_)
      obtain rfl := am_fresh hP1 hD1 (by omega)
      obtain rfl : cA = aC .boolean := Option.some.inj ((show s.vm.findClass ("[" ++ FieldType.toString .boolean) = some cA from (hK1.2 5 (cA, .boolean) rfl).2).symm.trans (show s.vm.findClass ("[" ++ FieldType.toString .boolean) = some (aC .boolean) from (hK.2 1 (aC .boolean, .boolean) rfl).2))
      exact am_fin1 (kk H1 locs LS ⟨am_rel_push (.inl (.boolean, (x.toNatClampNeg, .inl (fun _ => 0)))) _ hR hP1, am_scr_push _ _ hS0, hS1, hlv, hlen⟩) (congrArg (fun z => F0 m z LS _) hn)
  · split at es
    · cases es
    · rename_i hin
      cases es
      dsimp only [am_push] at hcl hsl
      refine va_newa (atype := .int) (N' := x.toNatClampNeg) hx hb (hts _ w_aint) rfl hK hR.1 (am_ws_D h) hS hA (a0 := (x.toNatClampNeg, .inl (fun _ => 0))) (fun cA => rfl) (fun q => hin (Or.inl q)) rfl (by show x.toNatClampNeg * 4 ≤ 536870912; omega) (by omega) (by omega) hdec (fun q cA H1 hK1 hP1 hD1 hS1 => ?_)
      refine am_size (fun hz => ?_)
      obtain rfl := am_fresh hP1 hD1 (by omega)
      obtain rfl : cA = aC .int := Option.some.inj ((show s.vm.findClass ("[" ++ FieldType.toString .int) = some cA from (hK1.2 5 (cA, .int) rfl).2).symm.trans (show s.vm.findClass ("[" ++ FieldType.toString .int) = some (aC .int) from (hK.2 0 (aC .int, .int) rfl).2))
      exact am_fin1 (kk H1 locs LS ⟨am_rel_push (.inl (.int, (x.toNatClampNeg, .inl (fun _ => 0)))) _ hR hP1, am_scr_push _ _ hS0, hS1, hlv, hlen⟩) (congrArg (fun z => F0 m z LS _) hn)
  · split at es
    · cases es
    · rename_i hin
      cases es
      dsimp only [am_push] at hcl hsl
      refine va_newa (atype := .long) (N' := x.toNatClampNeg) hx hb (hts _ w_along) rfl hK hR.1 (am_ws_D h) hS hA (a0 := (x.toNatClampNeg, .inr (.inl (fun _ => 0)))) (fun cA => rfl) (fun q => hin (Or.inl q)) rfl (by show x.toNatClampNeg * 8 ≤ 536870912; omega) (by omega) (by omega) hdec (fun q cA H1 hK1 hP1 hD1 hS1 => ?_)
      refine am_size (fun hz => ?_)
      obtain rfl := am_fresh hP1 hD1 (by omega)
      obtain rfl : cA = aC .long := Option.some.inj ((show s.vm.findClass ("[" ++ FieldType.toString .long) = some cA from (hK1.2 5 (cA, .long) rfl).2).symm.trans (show s.vm.findClass ("[" ++ FieldType.toString .long) = some (aC .long) from (hK.2 2 (aC .long, .long) rfl).2))
      exact am_fin1 (kk H1 locs LS ⟨am_rel_push (.inl (.long, (x.toNatClampNeg, .inr (.inl (fun _ => 0))))) _ hR hP1, am_scr_push _ _ hS0, hS1, hlv, hlen⟩) (congrArg (fun z => F0 m z LS _) hn)
set_option maxHeartbeats 1000000 in
theorem ss_anewarray {M : am_M} {j len a bb : Nat} {v : Value} {sw : List (Int32 × Nat)} {n : Nat} {ls st : List Value} {h h' : am_H} {F' : am_F} {LS : Array Slot} (hins : am_ins M j = (.anewarray n, len, a, bb, v, sw)) (hdec : decode M.2.1 (am_pc M j) = .ok (.anewarray n, len)) (hI : am_chkI M j (.anewarray n, len, a, bb, v, sw) = true) (C0 : am_ctx b base aC D L xs p s m args meth c M) (hkd : am_kind (.anewarray n, len, a, bb, v, sw) = 0) (es : am_step (.anewarray n, len, a, bb, v, sw) j ls st h = some (F', h')) (X : am_st b base aC D L xs M.2.2.1 s h H locs ls LS) (hcnt : s.heap.size + cells = base + h.2.1) (hcl : cells + (h'.2.1 - h.2.1) ≤ R.cells) (hsl : slots + (h'.2.2 - h.2.2) ≤ R.slots) (hfr : M.2.2.2.2.2.1.1 ≤ R.frames) (hlo : M.2.2.2.2.2.1.2 ≤ R.locals)
    (kk : (∀ (H1 : Heap) (locs1 : List Loc) (LS1 : Array Slot), am_st b base aC D L xs M.2.2.1 s h' H1 locs1 F'.2.1 LS1 → W p l e R s m args below meth c H1 locs1 (cells + (h'.2.1 - h.2.1)) (slots + (h'.2.2 - h.2.2)) Q (F0 m (am_pc M F'.1) LS1 (F'.2.2.map (am_cv b base))))) :
    W p l e R s m args below meth c H locs cells slots Q (F0 m (am_pc M j) LS (st.map (am_cv b base))) := by
  obtain ⟨hx, hb, hml, hr, hown, hts, hlocks, hname, hK, hX, hbb, hbs, hnw, haS, haI⟩ := C0
  obtain ⟨hR, hS0, hS, hlv, hlen⟩ := id X
  simp only [am_chkI, Bool.and_eq_true, decide_eq_true_eq] at hI
  obtain ⟨hnx, hck, h63⟩ := hI
  obtain ⟨rfl, hn⟩ := am_nx_spec hins hnx
  have hA : ∀ q, s.heap.size ≤ q → am_A base q := fun q hq => Nat.le_trans hbs hq
  simp only [am_step] at es
  obtain ⟨x, r, rfl, es2⟩ := am_i1_some es
  clear es
  have es := es2
  clear es2
  split at es
  · cases es
  · rename_i hin
    cases es
    dsimp only [am_push] at hcl hsl
    rcases h63 with rfl | rfl
    · refine va_newq (C := "SpiteLine$Scene") (N' := x.toNatClampNeg) hx hb hown (hts _ (w_ck _ hck)) haS hK hR.1 (am_ws_D h) hS hA (fun q => hin (Or.inl q)) rfl (by omega) (by omega) (by omega) hdec (fun q cA H1 hK1 hP1 hD1 hS1 => ?_)
      refine am_size (fun hz => ?_)
      obtain rfl := am_fresh hP1 hD1 (by omega)
      obtain ⟨-, -, -, -, -, e1⟩ := (hK1.2 5 (cA, .object "SpiteLine$Scene") rfl).2
      obtain ⟨-, -, -, -, -, e2⟩ := (hK.2 3 (aC (.object "SpiteLine$Scene"), .object "SpiteLine$Scene") rfl).2
      obtain rfl := Option.some.inj (e1.symm.trans e2)
      exact am_fin1 (kk H1 locs LS ⟨am_rel_push (.inl (.object "SpiteLine$Scene", x.toNatClampNeg, .inr (.inr (.inr (.inr (fun _ => none)))))) _ hR hP1, am_scr_push _ _ hS0, hS1, hlv, hlen⟩) (congrArg (fun z => F0 m z LS _) hn)
    · refine va_newq (C := "SpiteLine$Image") (N' := x.toNatClampNeg) hx hb hown (hts _ (w_ck _ hck)) haI hK hR.1 (am_ws_D h) hS hA (fun q => hin (Or.inl q)) rfl (by omega) (by omega) (by omega) hdec (fun q cA H1 hK1 hP1 hD1 hS1 => ?_)
      refine am_size (fun hz => ?_)
      obtain rfl := am_fresh hP1 hD1 (by omega)
      obtain ⟨-, -, -, -, -, e1⟩ := (hK1.2 5 (cA, .object "SpiteLine$Image") rfl).2
      obtain ⟨-, -, -, -, -, e2⟩ := (hK.2 4 (aC (.object "SpiteLine$Image"), .object "SpiteLine$Image") rfl).2
      obtain rfl := Option.some.inj (e1.symm.trans e2)
      exact am_fin1 (kk H1 locs LS ⟨am_rel_push (.inl (.object "SpiteLine$Image", x.toNatClampNeg, .inr (.inr (.inr (.inr (fun _ => none)))))) _ hR hP1, am_scr_push _ _ hS0, hS1, hlv, hlen⟩) (congrArg (fun z => F0 m z LS _) hn)
set_option maxHeartbeats 1000000 in
theorem ss_new {M : am_M} {j len a bb : Nat} {v : Value} {sw : List (Int32 × Nat)} {n : Nat} {ls st : List Value} {h h' : am_H} {F' : am_F} {LS : Array Slot} (hins : am_ins M j = (.new n, len, a, bb, v, sw)) (hdec : decode M.2.1 (am_pc M j) = .ok (.new n, len)) (hI : am_chkI M j (.new n, len, a, bb, v, sw) = true) (C0 : am_ctx b base aC D L xs p s m args meth c M) (hkd : am_kind (.new n, len, a, bb, v, sw) = 0) (es : am_step (.new n, len, a, bb, v, sw) j ls st h = some (F', h')) (X : am_st b base aC D L xs M.2.2.1 s h H locs ls LS) (hcnt : s.heap.size + cells = base + h.2.1) (hcl : cells + (h'.2.1 - h.2.1) ≤ R.cells) (hsl : slots + (h'.2.2 - h.2.2) ≤ R.slots) (hfr : M.2.2.2.2.2.1.1 ≤ R.frames) (hlo : M.2.2.2.2.2.1.2 ≤ R.locals)
    (kk : (∀ (H1 : Heap) (locs1 : List Loc) (LS1 : Array Slot), am_st b base aC D L xs M.2.2.1 s h' H1 locs1 F'.2.1 LS1 → W p l e R s m args below meth c H1 locs1 (cells + (h'.2.1 - h.2.1)) (slots + (h'.2.2 - h.2.2)) Q (F0 m (am_pc M F'.1) LS1 (F'.2.2.map (am_cv b base))))) :
    W p l e R s m args below meth c H locs cells slots Q (F0 m (am_pc M j) LS (st.map (am_cv b base))) := by
  obtain ⟨hx, hb, hml, hr, hown, hts, hlocks, hname, hK, hX, hbb, hbs, hnw, haS, haI⟩ := C0
  obtain ⟨hR, hS0, hS, hlv, hlen⟩ := id X
  simp only [am_chkI, Bool.and_eq_true, decide_eq_true_eq] at hI
  obtain ⟨hnx, hck⟩ := hI
  obtain ⟨rfl, hn⟩ := am_nx_spec hins hnx
  have hA : ∀ q, s.heap.size ≤ q → am_A base q := fun q hq => Nat.le_trans hbs hq
  have hci : a < 11 := w_ckn _ hck
  cases es
  dsimp only [am_push] at hcl hsl
  rw [am_dfl_len] at hsl
  refine va_new (C := am_own a) (T := am_ft a) (N := am_fn a) (fs := (am_dfl a).map (am_cv b base)) hx hb hts (w_lay hci) (am_fty a) (am_ty_ok hci) hown (hts _ (w_ck _ hck)) (hts _ (w_inst a (List.mem_range.mpr hci))) (hts _ (w_init a (List.mem_range.mpr hci))) hK hR.1 (am_ws_D h) hS hA (am_cls hci) (fun k hk => am_dfl_at hk) (by omega) (by omega) hdec (fun q H1 hP1 hD1 hS1 => ?_)
  refine am_size (fun hz => ?_)
  obtain rfl := am_fresh hP1 hD1 (by omega)
  have k2 := kk H1 locs LS ⟨am_rel_push (.inr (a, am_dfl a)) _ hR hP1, am_scr_push _ _ hS0, hS1, hlv, hlen⟩
  rw [am_dfl_len] at k2
  exact am_fin1 k2 (congrArg (fun z => F0 m z LS _) hn)
set_option maxHeartbeats 1000000 in
theorem ss_invokespecial {M : am_M} {j len a bb : Nat} {v : Value} {sw : List (Int32 × Nat)} {n : Nat} {ls st : List Value} {h h' : am_H} {F' : am_F} {LS : Array Slot} (hins : am_ins M j = (.invokespecial n, len, a, bb, v, sw)) (hdec : decode M.2.1 (am_pc M j) = .ok (.invokespecial n, len)) (hI : am_chkI M j (.invokespecial n, len, a, bb, v, sw) = true) (C0 : am_ctx b base aC D L xs p s m args meth c M) (hkd : am_kind (.invokespecial n, len, a, bb, v, sw) = 0) (es : am_step (.invokespecial n, len, a, bb, v, sw) j ls st h = some (F', h')) (X : am_st b base aC D L xs M.2.2.1 s h H locs ls LS) (hcnt : s.heap.size + cells = base + h.2.1) (hcl : cells + (h'.2.1 - h.2.1) ≤ R.cells) (hsl : slots + (h'.2.2 - h.2.2) ≤ R.slots) (hfr : M.2.2.2.2.2.1.1 ≤ R.frames) (hlo : M.2.2.2.2.2.1.2 ≤ R.locals)
    (kk : (∀ (H1 : Heap) (locs1 : List Loc) (LS1 : Array Slot), am_st b base aC D L xs M.2.2.1 s h' H1 locs1 F'.2.1 LS1 → W p l e R s m args below meth c H1 locs1 (cells + (h'.2.1 - h.2.1)) (slots + (h'.2.2 - h.2.2)) Q (F0 m (am_pc M F'.1) LS1 (F'.2.2.map (am_cv b base))))) :
    W p l e R s m args below meth c H locs cells slots Q (F0 m (am_pc M j) LS (st.map (am_cv b base))) := by
  obtain ⟨hx, hb, hml, hr, hown, hts, hlocks, hname, hK, hX, hbb, hbs, hnw, haS, haI⟩ := C0
  obtain ⟨hR, hS0, hS, hlv, hlen⟩ := id X
  have ha : a = 1000 := by
    by_cases q : a = 1000
    · exact q
    · simp [am_kind, q] at hkd
  subst ha
  simp only [am_chkI, Bool.and_eq_true, if_true, decide_eq_true_eq] at hI
  obtain ⟨hnx, hmo, hf1, hl1⟩ := hI
  obtain ⟨rfl, hn⟩ := am_nx_spec hins hnx
  simp only [am_step] at es
  split at es
  · split at es
    · rename_i hsum
      cases es
      refine W.objInit hx hb hown (hts _ (w_mo _ hmo)) (hts _ w_oi) (hts _ w_oc) rfl (by show LS.size = _; rw [hlv.1, hlen, hml]) rfl hdec (by omega) (by show 2 * 0 + _ + 12 ≤ _; rw [am_cv_sum]; omega) ?_
      exact am_fin0 (kk H locs LS X) (congrArg (fun z => F0 m z LS _) hn)
    · cases es
  · cases es
set_option maxHeartbeats 1000000 in
theorem ss_invokestatic {M : am_M} {j len a bb : Nat} {v : Value} {sw : List (Int32 × Nat)} {n : Nat} {ls st : List Value} {h h' : am_H} {F' : am_F} {LS : Array Slot} (hins : am_ins M j = (.invokestatic n, len, a, bb, v, sw)) (hdec : decode M.2.1 (am_pc M j) = .ok (.invokestatic n, len)) (hI : am_chkI M j (.invokestatic n, len, a, bb, v, sw) = true) (C0 : am_ctx b base aC D L xs p s m args meth c M) (hkd : am_kind (.invokestatic n, len, a, bb, v, sw) = 0) (es : am_step (.invokestatic n, len, a, bb, v, sw) j ls st h = some (F', h')) (X : am_st b base aC D L xs M.2.2.1 s h H locs ls LS) (hcnt : s.heap.size + cells = base + h.2.1) (hcl : cells + (h'.2.1 - h.2.1) ≤ R.cells) (hsl : slots + (h'.2.2 - h.2.2) ≤ R.slots) (hfr : M.2.2.2.2.2.1.1 ≤ R.frames) (hlo : M.2.2.2.2.2.1.2 ≤ R.locals)
    (kk : (∀ (H1 : Heap) (locs1 : List Loc) (LS1 : Array Slot), am_st b base aC D L xs M.2.2.1 s h' H1 locs1 F'.2.1 LS1 → W p l e R s m args below meth c H1 locs1 (cells + (h'.2.1 - h.2.1)) (slots + (h'.2.2 - h.2.2)) Q (F0 m (am_pc M F'.1) LS1 (F'.2.2.map (am_cv b base))))) :
    W p l e R s m args below meth c H locs cells slots Q (F0 m (am_pc M j) LS (st.map (am_cv b base))) := by
  obtain ⟨hx, hb, hml, hr, hown, hts, hlocks, hname, hK, hX, hbb, hbs, hnw, haS, haI⟩ := C0
  obtain ⟨hR, hS0, hS, hlv, hlen⟩ := id X
  have hls : c.maxLocals = LS.size := by rw [hlv.1, hlen, hml]
  have ha : 1000 < a := by
    by_cases q : 1000 < a
    · exact q
    · simp [am_kind, q] at hkd
  simp only [am_chkI, Bool.and_eq_true] at hI
  obtain ⟨hnx, hI⟩ := hI
  obtain ⟨rfl, hn⟩ := am_nx_spec hins hnx
  simp only [am_step] at es
  split at es
  · rename_i h1
    subst h1
    simp only [if_true, decide_eq_true_eq] at hI
    obtain ⟨hmc, hf1, hl1⟩ := hI
    split at es
    · rename_i z dp a1 sp a0 r
      obtain ⟨n0, f, hc0, es⟩ := am_ari_some es
      obtain ⟨n1, g, hc1, es⟩ := am_ari_some es
      split at es
      · cases es
      · rename_i hin
        simp only [not_or] at hin
        obtain ⟨i1, i2, i3, i4, i5, i6, i7, i8⟩ := hin
        cases es
        obtain ⟨k0, rfl, hk0⟩ := am_live hR i1 (by rw [hc0]; unfold am_dead; exact fun q => by cases q)
        obtain ⟨k1, rfl, hk1⟩ := am_live hR i2 (by rw [hc1]; unfold am_dead; exact fun q => by cases q)
        have hat : (am_ws b base aC h)[k0]? = some (am_ad b base (k0 + 1), .inl (aC .int, n0, .inl f)) := by
          rw [am_ws_at hk0, hc0]
          rfl
        have hat1 : (am_ws b base aC h)[k1]? = some (am_ad b base (k1 + 1), .inl (aC .int, n1, .inl g)) := by
          rw [am_ws_at hk1, hc1]
          rfl
        refine va_copyi hx hb hls hown (hts _ (w_mc _ hmc)) (hts _ w_an) (hts _ w_as) (hts _ w_ai) hK hR.1 (am_ws_D h) hS k0 k1 0 0 hat hat1 rfl rfl rfl i3 i4 i5 (by omega) (by omega) (fun _ _ => rfl) (by omega) (by rw [am_cv_sum, show nativeFrameWords "java/lang/System" "arraycopy" 5 = 7 from by decide +kernel]; omega) hdec (fun H1 locs1 hP1 _ hS1 => ?_)
        exact am_fin0 (kk H1 locs1 LS ⟨am_rel_set (.inl (.int, n1, .inl (va_cpy f g sp.toNatClampNeg dp.toNatClampNeg z.toNatClampNeg))) hR hk1 hP1, am_scr_set _ hS0, hS1, hlv, hlen⟩) (congrArg (fun z => F0 m z LS _) hn)
    · cases es
  · rename_i h1
    rw [if_neg h1, if_pos ha, decide_eq_true_eq] at hI
    obtain ⟨hmm, hf1, hl1⟩ := hI
    have hlk := hts _ (w_mm _ hmm)
    dsimp only at hlk
    split at es
    · rename_i h2
      subst h2
      obtain ⟨x, y, r, rfl, es2⟩ := am_i2_some es
      clear es
      have es := es2
      clear es2
      split at es
      · cases es
      · cases es
        refine va_mmax hx hb hls hown hlk (hts _ w_mmax) (hts _ w_mi) (hts _ w_cmax) (by omega) (by rw [am_cv_sum]; omega) (by omega) (by omega) hdec ?_
        exact am_fin0 (kk H locs LS X) (congrArg (fun z => F0 m z LS _) hn)
    · split at es
      · rename_i h2 h3
        subst h3
        obtain ⟨x, y, r, rfl, es2⟩ := am_i2_some es
        clear es
        have es := es2
        clear es2
        split at es
        · cases es
        · cases es
          refine va_mmin hx hb hls hown hlk (hts _ w_mmin) (hts _ w_mi) (hts _ w_cmin) (by omega) (by rw [am_cv_sum]; omega) (by omega) (by omega) hdec ?_
          exact am_fin0 (kk H locs LS X) (congrArg (fun z => F0 m z LS _) hn)
      · rename_i h2 h3
        have hlk2 : (Jvm.Cond.methodLink (am_own M.2.2.2.2.1) n Lib.Math.abs.name).before args s = true := by
          unfold am_mmn at hlk
          rw [if_neg h2, if_neg h3] at hlk
          exact hlk
        obtain ⟨x, r, rfl, es2⟩ := am_i1_some es
        clear es
        have es := es2
        clear es2
        split at es
        · cases es
        · cases es
          refine va_mabs hx hb hls hown hlk2 (hts _ w_mabs) (hts _ w_mi) (hts _ w_cabs) (by omega) (by rw [am_cv_sum]; omega) (by omega) (by omega) hdec ?_
          exact am_fin0 (kk H locs LS X) (congrArg (fun z => F0 m z LS _) hn)
set_option maxHeartbeats 4000000 in
/-- every step -/
theorem am_step_sound {M : am_M} {j : Nat} {ls st : List Value} {h h' : am_H} {F' : am_F} {LS : Array Slot} (hchk : am_chk M j = true) (C0 : am_ctx b base aC D L xs p s m args meth c M) (hkd : am_kind (am_ins M j) = 0) (es : am_step (am_ins M j) j ls st h = some (F', h')) (X : am_st b base aC D L xs M.2.2.1 s h H locs ls LS) (hcnt : s.heap.size + cells = base + h.2.1) (hcl : cells + (h'.2.1 - h.2.1) ≤ R.cells) (hsl : slots + (h'.2.2 - h.2.2) ≤ R.slots) (hfr : M.2.2.2.2.2.1.1 ≤ R.frames) (hlo : M.2.2.2.2.2.1.2 ≤ R.locals)
    (kk : (∀ (H1 : Heap) (locs1 : List Loc) (LS1 : Array Slot), am_st b base aC D L xs M.2.2.1 s h' H1 locs1 F'.2.1 LS1 → W p l e R s m args below meth c H1 locs1 (cells + (h'.2.1 - h.2.1)) (slots + (h'.2.2 - h.2.2)) Q (F0 m (am_pc M F'.1) LS1 (F'.2.2.map (am_cv b base))))) :
    W p l e R s m args below meth c H locs cells slots Q (F0 m (am_pc M j) LS (st.map (am_cv b base))) := by
  unfold am_chk at hchk
  rw [Bool.and_eq_true, decide_eq_true_eq] at hchk
  obtain ⟨hdec, hI⟩ := hchk
  obtain ⟨⟨ins, len, a, bb, v, sw⟩, hins⟩ : ∃ I, am_ins M j = I := ⟨_, rfl⟩
  rw [hins] at hkd es hdec hI
  dsimp only at hdec
  cases ins
  case iload i => exact ss_iload hins hdec hI C0 hkd es X hcnt hcl hsl hfr hlo kk
  case iload_n i => exact ss_iload_n hins hdec hI C0 hkd es X hcnt hcl hsl hfr hlo kk
  case aload i => exact ss_aload hins hdec hI C0 hkd es X hcnt hcl hsl hfr hlo kk
  case aload_n i => exact ss_aload_n hins hdec hI C0 hkd es X hcnt hcl hsl hfr hlo kk
  case lload i => exact ss_lload hins hdec hI C0 hkd es X hcnt hcl hsl hfr hlo kk
  case lload_n i => exact ss_lload_n hins hdec hI C0 hkd es X hcnt hcl hsl hfr hlo kk
  case istore i => exact ss_istore hins hdec hI C0 hkd es X hcnt hcl hsl hfr hlo kk
  case istore_n i => exact ss_istore_n hins hdec hI C0 hkd es X hcnt hcl hsl hfr hlo kk
  case astore_n i => exact ss_astore_n hins hdec hI C0 hkd es X hcnt hcl hsl hfr hlo kk
  case lstore_n i => exact ss_lstore_n hins hdec hI C0 hkd es X hcnt hcl hsl hfr hlo kk
  case lstore i => exact ss_lstore hins hdec hI C0 hkd es X hcnt hcl hsl hfr hlo kk
  case iinc i n => exact ss_iinc hins hdec hI C0 hkd es X hcnt hcl hsl hfr hlo kk
  case iconst n => exact ss_iconst hins hdec hI C0 hkd es X hcnt hcl hsl hfr hlo kk
  case bipush n => exact ss_bipush hins hdec hI C0 hkd es X hcnt hcl hsl hfr hlo kk
  case sipush n => exact ss_sipush hins hdec hI C0 hkd es X hcnt hcl hsl hfr hlo kk
  case ldc n => exact ss_ldc hins hdec hI C0 hkd es X hcnt hcl hsl hfr hlo kk
  case ldc2_w n => exact ss_ldc2_w hins hdec hI C0 hkd es X hcnt hcl hsl hfr hlo kk
  case iadd  => exact ss_iadd hins hdec hI C0 hkd es X hcnt hcl hsl hfr hlo kk
  case isub  => exact ss_isub hins hdec hI C0 hkd es X hcnt hcl hsl hfr hlo kk
  case imul  => exact ss_imul hins hdec hI C0 hkd es X hcnt hcl hsl hfr hlo kk
  case iand  => exact ss_iand hins hdec hI C0 hkd es X hcnt hcl hsl hfr hlo kk
  case ior  => exact ss_ior hins hdec hI C0 hkd es X hcnt hcl hsl hfr hlo kk
  case ixor  => exact ss_ixor hins hdec hI C0 hkd es X hcnt hcl hsl hfr hlo kk
  case ishl  => exact ss_ishl hins hdec hI C0 hkd es X hcnt hcl hsl hfr hlo kk
  case ishr  => exact ss_ishr hins hdec hI C0 hkd es X hcnt hcl hsl hfr hlo kk
  case idiv  => exact ss_idiv hins hdec hI C0 hkd es X hcnt hcl hsl hfr hlo kk
  case irem  => exact ss_irem hins hdec hI C0 hkd es X hcnt hcl hsl hfr hlo kk
  case ladd  => exact ss_ladd hins hdec hI C0 hkd es X hcnt hcl hsl hfr hlo kk
  case lmul  => exact ss_lmul hins hdec hI C0 hkd es X hcnt hcl hsl hfr hlo kk
  case land  => exact ss_land hins hdec hI C0 hkd es X hcnt hcl hsl hfr hlo kk
  case ldiv  => exact ss_ldiv hins hdec hI C0 hkd es X hcnt hcl hsl hfr hlo kk
  case lrem  => exact ss_lrem hins hdec hI C0 hkd es X hcnt hcl hsl hfr hlo kk
  case ineg  => exact ss_ineg hins hdec hI C0 hkd es X hcnt hcl hsl hfr hlo kk
  case i2l  => exact ss_i2l hins hdec hI C0 hkd es X hcnt hcl hsl hfr hlo kk
  case l2i  => exact ss_l2i hins hdec hI C0 hkd es X hcnt hcl hsl hfr hlo kk
  case dup  => exact ss_dup hins hdec hI C0 hkd es X hcnt hcl hsl hfr hlo kk
  case ifCond cd off => exact ss_ifCond hins hdec hI C0 hkd es X hcnt hcl hsl hfr hlo kk
  case if_icmp cd off => exact ss_if_icmp hins hdec hI C0 hkd es X hcnt hcl hsl hfr hlo kk
  case goto off => exact ss_goto hins hdec hI C0 hkd es X hcnt hcl hsl hfr hlo kk
  case tableswitch d lo hi offs => exact ss_tableswitch hins hdec hI C0 hkd es X hcnt hcl hsl hfr hlo kk
  case lookupswitch d ps => exact ss_lookupswitch hins hdec hI C0 hkd es X hcnt hcl hsl hfr hlo kk
  case getfield n => exact ss_getfield hins hdec hI C0 hkd es X hcnt hcl hsl hfr hlo kk
  case putfield n => exact ss_putfield hins hdec hI C0 hkd es X hcnt hcl hsl hfr hlo kk
  case iaload  => exact ss_iaload hins hdec hI C0 hkd es X hcnt hcl hsl hfr hlo kk
  case baload  => exact ss_baload hins hdec hI C0 hkd es X hcnt hcl hsl hfr hlo kk
  case laload  => exact ss_laload hins hdec hI C0 hkd es X hcnt hcl hsl hfr hlo kk
  case aaload  => exact ss_aaload hins hdec hI C0 hkd es X hcnt hcl hsl hfr hlo kk
  case iastore  => exact ss_iastore hins hdec hI C0 hkd es X hcnt hcl hsl hfr hlo kk
  case bastore  => exact ss_bastore hins hdec hI C0 hkd es X hcnt hcl hsl hfr hlo kk
  case lastore  => exact ss_lastore hins hdec hI C0 hkd es X hcnt hcl hsl hfr hlo kk
  case aastore  => exact ss_aastore hins hdec hI C0 hkd es X hcnt hcl hsl hfr hlo kk
  case arraylength  => exact ss_arraylength hins hdec hI C0 hkd es X hcnt hcl hsl hfr hlo kk
  case newarray t => exact ss_newarray hins hdec hI C0 hkd es X hcnt hcl hsl hfr hlo kk
  case anewarray n => exact ss_anewarray hins hdec hI C0 hkd es X hcnt hcl hsl hfr hlo kk
  case new n => exact ss_new hins hdec hI C0 hkd es X hcnt hcl hsl hfr hlo kk
  case invokespecial n => exact ss_invokespecial hins hdec hI C0 hkd es X hcnt hcl hsl hfr hlo kk
  case invokestatic n => exact ss_invokestatic hins hdec hI C0 hkd es X hcnt hcl hsl hfr hlo kk
  all_goals exact absurd (show (none : Option (am_F × am_H)) = some (F', h') from es) (fun q => by cases q)
end AMS
end
section
/-! runs: a call is sound by the callee's run, so every run is -/
def am_isno (I : am_I) : Bool := decide (I.1 = .nop)
def am_chkM (M : am_M) : Bool := decide (am_pc M 0 = 0) && (List.range (16 * M.2.2.2.2.2.2.1.length)).all (fun j => am_isno (am_ins M j) || am_chk M j)
theorem am_nth_out {α : Type} {d : α} : ∀ (l : List α) (n : Nat), l.length ≤ n → am_nth d l n = d
  | [], _, _ => rfl
  | _ :: _, 0, h => by simp at h
  | _ :: l, n + 1, h => am_nth_out l n (by simpa using h)
theorem am_chk_of {M : am_M} {j : Nat} (h : am_chkM M = true) (hn : (am_ins M j).1 ≠ .nop) : am_chk M j = true := by
  unfold am_chkM at h
  rw [Bool.and_eq_true] at h
  rcases Nat.lt_or_ge j (16 * M.2.2.2.2.2.2.1.length) with q | q
  · have := List.all_eq_true.mp h.2 j (List.mem_range.mpr q)
    rw [Bool.or_eq_true] at this
    rcases this with z | z
    · exact absurd (of_decide_eq_true z) hn
    · exact z
  · exfalso
    apply hn
    unfold am_ins am_at2
    rw [am_nth_out M.2.2.2.2.2.2.1 (j / 16) (by omega)]
    rfl
theorem am_step_mono {I : am_I} {j : Nat} {ls st : List Value} {h h' : am_H} {F' : am_F} (es : am_step I j ls st h = some (F', h')) : h.2.1 ≤ h'.2.1 ∧ h.2.2 ≤ h'.2.2 := by
  obtain ⟨ins, len, a, bb, v, sw⟩ := I
  cases ins <;> (try simp only [am_step, am_store, am_i1, am_i2, am_l1, am_l2, am_r1, am_obj, am_ari, am_arz, am_arl, am_arq, am_oc] at es) <;> (repeat' split at es) <;> (try cases es) <;> first | exact ⟨Nat.le_refl _, Nat.le_refl _⟩ | exact ⟨Nat.le_succ _, Nat.le_add_right _ _⟩
theorem am_run_mono : ∀ (f : Nat) {M : am_M} {F : am_F} {h h' : am_H} {r : Option Value}, am_run f M F h = some (r, h') → h.2.1 ≤ h'.2.1 ∧ h.2.2 ≤ h'.2.2
  | 0, _, _, _, _, _, e => by cases e
  | f + 1, M, F, h, h', r, e => by
    unfold am_run at e
    split at e
    · split at e
      · rename_i F1 h1 e1
        have g1 := am_step_mono e1
        have g2 := am_run_mono f e
        omega
      · cases e
    · split at e
      · split at e
        · rename_i r1 h1 e1
          have g1 := am_run_mono f e1
          have g2 := am_run_mono f e
          omega
        · cases e
      · cases e
    · split at e
      · cases e
        exact ⟨Nat.le_refl _, Nat.le_refl _⟩
      · cases e
def am_retok (M : am_M) (j : Nat) (r : Option Value) : Prop :=
  (∃ v : Int32, r = some (.int v) ∧ decode M.2.1 (am_pc M j) = .ok (.ireturn, 1) ∧ ∃ ty, M.2.2.2.1 = some ty ∧ narrow ty (.int v) = .int v) ∨ (r = none ∧ decode M.2.1 (am_pc M j) = .ok (.return_, 1) ∧ M.2.2.2.1 = none)
theorem am_ret_spec {M : am_M} {j : Nat} {st : List Value} {r : Option Value} (hchk : am_chk M j = true) (e : am_ret (am_ins M j) M st = some r) : am_retok M j r ∧ st = r.toList := by
  unfold am_chk at hchk
  rw [Bool.and_eq_true, decide_eq_true_eq] at hchk
  obtain ⟨hdec, hI⟩ := hchk
  obtain ⟨⟨ins, len, a, bb, v, sw⟩, hins⟩ : ∃ I, am_ins M j = I := ⟨_, rfl⟩
  rw [hins] at e hdec hI
  dsimp only at hdec
  unfold am_ret at e
  split at e
  · rename_i h1
    dsimp only at h1
    subst h1
    obtain rfl : len = 1 := of_decide_eq_true (show decide (len = 1) = true from hI)
    split at e
    · rename_i x
      split at e
      · rename_i hret
        split at e
        · rename_i hv
          cases e
          refine ⟨Or.inl ⟨x, rfl, hdec, .boolean, hret, ?_⟩, rfl⟩
          rcases hv with rfl | rfl <;> rfl
        · cases e
      · rename_i hret
        cases e
        exact ⟨Or.inl ⟨x, rfl, hdec, .int, hret, rfl⟩, rfl⟩
      · cases e
    · cases e
  · rename_i h1
    dsimp only at h1
    subst h1
    obtain rfl : len = 1 := of_decide_eq_true (show decide (len = 1) = true from hI)
    split at e
    · split at e
      · rename_i hret
        cases e
        exact ⟨Or.inr ⟨rfl, hdec, hret⟩, rfl⟩
      · cases e
    · cases e
  · cases e
/-! the entry of a method -/
theorem am_sl_len : ∀ (vs : List Value), (∀ v ∈ vs, v.category = 1) → (lg_sl vs).length = vs.length
  | [], _ => rfl
  | v :: vs, h => by
    have h1 := h v List.mem_cons_self
    have h2 := am_sl_len vs (fun w hw => h w (List.mem_cons_of_mem _ hw))
    unfold lg_sl at h2 ⊢
    simp [List.flatMap_cons, h1, h2]
theorem am_args_mem : ∀ (vs : List Value) (i k : Nat) (v : Value), (∀ v ∈ vs, v.category = 1) → vs[k]? = some v → (i + k, v) ∈ lv_args i vs
  | [], _, _, _, _, h => by simp at h
  | w :: vs, i, 0, v, hc, h => by
    simp at h
    subst h
    exact List.mem_cons_self
  | w :: vs, i, k + 1, v, hc, h => by
    have h1 := hc w List.mem_cons_self
    have h2 := am_args_mem vs (i + 1) k v (fun w hw => hc w (List.mem_cons_of_mem _ hw)) (by simpa using h)
    unfold lv_args
    rw [if_neg (by omega)]
    rw [show i + (k + 1) = i + 1 + k by omega]
    exact List.mem_cons_of_mem _ h2
theorem am_entry_lv {b base : Nat} {M : am_M} {As : List Value} (hc : ∀ v ∈ As, am_isL v = false) (hn : As.length ≤ M.2.2.1) : ∃ LS : Array Slot, (∀ m : MethodId, entryFrame m (As.map (am_cv b base)).toArray M.2.2.1 = F0 m 0 LS []) ∧ lv_has LS (am_entry M As).length (am_lp b base (am_entry M As)) ∧ (am_entry M As).length = M.2.2.1 := by
  have hcat : ∀ v ∈ As.map (am_cv b base), v.category = 1 := by
    intro v hv
    obtain ⟨w, hw, rfl⟩ := List.mem_map.mp hv
    rw [am_cv_cat]
    exact am_isL_cat (hc w hw)
  have hle : (lg_sl (As.map (am_cv b base))).length ≤ M.2.2.1 := by
    rw [am_sl_len _ hcat, List.length_map]
    exact hn
  have hlen : (am_entry M As).length = M.2.2.1 := by
    unfold am_entry
    rw [List.length_append, List.length_replicate]
    omega
  have hl := lv_entry (As.map (am_cv b base)) hle
  refine ⟨_, fun m => lg_entry_eq m _ _, ?_, hlen⟩
  rw [hlen]
  refine ⟨hl.1, hl.2.1, fun q hq => ?_⟩
  obtain ⟨h1, h2, h3⟩ := am_lp_mem.mp hq
  apply hl.2.2
  have hlt : q.1 < As.length := by
    rcases Nat.lt_or_ge q.1 As.length with g | g
    · exact g
    · exfalso
      apply h2
      unfold am_entry
      rw [List.getD_eq_getElem?_getD, List.getElem?_append_right g, List.getElem?_replicate]
      split <;> rfl
  have hg : (am_entry M As).getD q.1 .null = As[q.1] := by
    unfold am_entry
    rw [List.getD_eq_getElem?_getD, List.getElem?_append_left hlt, List.getElem?_eq_getElem hlt]
    rfl
  have := am_args_mem (As.map (am_cv b base)) 0 q.1 (am_cv b base As[q.1]) hcat (by rw [List.getElem?_map, List.getElem?_eq_getElem hlt]; rfl)
  rw [Nat.zero_add] at this
  rw [hg] at h3
  rw [← h3] at this
  exact this
theorem am_rel_lb {b base : Nat} {aC : FieldType → ClassId} {D : va_G} {h : am_H} {H : Heap} (hR : am_rel b base aC D h H) (hb : base ≤ H.size) : base + h.2.1 ≤ H.size := by
  rcases Nat.eq_zero_or_pos h.2.1 with q | q
  · omega
  · have hk : h.2.1 - 1 < h.2.1 := by omega
    have := (hR.1 _ _ (am_ws_at hk)).lt
    dsimp only at this
    omega
def am_Pc (b base : Nat) (aC : FieldType → ClassId) (D : va_G) (L : Nat) (xs : Nat → Int32) (As : List Value) (h : am_H) : Array Value → State → Prop := fun a U =>
  a = (As.map (am_cv b base)).toArray ∧ am_rel b base aC D h U.heap ∧ am_scr L xs h ∧ U.heap.size = base + h.2.1 ∧ va_K D am_cl (am_tys aC) U ∧ va_X b L xs U U.heap ∧ b < base ∧ (∀ q ∈ am_mn, va_Nw (am_nww q) U) ∧ va_AO "SpiteLine$Scene" U ∧ va_AO "SpiteLine$Image" U
def am_Qc (b base : Nat) (aC : FieldType → ClassId) (D : va_G) (L : Nat) (xs : Nat → Int32) (r : Option Value) (h' : am_H) : Array Value → State → Outcome → State → Prop := fun _ st o t =>
  o = .returned (r.map (am_cv b base)) ∧ am_rel b base aC D h' t.heap ∧ am_scr L xs h' ∧ st.heap.size ≤ t.heap.size ∧ ∀ q : Nat, q < st.heap.size → ¬ am_A base q → t.heap[q]? = st.heap[q]?
section AMR
variable {b base L : Nat} {xs : Nat → Int32} {aC : FieldType → ClassId} {D : va_G}
theorem am_Pc_blind {As : List Value} {h : am_H} : FrameBlind (am_Pc b base aC D L xs As h) := by
  intro a U g mk q
  obtain ⟨q1, q2, q3, q4, q5, q6, q7, q8, q9, q10⟩ := q
  exact ⟨q1, q2, q3, q4, va_K.moved (u := U) (U := U.calling g mk a) (Vm.Alike.refl U.vm) q5, va_X.moved (u := U) (U := U.calling g mk a) (Vm.Alike.refl U.vm) q6, q7, fun e he => va_Nw.same rfl rfl (q8 e he), va_AO.moved (u := U) (U := U.calling g mk a) (Vm.Alike.refl U.vm) q9, va_AO.moved (u := U) (U := U.calling g mk a) (Vm.Alike.refl U.vm) q10⟩
variable {p : Program} {l : Launch} {e : Env} {R : Room} {s : State} {m : MethodId} {args : Array Value} {below : List Frame} {meth : Method} {c : Code} {H : Heap} {locs : List Loc} {cells slots : Nat} {Q : State → Prop}
theorem am_Pc_at {M : am_M} {h : am_H} {As : List Value} (C0 : am_ctx b base aC D L xs p s m args meth c M) (hR : am_rel b base aC D h H) (hS0 : am_scr L xs h) (hS : va_S (am_A base) s.heap H locs) (hz : H.size = base + h.2.1) (U : State) (hU : U.heap = H) (hW : s.WarmedH U.vm) : am_Pc b base aC D L xs As h (As.map (am_cv b base)).toArray U := by
  obtain ⟨hx, hb, hml, hr, hown, hts, hlocks, hname, hK, hX, hbb, hbs, hnw, haS, haI⟩ := C0
  refine ⟨rfl, by rw [hU]; exact hR, hS0, by rw [hU]; exact hz, va_K.moved hW.alike hK, ?_, hbb, fun q hq => va_Nw.warmM hW (hnw q hq), va_AO.moved hW.alike haS, va_AO.moved hW.alike haI⟩
  rw [hU]
  exact (va_X.moved hW.alike hX).kept (hS.2.1 b (Nat.lt_of_lt_of_le hbb hbs) (Nat.not_le.mpr hbb))
theorem am_after {r : Option Value} {h1 : am_H} {mc ms pc : Nat} {LS : Array Slot} {st0 rest : List Value} {a : Array Value} (hr : va_Run p l e R s m args below meth c H locs cells slots mc ms (F0 m pc LS st0) rest (am_Qc b base aC D L xs r h1 a) (am_A base)) (hS : va_S (am_A base) s.heap H locs)
    (kk : ∀ (H1 : Heap) (locs1 : List Loc), am_rel b base aC D h1 H1 → am_scr L xs h1 → va_S (am_A base) s.heap H1 locs1 → W p l e R s m args below meth c H1 locs1 (cells + mc) (slots + ms) Q (F0 m (pc + 3) LS ((r.map (am_cv b base)).toList ++ rest))) : W p l e R s m args below meth c H locs cells slots Q (F0 m pc LS st0) := by
  intro T hT X
  obtain ⟨v, st₀, t, T', L', h0, X', hL, e1, e2, ⟨hv, hrel, hscr, hz, hk⟩, stp⟩ := hr T hT X
  cases hv
  obtain ⟨t2, a1, b1⟩ := kk T'.heap (locs ++ L') (by rw [e1]; exact hrel) hscr ⟨by rw [e1]; rw [h0] at hz; exact Nat.le_trans hS.1 hz, fun q g1 g2 => by
      rw [e1, hk q (by rw [h0]; exact Nat.lt_of_lt_of_le g1 hS.1) g2, h0]
      exact hS.2.1 q g1 g2, fun q hq => by
      rcases List.mem_append.mp hq with g | g
      · exact hS.2.2 q g
      · exact hL q g⟩ T' rfl X'
  exact ⟨t2, stp t2 a1, b1⟩
/-- the callee's words hold wherever the tables' do -/
theorem am_pay {K : am_M} (hts : ∀ w ∈ am_tw, w.before args s = true) (hcw : Jvm.Cond.code K.1 K.2.1 K.2.2.1 K.2.2.2.1 ∈ am_tw) : ∀ w ∈ (Jvm.Cond.code K.1 K.2.1 K.2.2.1 K.2.2.2.1 :: am_tw), ∀ (a' : Array Value) (U : State), s.WarmedH U.vm → w.before a' U = true := by
  intro w hw a' U hW
  have hm : w ∈ am_tw := by
    rcases List.mem_cons.mp hw with g | g
    · rw [g]; exact hcw
    · exact g
  exact word_at hW (good_of_word (List.mem_filter.mp hm).2) (hts w hm)
/-! a call, by the callee's contract -/
set_option maxHeartbeats 1000000 in
theorem am_vrunV {M K : am_M} {j n idx b0 mc ms : Nat} {tl rest st ls : List Value} {h h1 : am_H} {r1 : Option Value} {LS : Array Slot} (hdec : decode M.2.1 (am_pc M j) = .ok (.invokevirtual idx, 3)) (hlink : (Jvm.Cond.methodLink (am_own M.2.2.2.2.1) idx K.1).before args s = true ∨ (Jvm.Cond.methodLinkNest (am_own M.2.2.2.2.1) idx K.1 "SpiteLine").before args s = true)
    (hnd : K.2.2.2.2.2.1.1 + 1 ≤ M.2.2.2.2.2.1.1) (hnl : 19 + K.2.2.1 + K.2.2.2.2.2.1.2 ≤ M.2.2.2.2.2.1.2) (hcw : Jvm.Cond.code K.1 K.2.1 K.2.2.1 K.2.2.2.1 ∈ am_tw) (hini : (Jvm.Cond.initialized K.1.cls).before args s = true) (hmh : K.1.cls ≠ "java/lang/invoke/MethodHandle" ∧ K.1.cls ≠ "java/lang/invoke/VarHandle")
    (hpar : ∀ sig, parseMethodDescriptor K.1.desc = some sig → n = sig.parameters.length) (hsum : ((rest.map (am_cv b base)).map fun v => v.category).sum ≤ 8) (C0 : am_ctx b base aC D L xs p s m args meth c M) (X : am_st b base aC D L xs M.2.2.1 s h H locs ls LS) (hz : H.size = base + h.2.1) (hfr : M.2.2.2.2.2.1.1 ≤ R.frames) (hlo : M.2.2.2.2.2.1.2 ≤ R.locals) (hc1 : cells + mc ≤ R.cells) (hc2 : slots + ms ≤ R.slots) (hn2 : tl.length = n) (hst : st = tl.reverse ++ .ref b0 :: rest) (hrc : ∃ cell : Cell, H[am_ad b base b0]? = some cell ∧ cell.vm.isStatics = false ∧ s.vm.findClass K.1.cls = some cell.cls) (hin : (Jvm.Cond.instanceMethod K.1).before args s = true) (hse : (Jvm.Cond.selects K.1.cls K.1 K.1).before args s = true)
    (hM : Met l K.1 (Jvm.Cond.code K.1 K.2.1 K.2.2.1 K.2.2.2.1 :: am_tw) ({ frames := K.2.2.2.2.2.1.1, cells := mc, slots := ms, locals := K.2.2.2.2.2.1.2 }) (am_Pc b base aC D L xs (.ref b0 :: tl) h) (am_Qc b base aC D L xs r1 h1) mc ms (am_A base)) :
    va_Run p l e R s m args below meth c H locs cells slots mc ms (F0 m (am_pc M j) LS (st.map (am_cv b base))) (rest.map (am_cv b base)) (am_Qc b base aC D L xs r1 h1 ((.ref b0 :: tl).map (am_cv b base)).toArray) (am_A base) := by
  obtain ⟨hx, hb, hml, hr, hown, hts, hlocks, hname, hK, hX, hbb, hbs, hnw, haS, haI⟩ := id C0
  obtain ⟨hR, hS0, hS, hlv, hlen⟩ := X
  have hsize : LS.size = M.2.2.1 := by rw [hlv.1, hlen]
  have hpre : ∀ U : State, U.heap = H → s.WarmedH U.vm → am_Pc b base aC D L xs (.ref b0 :: tl) h ((.ref b0 :: tl).map (am_cv b base)).toArray U := fun U hU hW => am_Pc_at C0 hR hS0 hS hz U hU hW
  have S : CallFix p m c M.2.1 M.2.2.1 s args am_tw (am_own M.2.2.2.2.1) := ⟨hx, hb, hml, hown, hts⟩
  have hpay := am_pay (K := K) hts hcw
  have hcb := hts _ hcw
  have r1' : K.2.2.2.2.2.1.1 + 1 ≤ R.frames := by omega
  have r2' : 8 + (K.2.2.1 + 11) + K.2.2.2.2.2.1.2 ≤ R.locals := by omega
  have hstk : (F0 m (am_pc M j) LS (st.map (am_cv b base))).stack = (tl.map (am_cv b base)).reverse ++ .ref (am_ad b base b0) :: rest.map (am_cv b base) := by
    show st.map (am_cv b base) = _
    rw [hst]
    simp [am_cv]
  have hn3 : (tl.map (am_cv b base)).length = n := by rw [List.length_map]; exact hn2
  rcases hlink with hl | hl
  · exact va_runV (C := K.1.cls) (n := n) (bytes := K.2.1) (maxL := K.2.2.1) (ret := K.2.2.2.1) S hM ⟨⟨rfl, rfl, r1', r2', hpay, List.mem_cons_self, hcb, hini, hmh, hpar, hl⟩, hin, hse⟩ ⟨am_Pc_blind, hrc, hpre⟩ rfl hn3 hsize hstk (lv_room hsum) hdec ⟨hc1, hc2⟩
  · exact va_runVN (C := K.1.cls) (host := "SpiteLine") (n := n) (bytes := K.2.1) (maxL := K.2.2.1) (ret := K.2.2.2.1) S hM ⟨⟨⟨rfl, rfl, r1', r2', hpay, List.mem_cons_self⟩, hcb, hini, hmh, hpar, hl⟩, hin, hse⟩ ⟨am_Pc_blind, hrc, hpre⟩ rfl hn3 hsize hstk (lv_room hsum) hdec ⟨hc1, hc2⟩
set_option maxHeartbeats 1000000 in
theorem am_vrunS {M K : am_M} {j n idx b0 mc ms : Nat} {tl rest st ls : List Value} {h h1 : am_H} {r1 : Option Value} {LS : Array Slot} (hdec : decode M.2.1 (am_pc M j) = .ok (.invokestatic idx, 3)) (hlink : (Jvm.Cond.methodLink (am_own M.2.2.2.2.1) idx K.1).before args s = true ∨ (Jvm.Cond.methodLinkNest (am_own M.2.2.2.2.1) idx K.1 "SpiteLine").before args s = true)
    (hnd : K.2.2.2.2.2.1.1 + 1 ≤ M.2.2.2.2.2.1.1) (hnl : 19 + K.2.2.1 + K.2.2.2.2.2.1.2 ≤ M.2.2.2.2.2.1.2) (hcw : Jvm.Cond.code K.1 K.2.1 K.2.2.1 K.2.2.2.1 ∈ am_tw) (hini : (Jvm.Cond.initialized K.1.cls).before args s = true) (hmh : K.1.cls ≠ "java/lang/invoke/MethodHandle" ∧ K.1.cls ≠ "java/lang/invoke/VarHandle")
    (hpar : ∀ sig, parseMethodDescriptor K.1.desc = some sig → n = sig.parameters.length) (hsum : ((rest.map (am_cv b base)).map fun v => v.category).sum ≤ 8) (C0 : am_ctx b base aC D L xs p s m args meth c M) (X : am_st b base aC D L xs M.2.2.1 s h H locs ls LS) (hz : H.size = base + h.2.1) (hfr : M.2.2.2.2.2.1.1 ≤ R.frames) (hlo : M.2.2.2.2.2.1.2 ≤ R.locals) (hc1 : cells + mc ≤ R.cells) (hc2 : slots + ms ≤ R.slots) (hn2 : tl.length = n) (hst : st = tl.reverse ++ rest) (hsm : (Jvm.Cond.static K.1).before args s = true)
    (hM : Met l K.1 (Jvm.Cond.code K.1 K.2.1 K.2.2.1 K.2.2.2.1 :: am_tw) ({ frames := K.2.2.2.2.2.1.1, cells := mc, slots := ms, locals := K.2.2.2.2.2.1.2 }) (am_Pc b base aC D L xs tl h) (am_Qc b base aC D L xs r1 h1) mc ms (am_A base)) :
    va_Run p l e R s m args below meth c H locs cells slots mc ms (F0 m (am_pc M j) LS (st.map (am_cv b base))) (rest.map (am_cv b base)) (am_Qc b base aC D L xs r1 h1 (tl.map (am_cv b base)).toArray) (am_A base) := by
  obtain ⟨hx, hb, hml, hr, hown, hts, hlocks, hname, hK, hX, hbb, hbs, hnw, haS, haI⟩ := id C0
  obtain ⟨hR, hS0, hS, hlv, hlen⟩ := X
  have hsize : LS.size = M.2.2.1 := by rw [hlv.1, hlen]
  have hpre : ∀ U : State, U.heap = H → s.WarmedH U.vm → am_Pc b base aC D L xs tl h (tl.map (am_cv b base)).toArray U := fun U hU hW => am_Pc_at C0 hR hS0 hS hz U hU hW
  have S : CallFix p m c M.2.1 M.2.2.1 s args am_tw (am_own M.2.2.2.2.1) := ⟨hx, hb, hml, hown, hts⟩
  have hpay := am_pay (K := K) hts hcw
  have hcb := hts _ hcw
  have r1' : K.2.2.2.2.2.1.1 + 1 ≤ R.frames := by omega
  have r2' : 8 + (K.2.2.1 + 11) + K.2.2.2.2.2.1.2 ≤ R.locals := by omega
  have hstk : (F0 m (am_pc M j) LS (st.map (am_cv b base))).stack = (tl.map (am_cv b base)).reverse ++ rest.map (am_cv b base) := by
    show st.map (am_cv b base) = _
    rw [hst]
    simp
  have hn3 : (tl.map (am_cv b base)).length = n := by rw [List.length_map]; exact hn2
  rcases hlink with hl | hl
  · exact va_runS (n := n) (bytes := K.2.1) (maxL := K.2.2.1) (ret := K.2.2.2.1) S hM ⟨⟨rfl, rfl, r1', r2', hpay, List.mem_cons_self, hcb, hini, hmh, hpar, hl⟩, hsm⟩ ⟨am_Pc_blind, hpre⟩ rfl hn3 hsize hstk (lv_room hsum) hdec ⟨hc1, hc2⟩
  · exact va_runSN (host := "SpiteLine") (n := n) (bytes := K.2.1) (maxL := K.2.2.1) (ret := K.2.2.2.1) S hM ⟨⟨⟨rfl, rfl, r1', r2', hpay, List.mem_cons_self⟩, hcb, hini, hmh, hpar, hl⟩, hsm, trivial⟩ ⟨am_Pc_blind, hpre⟩ rfl hn3 hsize hstk (lv_room hsum) hdec ⟨hc1, hc2⟩
set_option maxHeartbeats 1000000 in
theorem am_vrunI {M K : am_M} {j n idx b0 mc ms : Nat} {tl rest st ls : List Value} {h h1 : am_H} {r1 : Option Value} {LS : Array Slot} (hdec : decode M.2.1 (am_pc M j) = .ok (.invokespecial idx, 3)) (hlink : (Jvm.Cond.methodLink (am_own M.2.2.2.2.1) idx K.1).before args s = true ∨ (Jvm.Cond.methodLinkNest (am_own M.2.2.2.2.1) idx K.1 "SpiteLine").before args s = true)
    (hnd : K.2.2.2.2.2.1.1 + 1 ≤ M.2.2.2.2.2.1.1) (hnl : 19 + K.2.2.1 + K.2.2.2.2.2.1.2 ≤ M.2.2.2.2.2.1.2) (hcw : Jvm.Cond.code K.1 K.2.1 K.2.2.1 K.2.2.2.1 ∈ am_tw) (hini : (Jvm.Cond.initialized K.1.cls).before args s = true) (hmh : K.1.cls ≠ "java/lang/invoke/MethodHandle" ∧ K.1.cls ≠ "java/lang/invoke/VarHandle")
    (hpar : ∀ sig, parseMethodDescriptor K.1.desc = some sig → n = sig.parameters.length) (hsum : ((rest.map (am_cv b base)).map fun v => v.category).sum ≤ 8) (C0 : am_ctx b base aC D L xs p s m args meth c M) (X : am_st b base aC D L xs M.2.2.1 s h H locs ls LS) (hz : H.size = base + h.2.1) (hfr : M.2.2.2.2.2.1.1 ≤ R.frames) (hlo : M.2.2.2.2.2.1.2 ≤ R.locals) (hc1 : cells + mc ≤ R.cells) (hc2 : slots + ms ≤ R.slots) (hn2 : tl.length = n) (hst : st = tl.reverse ++ .ref b0 :: rest) (hnm : K.1.name = "<init>") (hrt : K.2.2.2.1 = none) (hin : (Jvm.Cond.instanceMethod K.1).before args s = true)
    (hM : Met l K.1 (Jvm.Cond.code K.1 K.2.1 K.2.2.1 K.2.2.2.1 :: am_tw) ({ frames := K.2.2.2.2.2.1.1, cells := mc, slots := ms, locals := K.2.2.2.2.2.1.2 }) (am_Pc b base aC D L xs (.ref b0 :: tl) h) (am_Qc b base aC D L xs r1 h1) mc ms (am_A base)) :
    va_Run p l e R s m args below meth c H locs cells slots mc ms (F0 m (am_pc M j) LS (st.map (am_cv b base))) (rest.map (am_cv b base)) (am_Qc b base aC D L xs r1 h1 ((.ref b0 :: tl).map (am_cv b base)).toArray) (am_A base) := by
  obtain ⟨hx, hb, hml, hr, hown, hts, hlocks, hname, hK, hX, hbb, hbs, hnw, haS, haI⟩ := id C0
  obtain ⟨hR, hS0, hS, hlv, hlen⟩ := X
  have hsize : LS.size = M.2.2.1 := by rw [hlv.1, hlen]
  have hpre : ∀ U : State, U.heap = H → s.WarmedH U.vm → am_Pc b base aC D L xs (.ref b0 :: tl) h ((.ref b0 :: tl).map (am_cv b base)).toArray U := fun U hU hW => am_Pc_at C0 hR hS0 hS hz U hU hW
  have S : CallFix p m c M.2.1 M.2.2.1 s args am_tw (am_own M.2.2.2.2.1) := ⟨hx, hb, hml, hown, hts⟩
  have hpay := am_pay (K := K) hts hcw
  have hcb := hts _ hcw
  have r1' : K.2.2.2.2.2.1.1 + 1 ≤ R.frames := by omega
  have r2' : 8 + (K.2.2.1 + 11) + K.2.2.2.2.2.1.2 ≤ R.locals := by omega
  have hstk : (F0 m (am_pc M j) LS (st.map (am_cv b base))).stack = (tl.map (am_cv b base)).reverse ++ .ref (am_ad b base b0) :: rest.map (am_cv b base) := by
    show st.map (am_cv b base) = _
    rw [hst]
    simp [am_cv]
  have hn3 : (tl.map (am_cv b base)).length = n := by rw [List.length_map]; exact hn2
  rw [hrt] at hM hpay hcb
  rcases hlink with hl | hl
  · exact va_runI (n := n) (bytes := K.2.1) (maxL := K.2.2.1) S hM ⟨⟨rfl, rfl, r1', r2', hpay, List.mem_cons_self, hcb, hini, hmh, hpar, hl⟩, hnm, hin⟩ ⟨am_Pc_blind, hpre⟩ rfl hn3 hsize hstk (lv_room hsum) hdec ⟨hc1, hc2⟩
  · exact va_runIN (host := "SpiteLine") (n := n) (bytes := K.2.1) (maxL := K.2.2.1) S hM ⟨⟨⟨rfl, rfl, r1', r2', hpay, List.mem_cons_self⟩, hcb, hini, hmh, hpar, hl⟩, hnm, hin⟩ ⟨am_Pc_blind, hpre⟩ rfl hn3 hsize hstk (lv_room hsum) hdec ⟨hc1, hc2⟩
set_option maxHeartbeats 1000000 in
theorem am_vrun {M : am_M} {j k n idx kd : Nat} {ins : Instr} {len : Nat} {vv : Value} {sw : List (Int32 × Nat)} {st ls : List Value} {h h1 : am_H} {r1 : Option Value} {LS : Array Slot} {mc ms : Nat}
    (hkd : (ins = .invokevirtual idx ∧ kd = 0) ∨ (ins = .invokestatic idx ∧ kd = 1) ∨ (ins = .invokespecial idx ∧ kd = 2)) (hdec : decode M.2.1 (am_pc M j) = .ok (ins, 3)) (hcal : am_cal M idx k n kd = true) (hok : am_callok (ins, len, k, n, vv, sw) (am_tab k) st h = true)
    (C0 : am_ctx b base aC D L xs p s m args meth c M) (X : am_st b base aC D L xs M.2.2.1 s h H locs ls LS) (hz : H.size = base + h.2.1) (hfr : M.2.2.2.2.2.1.1 ≤ R.frames) (hlo : M.2.2.2.2.2.1.2 ≤ R.locals) (hc1 : cells + mc ≤ R.cells) (hc2 : slots + ms ≤ R.slots)
    (hM : Met l (am_tab k).1 (Jvm.Cond.code (am_tab k).1 (am_tab k).2.1 (am_tab k).2.2.1 (am_tab k).2.2.2.1 :: am_tw) ({ frames := (am_tab k).2.2.2.2.2.1.1, cells := mc, slots := ms, locals := (am_tab k).2.2.2.2.2.1.2 }) (am_Pc b base aC D L xs (st.take n).reverse h) (am_Qc b base aC D L xs r1 h1) mc ms (am_A base)) :
    va_Run p l e R s m args below meth c H locs cells slots mc ms (F0 m (am_pc M j) LS (st.map (am_cv b base))) ((st.drop n).map (am_cv b base)) (am_Qc b base aC D L xs r1 h1 ((st.take n).reverse.map (am_cv b base)).toArray) (am_A base) := by
  obtain ⟨hx, hb, hml, hr, hown, hts, hlocks, hname, hK, hX, hbb, hbs, hnw, haS, haI⟩ := id C0
  obtain ⟨hR, hS0, hS, hlv, hlen⟩ := id X
  simp only [am_cal, Bool.and_eq_true, Bool.or_eq_true, decide_eq_true_eq] at hcal
  obtain ⟨hk, hlink, ⟨hnd, hnl⟩, ⟨hpar, hpos⟩, hkk⟩ := hcal
  simp only [am_callok, Bool.and_eq_true, decide_eq_true_eq] at hok
  obtain ⟨hrcv, hsum, hcat, hmx, htl⟩ := hok
  have hkr : k ∈ List.range 150 := List.mem_range.mpr (by have : am_nm = 151 := rfl; omega)
  obtain ⟨hcls, hnl2, hpl, hmh1, hmh2⟩ := w_cls k hkr
  have hcw : Jvm.Cond.code (am_tab k).1 (am_tab k).2.1 (am_tab k).2.2.1 (am_tab k).2.2.2.1 ∈ am_tw := by
    rcases w_code k with q | q
    · exfalso
      apply hnl2
      rw [q]
      rfl
    · exact q
  have hini := hts _ (w_ini k hkr)
  have hlw : (Jvm.Cond.methodLink (am_own M.2.2.2.2.1) idx (am_tab k).1).before args s = true ∨ (Jvm.Cond.methodLinkNest (am_own M.2.2.2.2.1) idx (am_tab k).1 "SpiteLine").before args s = true := by
    rcases hlink with hl | hl
    · exact Or.inl (hts _ (w_ml (M.2.2.2.2.1, idx, k) hl))
    · exact Or.inr (va_Nw.use (w := Jvm.Cond.methodLinkNest (am_own M.2.2.2.2.1) idx (am_tab k).1 "SpiteLine") rfl (hnw (M.2.2.2.2.1, idx, k) hl))
  have hW8 : (((st.drop n).map (am_cv b base)).map fun v => v.category).sum ≤ 8 := by
    rw [am_cv_sum]
    exact hsum
  have hst : st = ((st.take n).reverse).reverse ++ st.drop n := by
    rw [List.reverse_reverse, List.take_append_drop]
  have hAl : (st.take n).reverse.length = n := by rw [List.length_reverse]; exact htl
  have hsg : ∀ (q : Nat), (parseMethodDescriptor (am_tab k).1.desc).map (fun d => d.parameters.length) = some q → ∀ sig, parseMethodDescriptor (am_tab k).1.desc = some sig → q = sig.parameters.length := by
    intro q hq sig h2
    rw [h2] at hq
    exact (Option.some.inj hq).symm
  rcases hkd with ⟨rfl, rfl⟩ | ⟨rfl, rfl⟩ | ⟨rfl, rfl⟩
  · simp only [Nat.zero_ne_one, if_false, show ¬ (0 : Nat) = 2 from by omega, decide_eq_true_eq] at hkk hpar
    obtain ⟨hkin, hk11⟩ := w_lse k hkk
    have hin := hts _ (w_im k hkin)
    have hse := hts _ (w_sel k hkk)
    unfold am_rcv at hrcv
    dsimp only at hrcv
    generalize (st.take n).reverse = As at *
    split at hrcv
    · rename_i b0 tl
      split at hrcv
      · rename_i ci fs hcell
        have hci : ci = (am_tab k).2.2.2.2.1 := by simpa using hrcv
        have hrc : ∃ cell : Cell, H[am_ad b base b0]? = some cell ∧ cell.vm.isStatics = false ∧ s.vm.findClass (am_tab k).1.cls = some cell.cls := by
          obtain ⟨k0, rfl, hk0⟩ := am_place_obj hR hS0 hcell (by omega)
          have hat : (am_ws b base aC h)[k0]? = some (am_ad b base (k0 + 1), .inr (ci, fs.map (am_cv b base))) := by
            rw [am_ws_at hk0, hcell]
            rfl
          have hrc := va_recv hK hR.1 (am_cls (ci := ci) (by omega)) hat
          rw [hcls, ← hci]
          exact hrc
        generalize am_tab k = K at *
        exact am_vrunV hdec hlw hnd hnl hcw hini ⟨hmh1, hmh2⟩ (hsg _ hpar) hW8 C0 X hz hfr hlo hc1 hc2 (by simp only [List.length_cons] at hAl; omega) (by rw [List.reverse_cons, List.append_assoc] at hst; exact hst) hrc hin hse hM
      · cases hrcv
    · cases hrcv
  · simp only [if_true, show ¬ (1 : Nat) = 2 from by omega, if_false, decide_eq_true_eq] at hkk hpar
    have hsm := hts _ (w_sm k hkk)
    generalize (st.take n).reverse = As at *
    generalize am_tab k = K at *
    exact am_vrunS (b0 := 0) hdec hlw hnd hnl hcw hini ⟨hmh1, hmh2⟩ (hsg _ hpar) hW8 C0 X hz hfr hlo hc1 hc2 hAl hst hsm hM
  · simp only [if_true, show ¬ (2 : Nat) = 1 from by omega, if_false, decide_eq_true_eq] at hkk hpar
    obtain ⟨hnm, hrt, hkin⟩ := hkk
    have hin := hts _ (w_im k hkin)
    unfold am_rcv at hrcv
    dsimp only at hrcv
    generalize (st.take n).reverse = As at *
    split at hrcv
    · rename_i b0 tl
      generalize am_tab k = K at *
      exact am_vrunI hdec hlw hnd hnl hcw hini ⟨hmh1, hmh2⟩ (hsg _ hpar) hW8 C0 X hz hfr hlo hc1 hc2 (by simp only [List.length_cons] at hAl; omega) (by rw [List.reverse_cons, List.append_assoc] at hst; exact hst) hnm hrt hin hM
    · cases hrcv
end AMR
end
section
/-! THE RUN IS SOUND: what the abstract machine comes to, the machine comes to -/
theorem am_kind0 {I : am_I} (h : am_kind I = 0) {j : Nat} {ls st : List Value} {hh : am_H} {q : am_F × am_H} (e : am_step I j ls st hh = some q) : I.1 ≠ .nop := by
  obtain ⟨ins, z⟩ := I
  rintro rfl
  cases e
theorem am_kind1 {I : am_I} (h : am_kind I = 1) : ∃ idx, (I.1 = .invokevirtual idx) ∨ (I.1 = .invokestatic idx ∧ ¬ 1000 < I.2.2.1) ∨ (I.1 = .invokespecial idx ∧ ¬ I.2.2.1 = 1000) := by
  unfold am_kind at h
  split at h
  · cases h
  · cases h
  · rename_i i hi
    exact ⟨i, Or.inl hi⟩
  · rename_i i hi
    split at h
    · cases h
    · rename_i q
      exact ⟨i, Or.inr (Or.inr ⟨hi, q⟩)⟩
  · rename_i i hi
    split at h
    · cases h
    · rename_i q
      exact ⟨i, Or.inr (Or.inl ⟨hi, q⟩)⟩
  · cases h
section AMX
variable {b base L : Nat} {xs : Nat → Int32} {aC : FieldType → ClassId} {D : va_G}
/-- what a run says of the machine -/
def am_says (b base : Nat) (aC : FieldType → ClassId) (D : va_G) (L : Nat) (xs : Nat → Int32) (l : Launch) (M : am_M) (F : am_F) (h h' : am_H) (r : Option Value) : Prop :=
  ∀ (p : Program) (e : Env) (R : Room) (s : State) (m : MethodId) (args : Array Value) (below : List Frame) (meth : Method) (c : Code) (H : Heap) (locs : List Loc) (cells slots : Nat) (Q : State → Prop) (LS : Array Slot),
    am_ctx b base aC D L xs p s m args meth c M → am_st b base aC D L xs M.2.2.1 s h H locs F.2.1 LS → s.heap.size + cells = base + h.2.1 → cells + (h'.2.1 - h.2.1) ≤ R.cells → slots + (h'.2.2 - h.2.2) ≤ R.slots → M.2.2.2.2.2.1.1 ≤ R.frames → M.2.2.2.2.2.1.2 ≤ R.locals →
    (∀ (H1 : Heap) (locs1 : List Loc) (LS1 : Array Slot) (j1 : Nat), am_rel b base aC D h' H1 → am_scr L xs h' → va_S (am_A base) s.heap H1 locs1 → am_retok M j1 r → W p l e R s m args below meth c H1 locs1 (cells + (h'.2.1 - h.2.1)) (slots + (h'.2.2 - h.2.2)) Q (F0 m (am_pc M j1) LS1 (r.toList.map (am_cv b base)))) →
    W p l e R s m args below meth c H locs cells slots Q (F0 m (am_pc M F.1) LS (F.2.2.map (am_cv b base)))
set_option maxHeartbeats 1000000 in
theorem am_met {l : Launch} {k : Nat} {As : List Value} {h h1 : am_H} {r1 : Option Value} (hk : k + 1 < am_nm) (hchk : am_chkM (am_tab k) = true) (hc : ∀ v ∈ As, am_isL v = false) (hn : As.length ≤ (am_tab k).2.2.1) (hmono : h.2.1 ≤ h1.2.1 ∧ h.2.2 ≤ h1.2.2)
    (hS : am_says b base aC D L xs l (am_tab k) (0, am_entry (am_tab k) As, []) h h1 r1) :
    Met l (am_tab k).1 (Jvm.Cond.code (am_tab k).1 (am_tab k).2.1 (am_tab k).2.2.1 (am_tab k).2.2.2.1 :: am_tw) ({ frames := (am_tab k).2.2.2.2.2.1.1, cells := h1.2.1 - h.2.1, slots := h1.2.2 - h.2.2, locals := (am_tab k).2.2.2.2.2.1.2 }) (am_Pc b base aC D L xs As h) (am_Qc b base aC D L xs r1 h1) (h1.2.1 - h.2.1) (h1.2.2 - h.2.2) (am_A base) := by
  have hkr : k ∈ List.range 150 := List.mem_range.mpr (by have : am_nm = 151 := rfl; omega)
  obtain ⟨hcls, hnl2, hpl, hmh1, hmh2⟩ := w_cls k hkr
  generalize am_tab k = K at *
  refine Met.ofW (cc := K.2.1) (maxL := K.2.2.1) (ret := K.2.2.2.1) hpl rfl ?_
  intro p e s m args below meth c s₁ B hml hv
  obtain ⟨rfl, hR, hS0, hsz, hK, hX, hbb, hnw, haS, haI⟩ := hv
  have hts0 := atoms_spec (ws := Jvm.Cond.code K.1 K.2.1 K.2.2.1 K.2.2.2.1 :: am_tw) B.pre
  have hlocks := B.notSynchronized
  have hx := B.exec
  have hb := B.bytes
  have hr := B.returns
  obtain ⟨LS, hent, hlv, hlen⟩ := am_entry_lv (b := b) (base := base) (M := K) hc hn
  rw [hent m]
  have hpc0 : am_pc K 0 = 0 := by
    unfold am_chkM at hchk
    rw [Bool.and_eq_true] at hchk
    exact of_decide_eq_true hchk.1
  have C0 : am_ctx b base aC D L xs p s m (As.map (am_cv b base)).toArray meth c K := ⟨hx, hb, hml, hr, by rw [← hcls]; exact findClass_of_methodNamed B.named, fun w hw => hts0 w (List.mem_cons_of_mem _ hw), hlocks, (name_of_methodNamed B.named B.method).1, hK, hX, hbb, by omega, hnw, haS, haI⟩
  have := hS p e ((headSpec (Jvm.Cond.code K.1 K.2.1 K.2.2.1 K.2.2.2.1 :: am_tw) ({ frames := K.2.2.2.2.2.1.1, cells := h1.2.1 - h.2.1, slots := h1.2.2 - h.2.2, locals := K.2.2.2.2.2.1.2 })).room) s m (As.map (am_cv b base)).toArray below meth c s.heap [] 0 0 (MQ below (am_Qc b base aC D L xs r1 h1) (As.map (am_cv b base)).toArray s (h1.2.1 - h.2.1) (h1.2.2 - h.2.2) (am_A base)) LS C0 ⟨hR, hS0, va_S.rf, hlv, hlen⟩ (by omega) (by show 0 + _ ≤ h1.2.1 - h.2.1; omega) (by show 0 + _ ≤ h1.2.2 - h.2.2; omega) (Nat.le_refl _) (Nat.le_refl _) ?_
  · dsimp only at this
    rw [hpc0] at this
    exact this
  · intro H1 locs1 LS1 j1 hR1 hS1 hSS hok
    rw [Nat.zero_add, Nat.zero_add]
    have hq : ∀ t : State, t.heap = H1 → am_Qc b base aC D L xs r1 h1 (As.map (am_cv b base)).toArray s (.returned (r1.map (am_cv b base))) t := fun t ht => ⟨rfl, by rw [ht]; exact hR1, hS1, by rw [ht]; exact hSS.1, fun q g1 g2 => by rw [ht]; exact hSS.2.1 q g1 g2⟩
    rcases hok with ⟨v, rfl, hd, ty, hty, hnr⟩ | ⟨rfl, hd, hty⟩
    · exact W.zret hx hb (hr.trans hty) hnr (fun t ht _ => hq t ht) hSS.2.2 hd
    · exact W.vret hx hb (hr.trans hty) (fun t ht _ => hq t ht) hSS.2.2 hd
set_option maxHeartbeats 1000000 in
theorem am_sound (hT : ∀ k, am_chkM (am_tab k) = true) (l : Launch) : ∀ (f : Nat) {M : am_M} {F : am_F} {h h' : am_H} {r : Option Value}, am_chkM M = true → am_run f M F h = some (r, h') → am_says b base aC D L xs l M F h h' r
  | 0, _, _, _, _, _, _, er => by cases er
  | f + 1, M, F, h, h', r, hM, er => by
    intro p e R s m args below meth c H locs cells slots Q LS C0 X hcnt hcl hsl hfr hlo kk
    unfold am_run at er
    split at er
    · rename_i hkd
      split at er
      · rename_i F1 h1 e1
        have g1 := am_step_mono e1
        have g2 := am_run_mono f er
        refine am_step_sound (am_chk_of hM (am_kind0 hkd e1)) C0 hkd e1 X hcnt (by omega) (by omega) hfr hlo (fun H1 locs1 LS1 X1 => ?_)
        refine am_sound hT l f hM er p e R s m args below meth c H1 locs1 _ _ Q LS1 C0 X1 (by omega) (by omega) (by omega) hfr hlo (fun H2 locs2 LS2 j2 q1 q2 q3 q4 => ?_)
        have := kk H2 locs2 LS2 j2 q1 q2 q3 q4
        rw [show cells + (h1.2.1 - h.2.1) + (h'.2.1 - h1.2.1) = cells + (h'.2.1 - h.2.1) by omega, show slots + (h1.2.2 - h.2.2) + (h'.2.2 - h1.2.2) = slots + (h'.2.2 - h.2.2) by omega]
        exact this
      · cases er
    · rename_i hkd
      split at er
      · rename_i hok
        split at er
        · rename_i r1 h1 e1
          have g1 := am_run_mono f e1
          have g2 := am_run_mono f er
          obtain ⟨idx, hidx⟩ := am_kind1 hkd
          have hno : (am_ins M F.1).1 ≠ .nop := by
            rcases hidx with q | ⟨q, -⟩ | ⟨q, -⟩ <;> rw [q] <;> exact fun z => by cases z
          have hchk := am_chk_of hM hno
          unfold am_chk at hchk
          rw [Bool.and_eq_true, decide_eq_true_eq] at hchk
          obtain ⟨hdec, hI⟩ := hchk
          obtain ⟨⟨ins, len, k, n, v, sw⟩, hins⟩ : ∃ I, am_ins M F.1 = I := ⟨_, rfl⟩
          rw [hins] at hok e1 er hdec hI hidx
          dsimp only at hdec hidx e1 er hok
          have key : ∃ kd, ((ins = .invokevirtual idx ∧ kd = 0) ∨ (ins = .invokestatic idx ∧ kd = 1) ∨ (ins = .invokespecial idx ∧ kd = 2)) ∧ am_nx M F.1 3 = true ∧ am_cal M idx k n kd = true := by
            rcases hidx with rfl | ⟨rfl, hq⟩ | ⟨rfl, hq⟩
            · simp only [am_chkI, Bool.and_eq_true] at hI
              exact ⟨0, Or.inl ⟨rfl, rfl⟩, hI.1, hI.2⟩
            · simp only [am_chkI, Bool.and_eq_true] at hI
              rw [if_neg (by omega), if_neg hq] at hI
              exact ⟨1, Or.inr (Or.inl ⟨rfl, rfl⟩), hI.1, hI.2⟩
            · simp only [am_chkI, Bool.and_eq_true] at hI
              rw [if_neg hq] at hI
              exact ⟨2, Or.inr (Or.inr ⟨rfl, rfl⟩), hI.1, hI.2⟩
          obtain ⟨kd, hkd2, hnx, hcal⟩ := key
          obtain ⟨rfl, hn⟩ := am_nx_spec hins hnx
          have hk : k + 1 < am_nm := by
            simp only [am_cal, Bool.and_eq_true, decide_eq_true_eq] at hcal
            exact hcal.1
          have hok2 := hok
          simp only [am_callok, Bool.and_eq_true, decide_eq_true_eq] at hok2
          obtain ⟨-, -, hcat, hmx, htl⟩ := hok2
          refine am_size (fun hz => ?_)
          have hbs : base ≤ s.heap.size := C0.2.2.2.2.2.2.2.2.2.2.2.1
          have hHs : H.size = base + h.2.1 := Nat.le_antisymm (by omega) (am_rel_lb X.1 (Nat.le_trans hbs X.2.2.1.1))
          have hMet := am_met (b := b) (base := base) (L := L) (xs := xs) (aC := aC) (D := D) (l := l) (As := (F.2.2.take n).reverse) hk (hT k) (fun v hv => by
              have := List.all_eq_true.mp hcat v (List.mem_reverse.mp hv)
              simpa using this) (by rw [List.length_reverse, htl]; exact hmx) g1 (am_sound hT l f (hT k) e1)
          have hrun := am_vrun (p := p) (e := e) (below := below) (cells := cells) (slots := slots) hkd2 hdec hcal hok C0 X hHs hfr hlo (by omega) (by omega) hMet
          refine am_after hrun X.2.2.1 (fun H1 locs1 q1 q2 q3 => ?_)
          have hmap : (r1.map (am_cv b base)).toList ++ (F.2.2.drop n).map (am_cv b base) = (r1.toList ++ F.2.2.drop n).map (am_cv b base) := by cases r1 <;> simp
          rw [hmap, ← hn]
          refine am_sound hT l f hM er p e R s m args below meth c H1 locs1 _ _ Q LS C0 ⟨q1, q2, q3, X.2.2.2.1, X.2.2.2.2⟩ (by omega) (by omega) (by omega) hfr hlo (fun H2 locs2 LS2 j2 z1 z2 z3 z4 => ?_)
          have := kk H2 locs2 LS2 j2 z1 z2 z3 z4
          rw [show cells + (h1.2.1 - h.2.1) + (h'.2.1 - h1.2.1) = cells + (h'.2.1 - h.2.1) by omega, show slots + (h1.2.2 - h.2.2) + (h'.2.2 - h1.2.2) = slots + (h'.2.2 - h.2.2) by omega]
          exact this
        · cases er
      · cases er
    · split at er
      · rename_i r' hret
        cases er
        have hno : (am_ins M F.1).1 ≠ .nop := by
          intro q
          unfold am_ret at hret
          rw [q] at hret
          cases hret
        obtain ⟨hok, hst⟩ := am_ret_spec (am_chk_of hM hno) hret
        have := kk H locs LS F.1 X.1 X.2.1 X.2.2.1 hok
        rw [Nat.sub_self, Nat.sub_self] at this
        rw [hst]
        exact this
      · cases er
end AMX
end
section
/-! the tables are checked, method by method -/
theorem ck_Sp_init : am_chkM M_Sp_init = true := by decide +kernel
theorem ck_Text_init : am_chkM M_Text_init = true := by decide +kernel
theorem ck_Reader_init : am_chkM M_Reader_init = true := by decide +kernel
theorem ck_Line_init : am_chkM M_Line_init = true := by decide +kernel
theorem ck_Scene_init : am_chkM M_Scene_init = true := by decide +kernel
theorem ck_Deeds_init : am_chkM M_Deeds_init = true := by decide +kernel
theorem ck_Witness_init : am_chkM M_Witness_init = true := by decide +kernel
theorem ck_Book_init : am_chkM M_Book_init = true := by decide +kernel
theorem ck_Draws_init : am_chkM M_Draws_init = true := by decide +kernel
theorem ck_Image_init : am_chkM M_Image_init = true := by decide +kernel
theorem ck_Sp_feed : am_chkM M_Sp_feed = true := by decide +kernel
theorem ck_Text_add : am_chkM M_Text_add = true := by decide +kernel
theorem ck_Sp_line : am_chkM M_Sp_line = true := by decide +kernel
theorem ck_Reader_read : am_chkM M_Reader_read = true := by decide +kernel
theorem ck_Line_clear : am_chkM M_Line_clear = true := by decide +kernel
theorem ck_Scene_clear : am_chkM M_Scene_clear = true := by decide +kernel
theorem ck_Reader_skipBlanks : am_chkM M_Reader_skipBlanks = true := by decide +kernel
theorem ck_Text_letterAt : am_chkM M_Text_letterAt = true := by decide +kernel
theorem ck_Reader_readClause : am_chkM M_Reader_readClause = true := by decide +kernel
theorem ck_Line_isTold : am_chkM M_Line_isTold = true := by decide +kernel
theorem ck_Reader_blame : am_chkM M_Reader_blame = true := by decide +kernel
theorem ck_Reader_readStations : am_chkM M_Reader_readStations = true := by decide +kernel
theorem ck_Reader_readNumber : am_chkM M_Reader_readNumber = true := by decide +kernel
theorem ck_Reader_isFigure : am_chkM M_Reader_isFigure = true := by decide +kernel
theorem ck_Reader_readEnd : am_chkM M_Reader_readEnd = true := by decide +kernel
theorem ck_Reader_readPerson : am_chkM M_Reader_readPerson = true := by decide +kernel
theorem ck_Sp_bit : am_chkM M_Sp_bit = true := by decide +kernel
theorem ck_Sp_withBit : am_chkM M_Sp_withBit = true := by decide +kernel
theorem ck_Line_takeFrom : am_chkM M_Line_takeFrom = true := by decide +kernel
theorem ck_Scene_takeFrom : am_chkM M_Scene_takeFrom = true := by decide +kernel
theorem ck_Sp_fault : am_chkM M_Sp_fault = true := by decide +kernel
theorem ck_Sp_told : am_chkM M_Sp_told = true := by decide +kernel
theorem ck_Scene_awaited : am_chkM M_Scene_awaited = true := by decide +kernel
theorem ck_Scene_shows : am_chkM M_Scene_shows = true := by decide +kernel
theorem ck_Scene_alarm : am_chkM M_Scene_alarm = true := by decide +kernel
theorem ck_Scene_arrived : am_chkM M_Scene_arrived = true := by decide +kernel
theorem ck_Scene_hasArrived : am_chkM M_Scene_hasArrived = true := by decide +kernel
theorem ck_Sp_person : am_chkM M_Sp_person = true := by decide +kernel
theorem ck_Line_hasPerson : am_chkM M_Line_hasPerson = true := by decide +kernel
theorem ck_Sp_station : am_chkM M_Sp_station = true := by decide +kernel
theorem ck_Line_hasStation : am_chkM M_Line_hasStation = true := by decide +kernel
theorem ck_Scene_standing : am_chkM M_Scene_standing = true := by decide +kernel
theorem ck_Scene_mostShown : am_chkM M_Scene_mostShown = true := by decide +kernel
theorem ck_Sp_mien : am_chkM M_Sp_mien = true := by decide +kernel
theorem ck_Deeds_note : am_chkM M_Deeds_note = true := by decide +kernel
theorem ck_Sp_feet : am_chkM M_Sp_feet = true := by decide +kernel
theorem ck_Sp_flowers : am_chkM M_Sp_flowers = true := by decide +kernel
theorem ck_Sp_walk : am_chkM M_Sp_walk = true := by decide +kernel
theorem ck_Sp_fog : am_chkM M_Sp_fog = true := by decide +kernel
theorem ck_Sp_train : am_chkM M_Sp_train = true := by decide +kernel
theorem ck_Sp_trainsRefused : am_chkM M_Sp_trainsRefused = true := by decide +kernel
theorem ck_Scene_runTrain : am_chkM M_Scene_runTrain = true := by decide +kernel
theorem ck_Scene_stopsOfNext : am_chkM M_Scene_stopsOfNext = true := by decide +kernel
theorem ck_Line_allStations : am_chkM M_Line_allStations = true := by decide +kernel
theorem ck_Scene_letOut : am_chkM M_Scene_letOut = true := by decide +kernel
theorem ck_Scene_takeIn : am_chkM M_Scene_takeIn = true := by decide +kernel
theorem ck_Scene_emptyAtLast : am_chkM M_Scene_emptyAtLast = true := by decide +kernel
theorem ck_Sp_drift : am_chkM M_Sp_drift = true := by decide +kernel
theorem ck_Sp_drawDay : am_chkM M_Sp_drawDay = true := by decide +kernel
theorem ck_Draws_next : am_chkM M_Draws_next = true := by decide +kernel
theorem ck_Sp_undo : am_chkM M_Sp_undo = true := by decide +kernel
theorem ck_Deeds_takeBack : am_chkM M_Deeds_takeBack = true := by decide +kernel
theorem ck_Sp_stops : am_chkM M_Sp_stops = true := by decide +kernel
theorem ck_Sp_calm : am_chkM M_Sp_calm = true := by decide +kernel
theorem ck_Sp_journey : am_chkM M_Sp_journey = true := by decide +kernel
theorem ck_Sp_never : am_chkM M_Sp_never = true := by decide +kernel
theorem ck_Sp_cut : am_chkM M_Sp_cut = true := by decide +kernel
theorem ck_Sp_arrivesThough : am_chkM M_Sp_arrivesThough = true := by decide +kernel
theorem ck_Sp_aunts : am_chkM M_Sp_aunts = true := by decide +kernel
theorem ck_Sp_endsAt : am_chkM M_Sp_endsAt = true := by decide +kernel
theorem ck_Sp_chance : am_chkM M_Sp_chance = true := by decide +kernel
theorem ck_Sp_ran : am_chkM M_Sp_ran = true := by decide +kernel
theorem ck_Witness_add : am_chkM M_Witness_add = true := by decide +kernel
theorem ck_Sp_hoped : am_chkM M_Sp_hoped = true := by decide +kernel
theorem ck_Witness_find : am_chkM M_Witness_find = true := by decide +kernel
theorem ck_Witness_tryHopeful : am_chkM M_Witness_tryHopeful = true := by decide +kernel
theorem ck_Witness_fits : am_chkM M_Witness_fits = true := by decide +kernel
theorem ck_Sp_sure : am_chkM M_Sp_sure = true := by decide +kernel
theorem ck_Line_allPersons : am_chkM M_Line_allPersons = true := by decide +kernel
theorem ck_Sp_look : am_chkM M_Sp_look = true := by decide +kernel
theorem ck_Witness_greatestPart : am_chkM M_Witness_greatestPart = true := by decide +kernel
theorem ck_Sp_write : am_chkM M_Sp_write = true := by decide +kernel
theorem ck_Book_add : am_chkM M_Book_add = true := by decide +kernel
theorem ck_Sp_judge : am_chkM M_Sp_judge = true := by decide +kernel
theorem ck_Book_firstWrong : am_chkM M_Book_firstWrong = true := by decide +kernel
theorem ck_Sp_tear : am_chkM M_Sp_tear = true := by decide +kernel
theorem ck_Sp_seed : am_chkM M_Sp_seed = true := by decide +kernel
theorem ck_Sp_keep : am_chkM M_Sp_keep = true := by decide +kernel
theorem ck_Sp_goBack : am_chkM M_Sp_goBack = true := by decide +kernel
theorem ck_Mo_init : am_chkM M_Mo_init = true := by decide +kernel
theorem ck_Mo_feed : am_chkM M_Mo_feed = true := by decide +kernel
theorem ck_Mo_in : am_chkM M_Mo_in = true := by decide +kernel
theorem ck_Mo_line : am_chkM M_Mo_line = true := by decide +kernel
theorem ck_Mo_skip : am_chkM M_Mo_skip = true := by decide +kernel
theorem ck_Mo_here : am_chkM M_Mo_here = true := by decide +kernel
theorem ck_Mo_readsLine : am_chkM M_Mo_readsLine = true := by decide +kernel
theorem ck_Mo_readsFirst : am_chkM M_Mo_readsFirst = true := by decide +kernel
theorem ck_Mo_sign : am_chkM M_Mo_sign = true := by decide +kernel
theorem ck_Mo_fails : am_chkM M_Mo_fails = true := by decide +kernel
theorem ck_Mo_number : am_chkM M_Mo_number = true := by decide +kernel
theorem ck_Mo_readsPerson : am_chkM M_Mo_readsPerson = true := by decide +kernel
theorem ck_Mo_readsMet : am_chkM M_Mo_readsMet = true := by decide +kernel
theorem ck_Mo_fault : am_chkM M_Mo_fault = true := by decide +kernel
theorem ck_Mo_told : am_chkM M_Mo_told = true := by decide +kernel
theorem ck_Mo_awaitedSet : am_chkM M_Mo_awaitedSet = true := by decide +kernel
theorem ck_Mo_isAwaited : am_chkM M_Mo_isAwaited = true := by decide +kernel
theorem ck_Mo_shows : am_chkM M_Mo_shows = true := by decide +kernel
theorem ck_Mo_arrivedSet : am_chkM M_Mo_arrivedSet = true := by decide +kernel
theorem ck_Mo_person : am_chkM M_Mo_person = true := by decide +kernel
theorem ck_Mo_isPerson : am_chkM M_Mo_isPerson = true := by decide +kernel
theorem ck_Mo_station : am_chkM M_Mo_station = true := by decide +kernel
theorem ck_Mo_isStation : am_chkM M_Mo_isStation = true := by decide +kernel
theorem ck_Mo_mien : am_chkM M_Mo_mien = true := by decide +kernel
theorem ck_Mo_notes : am_chkM M_Mo_notes = true := by decide +kernel
theorem ck_Mo_laysBy : am_chkM M_Mo_laysBy = true := by decide +kernel
theorem ck_Mo_feet : am_chkM M_Mo_feet = true := by decide +kernel
theorem ck_Mo_flowers : am_chkM M_Mo_flowers = true := by decide +kernel
theorem ck_Mo_walk : am_chkM M_Mo_walk = true := by decide +kernel
theorem ck_Mo_fog : am_chkM M_Mo_fog = true := by decide +kernel
theorem ck_Mo_train : am_chkM M_Mo_train = true := by decide +kernel
theorem ck_Mo_run : am_chkM M_Mo_run = true := by decide +kernel
theorem ck_Mo_has : am_chkM M_Mo_has = true := by decide +kernel
theorem ck_Mo_getOut : am_chkM M_Mo_getOut = true := by decide +kernel
theorem ck_Mo_drift : am_chkM M_Mo_drift = true := by decide +kernel
theorem ck_Mo_drawn : am_chkM M_Mo_drawn = true := by decide +kernel
theorem ck_Mo_undo : am_chkM M_Mo_undo = true := by decide +kernel
theorem ck_Mo_read : am_chkM M_Mo_read = true := by decide +kernel
theorem ck_Mo_stops : am_chkM M_Mo_stops = true := by decide +kernel
theorem ck_Mo_nextStops : am_chkM M_Mo_nextStops = true := by decide +kernel
theorem ck_Mo_begin : am_chkM M_Mo_begin = true := by decide +kernel
theorem ck_Mo_back : am_chkM M_Mo_back = true := by decide +kernel
theorem ck_Mo_calm : am_chkM M_Mo_calm = true := by decide +kernel
theorem ck_Mo_journey : am_chkM M_Mo_journey = true := by decide +kernel
theorem ck_Mo_never : am_chkM M_Mo_never = true := by decide +kernel
theorem ck_Mo_cut : am_chkM M_Mo_cut = true := by decide +kernel
theorem ck_Mo_bits : am_chkM M_Mo_bits = true := by decide +kernel
theorem ck_Mo_aunts : am_chkM M_Mo_aunts = true := by decide +kernel
theorem ck_Mo_chance : am_chkM M_Mo_chance = true := by decide +kernel
theorem ck_Mo_ran : am_chkM M_Mo_ran = true := by decide +kernel
theorem ck_Mo_hoped : am_chkM M_Mo_hoped = true := by decide +kernel
theorem ck_Mo_setHopes : am_chkM M_Mo_setHopes = true := by decide +kernel
theorem ck_Mo_goesSo : am_chkM M_Mo_goesSo = true := by decide +kernel
theorem ck_Mo_sure : am_chkM M_Mo_sure = true := by decide +kernel
theorem ck_Mo_look : am_chkM M_Mo_look = true := by decide +kernel
theorem ck_Mo_write : am_chkM M_Mo_write = true := by decide +kernel
theorem ck_Mo_judge : am_chkM M_Mo_judge = true := by decide +kernel
theorem ck_Mo_tear : am_chkM M_Mo_tear = true := by decide +kernel
theorem ck_Mo_seed : am_chkM M_Mo_seed = true := by decide +kernel
theorem ck_Mo_keep : am_chkM M_Mo_keep = true := by decide +kernel
theorem ck_Mo_goBack : am_chkM M_Mo_goBack = true := by decide +kernel
end
section
/-! the law's own code -/
def am_fchk (j : Nat) : Bool := am_isno (am_ins M_L_law j) || am_chk M_L_law j
theorem am_rows {f : Nat → Bool} {n : Nat} (h : ∀ i, i < n → (List.range 16).all (fun r => f (16 * i + r)) = true) : (List.range (16 * n)).all f = true := by
  refine List.all_eq_true.mpr (fun j hj => ?_)
  have hj := List.mem_range.mp hj
  have := List.all_eq_true.mp (h (j / 16) (by omega)) (j % 16) (List.mem_range.mpr (by omega))
  rw [show 16 * (j / 16) + j % 16 = j by omega] at this
  exact this
theorem ck_law_0 : (List.range 16).all (fun r => am_fchk (16 * 0 + r)) = true := by decide +kernel
theorem ck_law_1 : (List.range 16).all (fun r => am_fchk (16 * 1 + r)) = true := by decide +kernel
theorem ck_law_2 : (List.range 16).all (fun r => am_fchk (16 * 2 + r)) = true := by decide +kernel
theorem ck_law_3 : (List.range 16).all (fun r => am_fchk (16 * 3 + r)) = true := by decide +kernel
theorem ck_law_4 : (List.range 16).all (fun r => am_fchk (16 * 4 + r)) = true := by decide +kernel
theorem ck_law_5 : (List.range 16).all (fun r => am_fchk (16 * 5 + r)) = true := by decide +kernel
theorem ck_law_6 : (List.range 16).all (fun r => am_fchk (16 * 6 + r)) = true := by decide +kernel
theorem ck_law_7 : (List.range 16).all (fun r => am_fchk (16 * 7 + r)) = true := by decide +kernel
theorem ck_law_8 : (List.range 16).all (fun r => am_fchk (16 * 8 + r)) = true := by decide +kernel
theorem ck_law_9 : (List.range 16).all (fun r => am_fchk (16 * 9 + r)) = true := by decide +kernel
theorem ck_law_10 : (List.range 16).all (fun r => am_fchk (16 * 10 + r)) = true := by decide +kernel
theorem ck_law_11 : (List.range 16).all (fun r => am_fchk (16 * 11 + r)) = true := by decide +kernel
theorem ck_law_12 : (List.range 16).all (fun r => am_fchk (16 * 12 + r)) = true := by decide +kernel
theorem ck_law_13 : (List.range 16).all (fun r => am_fchk (16 * 13 + r)) = true := by decide +kernel
theorem ck_law_14 : (List.range 16).all (fun r => am_fchk (16 * 14 + r)) = true := by decide +kernel
theorem ck_law_15 : (List.range 16).all (fun r => am_fchk (16 * 15 + r)) = true := by decide +kernel
theorem ck_law_16 : (List.range 16).all (fun r => am_fchk (16 * 16 + r)) = true := by decide +kernel
theorem ck_law_17 : (List.range 16).all (fun r => am_fchk (16 * 17 + r)) = true := by decide +kernel
theorem ck_law_18 : (List.range 16).all (fun r => am_fchk (16 * 18 + r)) = true := by decide +kernel
end
section
theorem ck_law_19 : (List.range 16).all (fun r => am_fchk (16 * 19 + r)) = true := by decide +kernel
theorem ck_law_20 : (List.range 16).all (fun r => am_fchk (16 * 20 + r)) = true := by decide +kernel
theorem ck_law_21 : (List.range 16).all (fun r => am_fchk (16 * 21 + r)) = true := by decide +kernel
theorem ck_law_22 : (List.range 16).all (fun r => am_fchk (16 * 22 + r)) = true := by decide +kernel
theorem ck_law_23 : (List.range 16).all (fun r => am_fchk (16 * 23 + r)) = true := by decide +kernel
theorem ck_law_24 : (List.range 16).all (fun r => am_fchk (16 * 24 + r)) = true := by decide +kernel
theorem ck_law_25 : (List.range 16).all (fun r => am_fchk (16 * 25 + r)) = true := by decide +kernel
theorem ck_law_26 : (List.range 16).all (fun r => am_fchk (16 * 26 + r)) = true := by decide +kernel
theorem ck_law_27 : (List.range 16).all (fun r => am_fchk (16 * 27 + r)) = true := by decide +kernel
theorem ck_law_28 : (List.range 16).all (fun r => am_fchk (16 * 28 + r)) = true := by decide +kernel
theorem ck_law_29 : (List.range 16).all (fun r => am_fchk (16 * 29 + r)) = true := by decide +kernel
theorem ck_law_30 : (List.range 16).all (fun r => am_fchk (16 * 30 + r)) = true := by decide +kernel
theorem ck_law_31 : (List.range 16).all (fun r => am_fchk (16 * 31 + r)) = true := by decide +kernel
theorem ck_law_32 : (List.range 16).all (fun r => am_fchk (16 * 32 + r)) = true := by decide +kernel
theorem ck_law_33 : (List.range 16).all (fun r => am_fchk (16 * 33 + r)) = true := by decide +kernel
theorem ck_law_34 : (List.range 16).all (fun r => am_fchk (16 * 34 + r)) = true := by decide +kernel
theorem ck_law_35 : (List.range 16).all (fun r => am_fchk (16 * 35 + r)) = true := by decide +kernel
theorem ck_law_36 : (List.range 16).all (fun r => am_fchk (16 * 36 + r)) = true := by decide +kernel
theorem ck_law_37 : (List.range 16).all (fun r => am_fchk (16 * 37 + r)) = true := by decide +kernel
theorem ck_law_all : ∀ i, i < 38 → (List.range 16).all (fun r => am_fchk (16 * i + r)) = true := by
  intro i h
  match i, h with
  | 0, _ => exact ck_law_0
  | 1, _ => exact ck_law_1
  | 2, _ => exact ck_law_2
  | 3, _ => exact ck_law_3
  | 4, _ => exact ck_law_4
  | 5, _ => exact ck_law_5
  | 6, _ => exact ck_law_6
  | 7, _ => exact ck_law_7
  | 8, _ => exact ck_law_8
  | 9, _ => exact ck_law_9
  | 10, _ => exact ck_law_10
  | 11, _ => exact ck_law_11
  | 12, _ => exact ck_law_12
  | 13, _ => exact ck_law_13
  | 14, _ => exact ck_law_14
  | 15, _ => exact ck_law_15
  | 16, _ => exact ck_law_16
  | 17, _ => exact ck_law_17
  | 18, _ => exact ck_law_18
  | 19, _ => exact ck_law_19
  | 20, _ => exact ck_law_20
  | 21, _ => exact ck_law_21
  | 22, _ => exact ck_law_22
  | 23, _ => exact ck_law_23
  | 24, _ => exact ck_law_24
  | 25, _ => exact ck_law_25
  | 26, _ => exact ck_law_26
  | 27, _ => exact ck_law_27
  | 28, _ => exact ck_law_28
  | 29, _ => exact ck_law_29
  | 30, _ => exact ck_law_30
  | 31, _ => exact ck_law_31
  | 32, _ => exact ck_law_32
  | 33, _ => exact ck_law_33
  | 34, _ => exact ck_law_34
  | 35, _ => exact ck_law_35
  | 36, _ => exact ck_law_36
  | 37, _ => exact ck_law_37
  | i + 38, h => exact absurd h (by omega)
theorem ck_L_law : am_chkM M_L_law = true := by
  unfold am_chkM
  rw [Bool.and_eq_true]
  exact ⟨by decide +kernel, am_rows (n := 38) ck_law_all⟩
theorem ck_row0 : ∀ M ∈ ([M_Sp_init, M_Text_init, M_Reader_init, M_Line_init, M_Scene_init, M_Deeds_init, M_Witness_init, M_Book_init, M_Draws_init, M_Image_init, M_Sp_feed, M_Text_add, M_Sp_line, M_Reader_read, M_Line_clear, M_Scene_clear] : List am_M), am_chkM M = true := List.forall_mem_cons.mpr ⟨ck_Sp_init, List.forall_mem_cons.mpr ⟨ck_Text_init, List.forall_mem_cons.mpr ⟨ck_Reader_init, List.forall_mem_cons.mpr ⟨ck_Line_init, List.forall_mem_cons.mpr ⟨ck_Scene_init, List.forall_mem_cons.mpr ⟨ck_Deeds_init, List.forall_mem_cons.mpr ⟨ck_Witness_init, List.forall_mem_cons.mpr ⟨ck_Book_init, List.forall_mem_cons.mpr ⟨ck_Draws_init, List.forall_mem_cons.mpr ⟨ck_Image_init, List.forall_mem_cons.mpr ⟨ck_Sp_feed, List.forall_mem_cons.mpr ⟨ck_Text_add, List.forall_mem_cons.mpr ⟨ck_Sp_line, List.forall_mem_cons.mpr ⟨ck_Reader_read, List.forall_mem_cons.mpr ⟨ck_Line_clear, List.forall_mem_cons.mpr ⟨ck_Scene_clear, fun _ h => absurd h List.not_mem_nil⟩⟩⟩⟩⟩⟩⟩⟩⟩⟩⟩⟩⟩⟩⟩⟩
theorem ck_row1 : ∀ M ∈ ([M_Reader_skipBlanks, M_Text_letterAt, M_Reader_readClause, M_Line_isTold, M_Reader_blame, M_Reader_readStations, M_Reader_readNumber, M_Reader_isFigure, M_Reader_readEnd, M_Reader_readPerson, M_Sp_bit, M_Sp_withBit, M_Line_takeFrom, M_Scene_takeFrom, M_Sp_fault, M_Sp_told] : List am_M), am_chkM M = true := List.forall_mem_cons.mpr ⟨ck_Reader_skipBlanks, List.forall_mem_cons.mpr ⟨ck_Text_letterAt, List.forall_mem_cons.mpr ⟨ck_Reader_readClause, List.forall_mem_cons.mpr ⟨ck_Line_isTold, List.forall_mem_cons.mpr ⟨ck_Reader_blame, List.forall_mem_cons.mpr ⟨ck_Reader_readStations, List.forall_mem_cons.mpr ⟨ck_Reader_readNumber, List.forall_mem_cons.mpr ⟨ck_Reader_isFigure, List.forall_mem_cons.mpr ⟨ck_Reader_readEnd, List.forall_mem_cons.mpr ⟨ck_Reader_readPerson, List.forall_mem_cons.mpr ⟨ck_Sp_bit, List.forall_mem_cons.mpr ⟨ck_Sp_withBit, List.forall_mem_cons.mpr ⟨ck_Line_takeFrom, List.forall_mem_cons.mpr ⟨ck_Scene_takeFrom, List.forall_mem_cons.mpr ⟨ck_Sp_fault, List.forall_mem_cons.mpr ⟨ck_Sp_told, fun _ h => absurd h List.not_mem_nil⟩⟩⟩⟩⟩⟩⟩⟩⟩⟩⟩⟩⟩⟩⟩⟩
theorem ck_row2 : ∀ M ∈ ([M_Scene_awaited, M_Scene_shows, M_Scene_alarm, M_Scene_arrived, M_Scene_hasArrived, M_Sp_person, M_Line_hasPerson, M_Sp_station, M_Line_hasStation, M_Scene_standing, M_Scene_mostShown, M_Sp_mien, M_Deeds_note, M_Sp_feet, M_Sp_flowers, M_Sp_walk] : List am_M), am_chkM M = true := List.forall_mem_cons.mpr ⟨ck_Scene_awaited, List.forall_mem_cons.mpr ⟨ck_Scene_shows, List.forall_mem_cons.mpr ⟨ck_Scene_alarm, List.forall_mem_cons.mpr ⟨ck_Scene_arrived, List.forall_mem_cons.mpr ⟨ck_Scene_hasArrived, List.forall_mem_cons.mpr ⟨ck_Sp_person, List.forall_mem_cons.mpr ⟨ck_Line_hasPerson, List.forall_mem_cons.mpr ⟨ck_Sp_station, List.forall_mem_cons.mpr ⟨ck_Line_hasStation, List.forall_mem_cons.mpr ⟨ck_Scene_standing, List.forall_mem_cons.mpr ⟨ck_Scene_mostShown, List.forall_mem_cons.mpr ⟨ck_Sp_mien, List.forall_mem_cons.mpr ⟨ck_Deeds_note, List.forall_mem_cons.mpr ⟨ck_Sp_feet, List.forall_mem_cons.mpr ⟨ck_Sp_flowers, List.forall_mem_cons.mpr ⟨ck_Sp_walk, fun _ h => absurd h List.not_mem_nil⟩⟩⟩⟩⟩⟩⟩⟩⟩⟩⟩⟩⟩⟩⟩⟩
theorem ck_row3 : ∀ M ∈ ([M_Sp_fog, M_Sp_train, M_Sp_trainsRefused, M_Scene_runTrain, M_Scene_stopsOfNext, M_Line_allStations, M_Scene_letOut, M_Scene_takeIn, M_Scene_emptyAtLast, M_Sp_drift, M_Sp_drawDay, M_Draws_next, M_Sp_undo, M_Deeds_takeBack, M_Sp_stops, M_Sp_calm] : List am_M), am_chkM M = true := List.forall_mem_cons.mpr ⟨ck_Sp_fog, List.forall_mem_cons.mpr ⟨ck_Sp_train, List.forall_mem_cons.mpr ⟨ck_Sp_trainsRefused, List.forall_mem_cons.mpr ⟨ck_Scene_runTrain, List.forall_mem_cons.mpr ⟨ck_Scene_stopsOfNext, List.forall_mem_cons.mpr ⟨ck_Line_allStations, List.forall_mem_cons.mpr ⟨ck_Scene_letOut, List.forall_mem_cons.mpr ⟨ck_Scene_takeIn, List.forall_mem_cons.mpr ⟨ck_Scene_emptyAtLast, List.forall_mem_cons.mpr ⟨ck_Sp_drift, List.forall_mem_cons.mpr ⟨ck_Sp_drawDay, List.forall_mem_cons.mpr ⟨ck_Draws_next, List.forall_mem_cons.mpr ⟨ck_Sp_undo, List.forall_mem_cons.mpr ⟨ck_Deeds_takeBack, List.forall_mem_cons.mpr ⟨ck_Sp_stops, List.forall_mem_cons.mpr ⟨ck_Sp_calm, fun _ h => absurd h List.not_mem_nil⟩⟩⟩⟩⟩⟩⟩⟩⟩⟩⟩⟩⟩⟩⟩⟩
theorem ck_row4 : ∀ M ∈ ([M_Sp_journey, M_Sp_never, M_Sp_cut, M_Sp_arrivesThough, M_Sp_aunts, M_Sp_endsAt, M_Sp_chance, M_Sp_ran, M_Witness_add, M_Sp_hoped, M_Witness_find, M_Witness_tryHopeful, M_Witness_fits, M_Sp_sure, M_Line_allPersons, M_Sp_look] : List am_M), am_chkM M = true := List.forall_mem_cons.mpr ⟨ck_Sp_journey, List.forall_mem_cons.mpr ⟨ck_Sp_never, List.forall_mem_cons.mpr ⟨ck_Sp_cut, List.forall_mem_cons.mpr ⟨ck_Sp_arrivesThough, List.forall_mem_cons.mpr ⟨ck_Sp_aunts, List.forall_mem_cons.mpr ⟨ck_Sp_endsAt, List.forall_mem_cons.mpr ⟨ck_Sp_chance, List.forall_mem_cons.mpr ⟨ck_Sp_ran, List.forall_mem_cons.mpr ⟨ck_Witness_add, List.forall_mem_cons.mpr ⟨ck_Sp_hoped, List.forall_mem_cons.mpr ⟨ck_Witness_find, List.forall_mem_cons.mpr ⟨ck_Witness_tryHopeful, List.forall_mem_cons.mpr ⟨ck_Witness_fits, List.forall_mem_cons.mpr ⟨ck_Sp_sure, List.forall_mem_cons.mpr ⟨ck_Line_allPersons, List.forall_mem_cons.mpr ⟨ck_Sp_look, fun _ h => absurd h List.not_mem_nil⟩⟩⟩⟩⟩⟩⟩⟩⟩⟩⟩⟩⟩⟩⟩⟩
theorem ck_row5 : ∀ M ∈ ([M_Witness_greatestPart, M_Sp_write, M_Book_add, M_Sp_judge, M_Book_firstWrong, M_Sp_tear, M_Sp_seed, M_Sp_keep, M_Sp_goBack, M_Mo_init, M_Mo_feed, M_Mo_in, M_Mo_line, M_Mo_skip, M_Mo_here, M_Mo_readsLine] : List am_M), am_chkM M = true := List.forall_mem_cons.mpr ⟨ck_Witness_greatestPart, List.forall_mem_cons.mpr ⟨ck_Sp_write, List.forall_mem_cons.mpr ⟨ck_Book_add, List.forall_mem_cons.mpr ⟨ck_Sp_judge, List.forall_mem_cons.mpr ⟨ck_Book_firstWrong, List.forall_mem_cons.mpr ⟨ck_Sp_tear, List.forall_mem_cons.mpr ⟨ck_Sp_seed, List.forall_mem_cons.mpr ⟨ck_Sp_keep, List.forall_mem_cons.mpr ⟨ck_Sp_goBack, List.forall_mem_cons.mpr ⟨ck_Mo_init, List.forall_mem_cons.mpr ⟨ck_Mo_feed, List.forall_mem_cons.mpr ⟨ck_Mo_in, List.forall_mem_cons.mpr ⟨ck_Mo_line, List.forall_mem_cons.mpr ⟨ck_Mo_skip, List.forall_mem_cons.mpr ⟨ck_Mo_here, List.forall_mem_cons.mpr ⟨ck_Mo_readsLine, fun _ h => absurd h List.not_mem_nil⟩⟩⟩⟩⟩⟩⟩⟩⟩⟩⟩⟩⟩⟩⟩⟩
theorem ck_row6 : ∀ M ∈ ([M_Mo_readsFirst, M_Mo_sign, M_Mo_fails, M_Mo_number, M_Mo_readsPerson, M_Mo_readsMet, M_Mo_fault, M_Mo_told, M_Mo_awaitedSet, M_Mo_isAwaited, M_Mo_shows, M_Mo_arrivedSet, M_Mo_person, M_Mo_isPerson, M_Mo_station, M_Mo_isStation] : List am_M), am_chkM M = true := List.forall_mem_cons.mpr ⟨ck_Mo_readsFirst, List.forall_mem_cons.mpr ⟨ck_Mo_sign, List.forall_mem_cons.mpr ⟨ck_Mo_fails, List.forall_mem_cons.mpr ⟨ck_Mo_number, List.forall_mem_cons.mpr ⟨ck_Mo_readsPerson, List.forall_mem_cons.mpr ⟨ck_Mo_readsMet, List.forall_mem_cons.mpr ⟨ck_Mo_fault, List.forall_mem_cons.mpr ⟨ck_Mo_told, List.forall_mem_cons.mpr ⟨ck_Mo_awaitedSet, List.forall_mem_cons.mpr ⟨ck_Mo_isAwaited, List.forall_mem_cons.mpr ⟨ck_Mo_shows, List.forall_mem_cons.mpr ⟨ck_Mo_arrivedSet, List.forall_mem_cons.mpr ⟨ck_Mo_person, List.forall_mem_cons.mpr ⟨ck_Mo_isPerson, List.forall_mem_cons.mpr ⟨ck_Mo_station, List.forall_mem_cons.mpr ⟨ck_Mo_isStation, fun _ h => absurd h List.not_mem_nil⟩⟩⟩⟩⟩⟩⟩⟩⟩⟩⟩⟩⟩⟩⟩⟩
theorem ck_row7 : ∀ M ∈ ([M_Mo_mien, M_Mo_notes, M_Mo_laysBy, M_Mo_feet, M_Mo_flowers, M_Mo_walk, M_Mo_fog, M_Mo_train, M_Mo_run, M_Mo_has, M_Mo_getOut, M_Mo_drift, M_Mo_drawn, M_Mo_undo, M_Mo_read, M_Mo_stops] : List am_M), am_chkM M = true := List.forall_mem_cons.mpr ⟨ck_Mo_mien, List.forall_mem_cons.mpr ⟨ck_Mo_notes, List.forall_mem_cons.mpr ⟨ck_Mo_laysBy, List.forall_mem_cons.mpr ⟨ck_Mo_feet, List.forall_mem_cons.mpr ⟨ck_Mo_flowers, List.forall_mem_cons.mpr ⟨ck_Mo_walk, List.forall_mem_cons.mpr ⟨ck_Mo_fog, List.forall_mem_cons.mpr ⟨ck_Mo_train, List.forall_mem_cons.mpr ⟨ck_Mo_run, List.forall_mem_cons.mpr ⟨ck_Mo_has, List.forall_mem_cons.mpr ⟨ck_Mo_getOut, List.forall_mem_cons.mpr ⟨ck_Mo_drift, List.forall_mem_cons.mpr ⟨ck_Mo_drawn, List.forall_mem_cons.mpr ⟨ck_Mo_undo, List.forall_mem_cons.mpr ⟨ck_Mo_read, List.forall_mem_cons.mpr ⟨ck_Mo_stops, fun _ h => absurd h List.not_mem_nil⟩⟩⟩⟩⟩⟩⟩⟩⟩⟩⟩⟩⟩⟩⟩⟩
theorem ck_row8 : ∀ M ∈ ([M_Mo_nextStops, M_Mo_begin, M_Mo_back, M_Mo_calm, M_Mo_journey, M_Mo_never, M_Mo_cut, M_Mo_bits, M_Mo_aunts, M_Mo_chance, M_Mo_ran, M_Mo_hoped, M_Mo_setHopes, M_Mo_goesSo, M_Mo_sure, M_Mo_look] : List am_M), am_chkM M = true := List.forall_mem_cons.mpr ⟨ck_Mo_nextStops, List.forall_mem_cons.mpr ⟨ck_Mo_begin, List.forall_mem_cons.mpr ⟨ck_Mo_back, List.forall_mem_cons.mpr ⟨ck_Mo_calm, List.forall_mem_cons.mpr ⟨ck_Mo_journey, List.forall_mem_cons.mpr ⟨ck_Mo_never, List.forall_mem_cons.mpr ⟨ck_Mo_cut, List.forall_mem_cons.mpr ⟨ck_Mo_bits, List.forall_mem_cons.mpr ⟨ck_Mo_aunts, List.forall_mem_cons.mpr ⟨ck_Mo_chance, List.forall_mem_cons.mpr ⟨ck_Mo_ran, List.forall_mem_cons.mpr ⟨ck_Mo_hoped, List.forall_mem_cons.mpr ⟨ck_Mo_setHopes, List.forall_mem_cons.mpr ⟨ck_Mo_goesSo, List.forall_mem_cons.mpr ⟨ck_Mo_sure, List.forall_mem_cons.mpr ⟨ck_Mo_look, fun _ h => absurd h List.not_mem_nil⟩⟩⟩⟩⟩⟩⟩⟩⟩⟩⟩⟩⟩⟩⟩⟩
theorem ck_row9 : ∀ M ∈ ([M_Mo_write, M_Mo_judge, M_Mo_tear, M_Mo_seed, M_Mo_keep, M_Mo_goBack, M_L_law] : List am_M), am_chkM M = true := List.forall_mem_cons.mpr ⟨ck_Mo_write, List.forall_mem_cons.mpr ⟨ck_Mo_judge, List.forall_mem_cons.mpr ⟨ck_Mo_tear, List.forall_mem_cons.mpr ⟨ck_Mo_seed, List.forall_mem_cons.mpr ⟨ck_Mo_keep, List.forall_mem_cons.mpr ⟨ck_Mo_goBack, List.forall_mem_cons.mpr ⟨ck_L_law, fun _ h => absurd h List.not_mem_nil⟩⟩⟩⟩⟩⟩⟩
theorem ck_rows : ∀ r ∈ am_tabL, ∀ M ∈ r, am_chkM M = true := List.forall_mem_cons.mpr ⟨ck_row0, List.forall_mem_cons.mpr ⟨ck_row1, List.forall_mem_cons.mpr ⟨ck_row2, List.forall_mem_cons.mpr ⟨ck_row3, List.forall_mem_cons.mpr ⟨ck_row4, List.forall_mem_cons.mpr ⟨ck_row5, List.forall_mem_cons.mpr ⟨ck_row6, List.forall_mem_cons.mpr ⟨ck_row7, List.forall_mem_cons.mpr ⟨ck_row8, List.forall_mem_cons.mpr ⟨ck_row9, fun _ h => absurd h List.not_mem_nil⟩⟩⟩⟩⟩⟩⟩⟩⟩⟩
theorem ck_all (k : Nat) : am_chkM (am_tab k) = true := am_tab_all (Pr := fun M => am_chkM M = true) ck_L_law ck_rows k
end
section
/-! HOW RUNS ARE SHOWN: a rule a step, a rule a call -/
def am_R (M : am_M) (F : am_F) (h : am_H) (Φ : Option Value → am_H → Prop) : Prop := ∃ f r h', am_run f M F h = some (r, h') ∧ Φ r h'
/-- a call of K with the arguments As -/
def am_T (K : am_M) (As : List Value) (h : am_H) (Φ : Option Value → am_H → Prop) : Prop := am_R K (0, am_entry K As, []) h Φ
/-- it answers r and leaves h1 -/
def am_E (K : am_M) (As : List Value) (h : am_H) (r : Option Value) (h1 : am_H) : Prop := am_T K As h (fun r' h' => r' = r ∧ h' = h1)
theorem am_run_succ : ∀ (f : Nat) {M : am_M} {F : am_F} {h : am_H} {q : Option Value × am_H}, am_run f M F h = some q → am_run (f + 1) M F h = some q
  | 0, _, _, _, _, e => by cases e
  | f + 1, M, F, h, q, e => by
    rw [am_run] at e ⊢
    split at e
    · split at e
      · rename_i F1 h1 e1
        exact am_run_succ f e
      · cases e
    · split at e
      · split at e
        · rename_i r1 h1 e1
          rw [am_run_succ f e1]
          exact am_run_succ f e
        · cases e
      · cases e
    · exact e
theorem am_run_le {f g : Nat} (hfg : f ≤ g) {M : am_M} {F : am_F} {h : am_H} {q : Option Value × am_H} (e : am_run f M F h = some q) : am_run g M F h = some q := by
  induction hfg with
  | refl => exact e
  | step _ ih => exact am_run_succ _ ih
theorem am_R.imp {M : am_M} {F : am_F} {h : am_H} {Φ Ψ : Option Value → am_H → Prop} (k : am_R M F h Φ) (hi : ∀ r h', Φ r h' → Ψ r h') : am_R M F h Ψ := by
  obtain ⟨f, r, h', e, q⟩ := k
  exact ⟨f, r, h', e, hi r h' q⟩
def am_hdq : List Nat → Nat → Bool
  | [], _ => false
  | x :: l, n => (match Nat.beq x n with | true => true | false => am_hdq l n)
theorem am_R_step {M : am_M} {F F' : am_F} {h h' : am_H} {Φ : Option Value → am_H → Prop} (hk : am_kind (am_ins M F.1) = 0) (e : am_step (am_ins M F.1) F.1 F.2.1 F.2.2 h = some (F', h')) (k : am_R M F' h' Φ) : am_R M F h Φ := by
  obtain ⟨f, r, h2, e2, q⟩ := k
  refine ⟨f + 1, r, h2, ?_, q⟩
  rw [am_run, hk]
  try dsimp only
  rw [e]
  exact e2
/-- a step; hd: where to stand still -/
def am_pl : Instr → Bool
  | .ifCond _ _ => false
  | .if_icmp _ _ => false
  | .tableswitch _ _ _ _ => false
  | .lookupswitch _ _ => false
  | .iconst _ => false
  | .bipush _ => false
  | .sipush _ => false
  | .ldc _ => false
  | .ldc2_w _ => false
  | .goto _ => false
  | _ => true
def am_isk : Instr → Bool
  | .iconst _ => true
  | .bipush _ => true
  | .sipush _ => true
  | .ldc _ => true
  | .ldc2_w _ => true
  | _ => false
theorem rs (hd : List Nat) {M : am_M} {j : Nat} {ls st : List Value} {F' : am_F} {h h' : am_H} {Φ : Option Value → am_H → Prop} (_hh : am_hdq hd j = false) (_hp : am_pl (am_ins M j).1 = true) (hk : am_kind (am_ins M j) = 0) (e : am_step (am_ins M j) j ls st h = some (F', h')) (k : am_R M F' h' Φ) : am_R M (j, ls, st) h Φ := am_R_step hk e k
/-- a constant -/
theorem rk {M : am_M} {j len a b : Nat} {ins : Instr} {v : Value} {sw : List (Int32 × Nat)} {ls st : List Value} {h : am_H} {Φ : Option Value → am_H → Prop} (hi : am_ins M j = (ins, len, a, b, v, sw)) (hk : am_isk ins = true) (k : am_R M (j + 1, ls, v :: st) h Φ) : am_R M (j, ls, st) h Φ := by
  refine am_R_step (F' := (j + 1, ls, v :: st)) (h' := h) ?_ ?_ k
  · rw [hi]
    cases ins <;> first | rfl | cases hk
  · rw [hi]
    cases ins <;> first | rfl | cases hk
theorem rgo {M : am_M} {j len t : Nat} {o : Int} {z : Nat × Value × List (Int32 × Nat)} {ls st : List Value} {h : am_H} {Φ : Option Value → am_H → Prop} (hi : am_ins M j = (.goto o, len, t, z)) (k : am_R M (t, ls, st) h Φ) : am_R M (j, ls, st) h Φ := by
  refine am_R_step (F' := (t, ls, st)) (h' := h) ?_ ?_ k
  · rw [hi]; rfl
  · rw [hi]; rfl
/-- a jump, but not from where to stand still -/
theorem rgoh (hd : List Nat) {M : am_M} {j len t : Nat} {o : Int} {z : Nat × Value × List (Int32 × Nat)} {ls st : List Value} {h : am_H} {Φ : Option Value → am_H → Prop} (_hh : am_hdq hd j = false) (hi : am_ins M j = (.goto o, len, t, z)) (k : am_R M (t, ls, st) h Φ) : am_R M (j, ls, st) h Φ := rgo hi k
theorem rif {M : am_M} {j len t : Nat} {cd : ClassFile.Cond} {o : Int} {z : Nat × Value × List (Int32 × Nat)} {ls st : List Value} {h : am_H} {Φ : Option Value → am_H → Prop} {c : Prop} {dc : Decidable c} {x y : Nat} {v : Int32} (hi : am_ins M j = (.ifCond cd o, len, t, z)) (hc : am_cmp cd v 0 t (j + 1) = @ite Nat c dc x y) (kt : c → am_R M (x, ls, st) h Φ) (kf : ¬ c → am_R M (y, ls, st) h Φ) : am_R M (j, ls, .int v :: st) h Φ := by
  refine am_R_step (F' := (am_cmp cd v 0 t (j + 1), ls, st)) (h' := h) (by rw [hi]; rfl) (by rw [hi]; rfl) ?_
  rw [hc]
  by_cases q : c
  · rw [if_pos q]
    exact kt q
  · rw [if_neg q]
    exact kf q
theorem ric {M : am_M} {j len t : Nat} {cd : ClassFile.Cond} {o : Int} {z : Nat × Value × List (Int32 × Nat)} {ls st : List Value} {h : am_H} {Φ : Option Value → am_H → Prop} {c : Prop} {dc : Decidable c} {x y : Nat} {v w : Int32} (hi : am_ins M j = (.if_icmp cd o, len, t, z)) (hc : am_cmp cd v w t (j + 1) = @ite Nat c dc x y) (kt : c → am_R M (x, ls, st) h Φ) (kf : ¬ c → am_R M (y, ls, st) h Φ) : am_R M (j, ls, .int w :: .int v :: st) h Φ := by
  refine am_R_step (F' := (am_cmp cd v w t (j + 1), ls, st)) (h' := h) (by rw [hi]; rfl) (by rw [hi]; rfl) ?_
  rw [hc]
  by_cases q : c
  · rw [if_pos q]
    exact kt q
  · rw [if_neg q]
    exact kf q
/-! branches on constants -/
theorem rift {M : am_M} {j len t : Nat} {cd : ClassFile.Cond} {o : Int} {z : Nat × Value × List (Int32 × Nat)} {ls st : List Value} {h : am_H} {Φ : Option Value → am_H → Prop} {v : Int32} (hi : am_ins M j = (.ifCond cd o, len, t, z)) (hc : am_cmp cd v 0 t (j + 1) = t) (k : am_R M (t, ls, st) h Φ) : am_R M (j, ls, .int v :: st) h Φ := by
  refine am_R_step (F' := (am_cmp cd v 0 t (j + 1), ls, st)) (h' := h) (by rw [hi]; rfl) (by rw [hi]; rfl) ?_
  rw [hc]
  exact k
theorem riff {M : am_M} {j len t : Nat} {cd : ClassFile.Cond} {o : Int} {z : Nat × Value × List (Int32 × Nat)} {ls st : List Value} {h : am_H} {Φ : Option Value → am_H → Prop} {v : Int32} (hi : am_ins M j = (.ifCond cd o, len, t, z)) (hc : am_cmp cd v 0 t (j + 1) = (j + 1)) (k : am_R M ((j + 1), ls, st) h Φ) : am_R M (j, ls, .int v :: st) h Φ := by
  refine am_R_step (F' := (am_cmp cd v 0 t (j + 1), ls, st)) (h' := h) (by rw [hi]; rfl) (by rw [hi]; rfl) ?_
  rw [hc]
  exact k
theorem rict {M : am_M} {j len t : Nat} {cd : ClassFile.Cond} {o : Int} {z : Nat × Value × List (Int32 × Nat)} {ls st : List Value} {h : am_H} {Φ : Option Value → am_H → Prop} {v w : Int32} (hi : am_ins M j = (.if_icmp cd o, len, t, z)) (hc : am_cmp cd v w t (j + 1) = t) (k : am_R M (t, ls, st) h Φ) : am_R M (j, ls, .int w :: .int v :: st) h Φ := by
  refine am_R_step (F' := (am_cmp cd v w t (j + 1), ls, st)) (h' := h) (by rw [hi]; rfl) (by rw [hi]; rfl) ?_
  rw [hc]
  exact k
theorem ricf {M : am_M} {j len t : Nat} {cd : ClassFile.Cond} {o : Int} {z : Nat × Value × List (Int32 × Nat)} {ls st : List Value} {h : am_H} {Φ : Option Value → am_H → Prop} {v w : Int32} (hi : am_ins M j = (.if_icmp cd o, len, t, z)) (hc : am_cmp cd v w t (j + 1) = (j + 1)) (k : am_R M ((j + 1), ls, st) h Φ) : am_R M (j, ls, .int w :: .int v :: st) h Φ := by
  refine am_R_step (F' := (am_cmp cd v w t (j + 1), ls, st)) (h' := h) (by rw [hi]; rfl) (by rw [hi]; rfl) ?_
  rw [hc]
  exact k
/-- a switch -/
theorem rsw {M : am_M} {j len d b : Nat} {ins : Instr} {vv : Value} {sw : List (Int32 × Nat)} {ls st : List Value} {h : am_H} {Φ : Option Value → am_H → Prop} {x : Int32} (hi : am_ins M j = (ins, len, d, b, vv, sw)) (hk : (match ins with | .tableswitch _ _ _ _ => true | .lookupswitch _ _ => true | _ => false) = true) (k : am_R M (am_sw x d sw, ls, st) h Φ) : am_R M (j, ls, .int x :: st) h Φ := by
  refine am_R_step (F' := (am_sw x d sw, ls, st)) (h' := h) ?_ ?_ k
  · rw [hi]
    cases ins <;> first | rfl | cases hk
  · rw [hi]
    cases ins <;> first | rfl | cases hk
/-- a branch -/
theorem rbr {M : am_M} {j : Nat} {c : Prop} {dc : Decidable c} {x y : Nat} {ls st ls' st' : List Value} {h h' : am_H} {Φ : Option Value → am_H → Prop} (hk : am_kind (am_ins M j) = 0) (e : am_step (am_ins M j) j ls st h = some ((@ite Nat c dc x y, ls', st'), h')) (kt : c → am_R M (x, ls', st') h' Φ) (kf : ¬ c → am_R M (y, ls', st') h' Φ) : am_R M (j, ls, st) h Φ := by
  refine am_R_step hk e ?_
  by_cases hc : c
  · rw [if_pos hc]
    exact kt hc
  · rw [if_neg hc]
    exact kf hc
theorem rret {M : am_M} {j : Nat} {ls st : List Value} {h : am_H} {Φ : Option Value → am_H → Prop} {r : Option Value} (hk : am_kind (am_ins M j) = 2) (e : am_ret (am_ins M j) M st = some r) (k : Φ r h) : am_R M (j, ls, st) h Φ := by
  refine ⟨1, r, h, ?_, k⟩
  rw [am_run]
  dsimp only
  rw [hk]
  try dsimp only
  rw [e]
  rfl
theorem rretz {M : am_M} {j : Nat} {ls : List Value} {h : am_H} {Φ : Option Value → am_H → Prop} {v : Int32} {z : Nat × Nat × Nat × Value × List (Int32 × Nat)} (hi : am_ins M j = (.ireturn, z)) (hb : M.2.2.2.1 = some .boolean) (hv : v = 0 ∨ v = 1) (k : Φ (some (.int v)) h) : am_R M (j, ls, [.int v]) h Φ := by
  refine rret (by rw [hi]; rfl) (r := some (.int v)) ?_ k
  rw [hi]
  unfold am_ret
  dsimp only
  rw [hb]
  dsimp only
  rw [if_pos hv]
theorem am_R_call {M K : am_M} {j : Nat} {ls st As rest : List Value} {h : am_H} {Φ : Option Value → am_H → Prop} (hk : am_kind (am_ins M j) = 1) (hK : am_tab (am_ins M j).2.2.1 = K) (hA : (st.take (am_ins M j).2.2.2.1).reverse = As) (hr : st.drop (am_ins M j).2.2.2.1 = rest) (hok : am_callok (am_ins M j) K st h = true)
    (c : am_T K As h (fun r h1 => am_R M (j + 1, ls, r.toList ++ rest) h1 Φ)) : am_R M (j, ls, st) h Φ := by
  subst hK hA hr
  obtain ⟨f, r, h1, e1, g, r2, h2, e2, q⟩ := c
  refine ⟨max f g + 1, r2, h2, ?_, q⟩
  rw [am_run]
  dsimp only
  rw [hk]
  try dsimp only
  rw [hok]
  dsimp only
  rw [am_run_le (Nat.le_max_left f g) e1]
  exact am_run_le (Nat.le_max_right f g) e2
/-- what a call needs beside its receiver -/
def am_cok (I : am_I) (K : am_M) (st : List Value) : Bool := decide (((st.drop I.2.2.2.1).map fun v => v.category).sum ≤ 8) && ((st.take I.2.2.2.1).all (fun v => !am_isL v) && (decide (I.2.2.2.1 ≤ K.2.2.1) && decide ((st.take I.2.2.2.1).length = I.2.2.2.1)))
/-- a call of a method of the object at b0 -/
theorem rcv {M K : am_M} {j b0 ci : Nat} {fs : List Value} {ls st As rest : List Value} {h : am_H} {Φ : Option Value → am_H → Prop} (hk : am_kind (am_ins M j) = 1) (hK : am_tab (am_ins M j).2.2.1 = K) (hA : (st.take (am_ins M j).2.2.2.1).reverse = .ref b0 :: As) (hr : st.drop (am_ins M j).2.2.2.1 = rest) (hok : am_cok (am_ins M j) K st = true) (hc : h.1 b0 = .inr (ci, fs)) (hci : ci = K.2.2.2.2.1)
    (c : am_T K (.ref b0 :: As) h (fun r h1 => am_R M (j + 1, ls, r.toList ++ rest) h1 Φ)) : am_R M (j, ls, st) h Φ := by
  refine am_R_call hk hK hA hr ?_ c
  unfold am_callok
  rw [Bool.and_eq_true]
  refine ⟨?_, hok⟩
  rw [hA]
  unfold am_rcv
  split
  · dsimp only
    rw [hc]
    simp [hci]
  · rfl
  · rfl
/-- a call of a static method, or of a constructor -/
theorem rcs {M K : am_M} {j : Nat} {ls st As rest : List Value} {h : am_H} {Φ : Option Value → am_H → Prop} (hk : am_kind (am_ins M j) = 1) (hK : am_tab (am_ins M j).2.2.1 = K) (hA : (st.take (am_ins M j).2.2.2.1).reverse = As) (hr : st.drop (am_ins M j).2.2.2.1 = rest) (hok : am_callok (am_ins M j) K st h = true)
    (c : am_T K As h (fun r h1 => am_R M (j + 1, ls, r.toList ++ rest) h1 Φ)) : am_R M (j, ls, st) h Φ := am_R_call hk hK hA hr hok c
/-- with an exact contract -/
theorem rcve {M K : am_M} {j b0 ci : Nat} {fs : List Value} {ls st As rest : List Value} {h h1 : am_H} {r : Option Value} {Φ : Option Value → am_H → Prop} (hk : am_kind (am_ins M j) = 1) (hK : am_tab (am_ins M j).2.2.1 = K) (hA : (st.take (am_ins M j).2.2.2.1).reverse = .ref b0 :: As) (hr : st.drop (am_ins M j).2.2.2.1 = rest) (hok : am_cok (am_ins M j) K st = true) (hc : h.1 b0 = .inr (ci, fs)) (hci : ci = K.2.2.2.2.1)
    (c : am_E K (.ref b0 :: As) h r h1) (kk : am_R M (j + 1, ls, r.toList ++ rest) h1 Φ) : am_R M (j, ls, st) h Φ := by
  refine rcv hk hK hA hr hok hc hci (am_R.imp c ?_)
  rintro r' h' ⟨rfl, rfl⟩
  exact kk
theorem rcse {M K : am_M} {j : Nat} {ls st As rest : List Value} {h h1 : am_H} {r : Option Value} {Φ : Option Value → am_H → Prop} (hk : am_kind (am_ins M j) = 1) (hK : am_tab (am_ins M j).2.2.1 = K) (hA : (st.take (am_ins M j).2.2.2.1).reverse = As) (hr : st.drop (am_ins M j).2.2.2.1 = rest) (hok : am_callok (am_ins M j) K st h = true)
    (c : am_E K As h r h1) (kk : am_R M (j + 1, ls, r.toList ++ rest) h1 Φ) : am_R M (j, ls, st) h Φ := by
  refine rcs hk hK hA hr hok (am_R.imp c ?_)
  rintro r' h' ⟨rfl, rfl⟩
  exact kk
theorem rcvs {M K : am_M} {j b0 ci : Nat} {fs : List Value} {ls st As rest : List Value} {h h1 : am_H} {v : Value} {Φ : Option Value → am_H → Prop} (hk : am_kind (am_ins M j) = 1) (hK : am_tab (am_ins M j).2.2.1 = K) (hA : (st.take (am_ins M j).2.2.2.1).reverse = .ref b0 :: As) (hr : st.drop (am_ins M j).2.2.2.1 = rest) (hok : am_cok (am_ins M j) K st = true) (hc : h.1 b0 = .inr (ci, fs)) (hci : ci = K.2.2.2.2.1)
    (c : am_E K (.ref b0 :: As) h (some v) h1) (kk : am_R M (j + 1, ls, v :: rest) h1 Φ) : am_R M (j, ls, st) h Φ := rcve hk hK hA hr hok hc hci c kk
theorem rcvn {M K : am_M} {j b0 ci : Nat} {fs : List Value} {ls st As rest : List Value} {h h1 : am_H} {Φ : Option Value → am_H → Prop} (hk : am_kind (am_ins M j) = 1) (hK : am_tab (am_ins M j).2.2.1 = K) (hA : (st.take (am_ins M j).2.2.2.1).reverse = .ref b0 :: As) (hr : st.drop (am_ins M j).2.2.2.1 = rest) (hok : am_cok (am_ins M j) K st = true) (hc : h.1 b0 = .inr (ci, fs)) (hci : ci = K.2.2.2.2.1)
    (c : am_E K (.ref b0 :: As) h none h1) (kk : am_R M (j + 1, ls, rest) h1 Φ) : am_R M (j, ls, st) h Φ := rcve hk hK hA hr hok hc hci c kk
theorem rcss {M K : am_M} {j : Nat} {ls st As rest : List Value} {h h1 : am_H} {v : Value} {Φ : Option Value → am_H → Prop} (hk : am_kind (am_ins M j) = 1) (hK : am_tab (am_ins M j).2.2.1 = K) (hA : (st.take (am_ins M j).2.2.2.1).reverse = As) (hr : st.drop (am_ins M j).2.2.2.1 = rest) (hok : am_callok (am_ins M j) K st h = true)
    (c : am_E K As h (some v) h1) (kk : am_R M (j + 1, ls, v :: rest) h1 Φ) : am_R M (j, ls, st) h Φ := rcse hk hK hA hr hok c kk
/-- with a contract that says what holds behind it -/
theorem rcvt {M K : am_M} {j b0 ci : Nat} {fs : List Value} {ls st As rest : List Value} {h : am_H} {Ψ Φ : Option Value → am_H → Prop} (hk : am_kind (am_ins M j) = 1) (hK : am_tab (am_ins M j).2.2.1 = K) (hA : (st.take (am_ins M j).2.2.2.1).reverse = .ref b0 :: As) (hr : st.drop (am_ins M j).2.2.2.1 = rest) (hok : am_cok (am_ins M j) K st = true) (hc : h.1 b0 = .inr (ci, fs)) (hci : ci = K.2.2.2.2.1)
    (c : am_T K (.ref b0 :: As) h Ψ) (kk : ∀ r h1, Ψ r h1 → am_R M (j + 1, ls, r.toList ++ rest) h1 Φ) : am_R M (j, ls, st) h Φ := rcv hk hK hA hr hok hc hci (am_R.imp c kk)
/-! the heap -/
theorem am_set_eq {h : am_H} {a : Nat} {c : am_C} : (am_set h a c).1 a = c := by
  show (if a = a then c else h.1 a) = c
  rw [if_pos rfl]
theorem am_set_ne {h : am_H} {a k : Nat} {c : am_C} (hk : k ≠ a) : (am_set h a c).1 k = h.1 k := by
  show (if k = a then c else h.1 k) = h.1 k
  rw [if_neg hk]
section RH
variable {M : am_M} {j : Nat} {ls st : List Value} {h : am_H} {Φ : Option Value → am_H → Prop}
theorem rget {n len ci k : Nat} {z : Value × List (Int32 × Nat)} {a : Nat} {fs : List Value} {v : Value} (hi : am_ins M j = (.getfield n, len, ci, k, z)) (hc : h.1 a = .inr (ci, fs)) (hv : fs[k]? = some v) (kk : am_R M (j + 1, ls, v :: st) h Φ) : am_R M (j, ls, .ref a :: st) h Φ := by
  refine am_R_step (by rw [hi]; rfl) ?_ kk
  rw [hi]
  simp only [am_step, am_r1, am_obj, hc, if_true, hv]
theorem rput {n len ci k : Nat} {z : Value × List (Int32 × Nat)} {a : Nat} {fs : List Value} {v : Value} (hi : am_ins M j = (.putfield n, len, ci, k, z)) (hc : h.1 a = .inr (ci, fs)) (hl : k < fs.length) (hf : am_fit (am_fty ci k) v = true) (kk : am_R M (j + 1, ls, st) (am_set h a (.inr (ci, fs.set k v))) Φ) : am_R M (j, ls, v :: .ref a :: st) h Φ := by
  refine am_R_step (by rw [hi]; rfl) ?_ kk
  rw [hi]
  simp only [am_step, am_obj, hc, if_true]
  rw [if_pos ⟨hl, hf⟩]
theorem riald {z : Nat × Nat × Nat × Value × List (Int32 × Nat)} {a n : Nat} {f : Nat → Int32} {i : Int32} (hi : am_ins M j = (.iaload, z)) (hc : h.1 a = .inl (.int, n, .inl f)) (k : Nat) (hk : k < n) (hn : n < 2 ^ 31) (hik : i = nI k) (kk : am_R M (j + 1, ls, .int (f k) :: st) h Φ) : am_R M (j, ls, .int i :: .ref a :: st) h Φ := by
  subst hik
  have hin := vp_in_nI hk hn
  rw [← nI_clamp (n := k) (by omega)] at kk
  refine am_R_step (by rw [hi]; rfl) ?_ kk
  rw [hi]
  simp only [am_step, am_ari, hc]
  rw [if_neg hin]
theorem riast {z : Nat × Nat × Nat × Value × List (Int32 × Nat)} {a n : Nat} {f : Nat → Int32} {i x : Int32} (hi : am_ins M j = (.iastore, z)) (hc : h.1 a = .inl (.int, n, .inl f)) (ha : a ≠ 0) (k : Nat) (hk : k < n) (hn : n < 2 ^ 31) (hik : i = nI k) (kk : am_R M (j + 1, ls, st) (am_set h a (.inl (.int, n, .inl (upd f k x)))) Φ) : am_R M (j, ls, .int x :: .int i :: .ref a :: st) h Φ := by
  subst hik
  have hin := vp_in_nI hk hn
  rw [← nI_clamp (n := k) (by omega)] at kk
  refine am_R_step (by rw [hi]; rfl) ?_ kk
  rw [hi]
  simp only [am_step, am_ari, hc]
  rw [if_neg (fun q => q.elim ha hin)]
theorem rbald {z : Nat × Nat × Nat × Value × List (Int32 × Nat)} {a n : Nat} {f : Nat → Int32} {i : Int32} (hi : am_ins M j = (.baload, z)) (hc : h.1 a = .inl (.boolean, n, .inl f)) (k : Nat) (hk : k < n) (hn : n < 2 ^ 31) (hik : i = nI k) (kk : am_R M (j + 1, ls, .int (f k) :: st) h Φ) : am_R M (j, ls, .int i :: .ref a :: st) h Φ := by
  subst hik
  have hin := vp_in_nI hk hn
  rw [← nI_clamp (n := k) (by omega)] at kk
  refine am_R_step (by rw [hi]; rfl) ?_ kk
  rw [hi]
  simp only [am_step, am_arz, hc]
  rw [if_neg hin]
theorem rbast {z : Nat × Nat × Nat × Value × List (Int32 × Nat)} {a n : Nat} {f : Nat → Int32} {i x : Int32} (hi : am_ins M j = (.bastore, z)) (hc : h.1 a = .inl (.boolean, n, .inl f)) (k : Nat) (hk : k < n) (hn : n < 2 ^ 31) (hik : i = nI k) (kk : am_R M (j + 1, ls, st) (am_set h a (.inl (.boolean, n, .inl (upd f k (x &&& 1))))) Φ) : am_R M (j, ls, .int x :: .int i :: .ref a :: st) h Φ := by
  subst hik
  have hin := vp_in_nI hk hn
  rw [← nI_clamp (n := k) (by omega)] at kk
  refine am_R_step (by rw [hi]; rfl) ?_ kk
  rw [hi]
  simp only [am_step, am_arz, hc]
  rw [if_neg hin]
theorem rlald {z : Nat × Nat × Nat × Value × List (Int32 × Nat)} {a n : Nat} {f : Nat → Int64} {i : Int32} (hi : am_ins M j = (.laload, z)) (hc : h.1 a = .inl (.long, n, .inr (.inl f))) (k : Nat) (hk : k < n) (hn : n < 2 ^ 31) (hik : i = nI k) (kk : am_R M (j + 1, ls, .long (f k) :: st) h Φ) : am_R M (j, ls, .int i :: .ref a :: st) h Φ := by
  subst hik
  have hin := vp_in_nI hk hn
  rw [← nI_clamp (n := k) (by omega)] at kk
  refine am_R_step (by rw [hi]; rfl) ?_ kk
  rw [hi]
  simp only [am_step, am_arl, hc]
  rw [if_neg hin]
theorem rlast {z : Nat × Nat × Nat × Value × List (Int32 × Nat)} {a n : Nat} {f : Nat → Int64} {i : Int32} {x : Int64} (hi : am_ins M j = (.lastore, z)) (hc : h.1 a = .inl (.long, n, .inr (.inl f))) (k : Nat) (hk : k < n) (hn : n < 2 ^ 31) (hik : i = nI k) (kk : am_R M (j + 1, ls, st) (am_set h a (.inl (.long, n, .inr (.inl (vp_updL f k x))))) Φ) : am_R M (j, ls, .long x :: .int i :: .ref a :: st) h Φ := by
  subst hik
  have hin := vp_in_nI hk hn
  rw [← nI_clamp (n := k) (by omega)] at kk
  refine am_R_step (by rw [hi]; rfl) ?_ kk
  rw [hi]
  simp only [am_step, am_arl, hc]
  rw [if_neg hin]
theorem raald {z : Nat × Nat × Nat × Value × List (Int32 × Nat)} {a n y : Nat} {C : String} {f : Nat → Option Nat} {i : Int32} (hi : am_ins M j = (.aaload, z)) (hc : h.1 a = .inl (.object C, n, .inr (.inr (.inr (.inr f))))) (hC : C = "SpiteLine$Scene" ∨ C = "SpiteLine$Image") (k : Nat) (hk : k < n) (hn : n < 2 ^ 31) (hik : i = nI k) (hy : f k = some y) (kk : am_R M (j + 1, ls, .ref y :: st) h Φ) : am_R M (j, ls, .int i :: .ref a :: st) h Φ := by
  subst hik
  have hin := vp_in_nI hk hn
  rw [← nI_clamp (n := k) (by omega)] at hy
  refine am_R_step (by rw [hi]; rfl) ?_ kk
  rw [hi]
  simp only [am_step, am_arq, hc, am_oc]
  rcases hC with rfl | rfl
  · rw [if_pos rfl, if_neg hin]
    try dsimp only
    rw [hy]
  · rw [if_neg (by decide), if_pos rfl, if_neg hin]
    try dsimp only
    rw [hy]
/-- System.arraycopy of a whole row -/
theorem rcpy {n0 len bb : Nat} {zz : Value × List (Int32 × Nat)} {a a0 n na nb : Nat} {f g : Nat → Int32} {z : Int32} (hi : am_ins M j = (.invokestatic n0, len, 1001, bb, zz)) (hc0 : h.1 a0 = .inl (.int, na, .inl f)) (hc1 : h.1 a = .inl (.int, nb, .inl g)) (h0 : a0 ≠ 0) (h1 : a ≠ 0) (hz : z = nI n) (hn : n < 2 ^ 31) (hna : n ≤ na) (hnb : n ≤ nb) (hs : (st.map fun v => v.category).sum ≤ 8)
    (kk : am_R M (j + 1, ls, st) (am_set h a (.inl (.int, nb, .inl (va_cpy f g 0 0 n)))) Φ) : am_R M (j, ls, .int z :: .int 0 :: .ref a :: .int 0 :: .ref a0 :: st) h Φ := by
  subst hz
  refine am_R_step (by rw [hi]; rfl) ?_ kk
  rw [hi]
  simp only [am_step, if_true, am_ari, hc0, hc1]
  have z0 : (0 : Int32).toNatClampNeg = 0 := by decide
  rw [if_neg, z0, nI_clamp hn]
  rw [z0, nI_clamp hn]
  rintro (q | q | q | q | q | q | q | q)
  · exact h0 q
  · exact h1 q
  · exact absurd q (by decide)
  · exact absurd q (by decide)
  · exact nI_pos hn q
  · omega
  · omega
  · omega
theorem rirem {z : Nat × Nat × Nat × Value × List (Int32 × Nat)} {x y : Int32} (hi : am_ins M j = (.irem, z)) (hne : ¬ y = 0) (kk : am_R M (j + 1, ls, .int (x - x / y * y) :: st) h Φ) : am_R M (j, ls, .int y :: .int x :: st) h Φ := by
  refine am_R_step (by rw [hi]; rfl) ?_ kk
  rw [hi]
  simp only [am_step, am_i2]
  rw [if_neg hne]
theorem rlrem {z : Nat × Nat × Nat × Value × List (Int32 × Nat)} {x y : Int64} (hi : am_ins M j = (.lrem, z)) (hne : ¬ y = 0) (kk : am_R M (j + 1, ls, .long (x - x / y * y) :: st) h Φ) : am_R M (j, ls, .long y :: .long x :: st) h Φ := by
  refine am_R_step (by rw [hi]; rfl) ?_ kk
  rw [hi]
  simp only [am_step, am_l2]
  rw [if_neg hne]
/-! the same, looking for what is known -/
theorem rgeta {n len ci k : Nat} {z : Value × List (Int32 × Nat)} {a : Nat} {fs : List Value} {v : Value} (hi : am_ins M j = (.getfield n, len, ci, k, z)) (hc : h.1 a = .inr (ci, fs) := by first | assumption | (simp (disch := omega) only [am_set_ne, am_set_eq]; first | assumption | rfl)) (hv : fs[k]? = some v := by rfl) (kk : am_R M (j + 1, ls, v :: st) h Φ) : am_R M (j, ls, .ref a :: st) h Φ := rget hi hc hv kk
theorem rputa {n len ci k : Nat} {z : Value × List (Int32 × Nat)} {a : Nat} {fs : List Value} {v : Value} (hi : am_ins M j = (.putfield n, len, ci, k, z)) (hc : h.1 a = .inr (ci, fs) := by first | assumption | (simp (disch := omega) only [am_set_ne, am_set_eq]; first | assumption | rfl)) (hl : Nat.blt k fs.length = true := by rfl) (hf : am_fit (am_fty ci k) v = true := by rfl) (kk : am_R M (j + 1, ls, st) (am_set h a (.inr (ci, fs.set k v))) Φ) : am_R M (j, ls, v :: .ref a :: st) h Φ := rput hi hc (Nat.le_of_ble_eq_true hl) hf kk
theorem rialda {z : Nat × Nat × Nat × Value × List (Int32 × Nat)} {a n : Nat} {f : Nat → Int32} {i : Int32} {k : Nat} (hi : am_ins M j = (.iaload, z)) (hc : h.1 a = .inl (.int, n, .inl f) := by first | assumption | (simp (disch := omega) only [am_set_ne, am_set_eq]; first | assumption | rfl)) (hik : i = nI k := by first | assumption | rfl) (hk : k < n := by omega) (hn : n < 2 ^ 31 := by omega) (kk : am_R M (j + 1, ls, .int (f k) :: st) h Φ) : am_R M (j, ls, .int i :: .ref a :: st) h Φ := riald hi hc k hk hn hik kk
theorem riasta {z : Nat × Nat × Nat × Value × List (Int32 × Nat)} {a n : Nat} {f : Nat → Int32} {i x : Int32} {k : Nat} (hi : am_ins M j = (.iastore, z)) (hc : h.1 a = .inl (.int, n, .inl f) := by first | assumption | (simp (disch := omega) only [am_set_ne, am_set_eq]; first | assumption | rfl)) (ha : a ≠ 0 := by omega) (hik : i = nI k := by first | assumption | rfl) (hk : k < n := by omega) (hn : n < 2 ^ 31 := by omega) (kk : am_R M (j + 1, ls, st) (am_set h a (.inl (.int, n, .inl (upd f k x)))) Φ) : am_R M (j, ls, .int x :: .int i :: .ref a :: st) h Φ := riast hi hc ha k hk hn hik kk
end RH
/-- a loop that counts up -/
theorem lup {P : Nat → Prop} (n : Nat) (hn : P n) (hs : ∀ i, i < n → P (i + 1) → P i) : P 0 := by
  have key : ∀ k, k ≤ n → P (n - k) := by
    intro k
    induction k with
    | zero => intro _; exact hn
    | succ k ih =>
      intro hk
      have := hs (n - (k + 1)) (by omega)
      rw [show n - (k + 1) + 1 = n - k by omega] at this
      exact this (ih (by omega))
  have := key n (Nat.le_refl n)
  rwa [Nat.sub_self] at this
end
section
/-! words of the specification -/
def bitv (x k : Int32) : Int32 := (x >>> (k &&& 31)) &&& 1
def sh1 (k : Int32) : Int32 := 1 <<< (k &&& 31)
/-- for p = 0 .. n less 1 -/
def fo {α : Type} (f : Nat → α → α) : Nat → α → α
  | 0, a => a
  | n + 1, a => f n (fo f n a)
theorem fo_succ {α : Type} (f : Nat → α → α) (n : Nat) (a : α) : fo f (n + 1) a = f n (fo f n a) := rfl
theorem fo_congr {α : Type} {f g : Nat → α → α} {n : Nat} {a : α} (h : ∀ p b, p < n → f p b = g p b) : fo f n a = fo g n a := by
  induction n with
  | zero => rfl
  | succ n ih =>
    rw [fo_succ, fo_succ, ih (fun p b hp => h p b (by omega)), h n _ (by omega)]
/-- within 0 .. n less 1 -/
abbrev inR (p : Int32) (n : Nat) : Prop := ¬ p < 0 ∧ p < nI n
theorem inR_of {p : Int32} {n : Nat} (h : inR p n) (hn : n < 2 ^ 31) : ∃ k, k < n ∧ p = nI k := by
  obtain ⟨k, hk, rfl⟩ := nI_of h.1
  exact ⟨k, (nI_ltI hk hn).mp h.2, rfl⟩
theorem inR_nI {k n : Nat} (hk : k < n) (hn : n < 2 ^ 31) : inR (nI k) n := ⟨nI_pos (by omega), nI_lt hk hn⟩
theorem nI_le1 {p : Int32} {n : Nat} (hn : n < 2 ^ 31) (h0 : ¬ p < 0) : p ≤ nI n - 1 ↔ p < nI n := by
  obtain ⟨k, hk, rfl⟩ := nI_of h0
  rw [nI_ltI hk hn, Int32.le_iff_toInt_le]
  cases n with
  | zero =>
    have : (nI 0 - 1).toInt = -1 := by decide
    rw [this, nI_toInt hk]
    omega
  | succ n =>
    rw [nI_pred, nI_toInt hk, nI_toInt (by omega)]
    omega
theorem am_set_self {h : am_H} {a : Nat} {c : am_C} (hc : h.1 a = c) : am_set h a c = h := by
  unfold am_set
  refine Prod.ext ?_ rfl
  funext k
  by_cases hk : k = a
  · subst hk
    simp [hc]
  · simp [hk]
theorem am_set_set {h : am_H} {a : Nat} {c d : am_C} : am_set (am_set h a c) a d = am_set h a d := by
  unfold am_set
  refine Prod.ext ?_ rfl
  funext k
  by_cases hk : k = a <;> simp [hk]
theorem am_set_comm {h : am_H} {a b : Nat} {c d : am_C} (hab : a ≠ b) : am_set (am_set h a c) b d = am_set (am_set h b d) a c := by
  unfold am_set
  refine Prod.ext ?_ rfl
  funext k
  by_cases hk : k = a
  · subst hk
    simp [hab]
  · simp [hk]
abbrev iar (f : Nat → Int32) : am_C := .inl (.int, 8, .inl f)
theorem nI_lt_iff {i n : Nat} (hi : i < 2 ^ 31) (hn : n < 2 ^ 31) : nI n ≤ nI i ↔ ¬ i < n := by
  rw [nI_leI hn hi]
  omega
end
section
/-! ===== Int32 by its bits: bt x i ===== -/
def bt (x : Int32) (i : Nat) : Bool := x.toBitVec.getLsbD i
theorem b_ext {x y : Int32} (h : ∀ i, i < 32 → bt x i = bt y i) : x = y := Int32.toBitVec_inj.mp (BitVec.eq_of_getLsbD_eq (fun i hi => h i hi))
theorem b_or (x y : Int32) (i : Nat) : bt (x ||| y) i = (bt x i || bt y i) := by unfold bt; rw [Int32.toBitVec_or, BitVec.getLsbD_or]
theorem b_and (x y : Int32) (i : Nat) : bt (x &&& y) i = (bt x i && bt y i) := by unfold bt; rw [Int32.toBitVec_and, BitVec.getLsbD_and]
theorem b_xor (x y : Int32) (i : Nat) : bt (x ^^^ y) i = (bt x i ^^ bt y i) := by unfold bt; rw [Int32.toBitVec_xor, BitVec.getLsbD_xor]
theorem b_big {x : Int32} {i : Nat} (h : 32 ≤ i) : bt x i = false := BitVec.getLsbD_of_ge _ _ h
theorem b_255 (i : Nat) : bt 255 i = decide (i < 8) := by
  rcases Nat.lt_or_ge i 32 with h | h
  · exact (by decide +kernel : ∀ i, i < 32 → bt 255 i = decide (i < 8)) i h
  · rw [b_big h, decide_eq_false (by omega)]
theorem b_65535 (i : Nat) : bt 65535 i = decide (i < 16) := by
  rcases Nat.lt_or_ge i 32 with h | h
  · exact (by decide +kernel : ∀ i, i < 32 → bt 65535 i = decide (i < 16)) i h
  · rw [b_big h, decide_eq_false (by omega)]
theorem b_m1 : ∀ i, i < 32 → bt (-1) i = true := by decide +kernel
theorem b_0 (i : Nat) : bt 0 i = false := BitVec.getLsbD_zero
theorem s_l : ∀ n, n < 32 → ((nI n &&& 31).toBitVec.smod 32).toNat = n := by decide +kernel
theorem s_u : ∀ n, n < 32 → (((nI n).toUInt32 &&& Int32.toUInt32 31).toBitVec % 32).toNat = n := by decide +kernel
theorem b_shl (n : Nat) (hn : n < 32) (x : Int32) {i : Nat} (hi : i < 32) : bt (x <<< (nI n &&& 31)) i = (decide (n ≤ i) && bt x (i - n)) := by
  unfold bt
  rw [Int32.toBitVec_shiftLeft]
  show (x.toBitVec <<< ((nI n &&& 31).toBitVec.smod 32).toNat).getLsbD i = _
  rw [s_l n hn, BitVec.getLsbD_shiftLeft]
  rcases Nat.lt_or_ge i n with h | h
  · simp [h, Nat.not_le.mpr h]
  · simp [hi, h, Nat.not_lt.mpr h]
theorem b_ushr (n : Nat) (hn : n < 32) (x : Int32) (i : Nat) : bt ((x.toUInt32 >>> ((nI n).toUInt32 &&& Int32.toUInt32 31)).toInt32) i = bt x (n + i) := by
  show (x.toUInt32 >>> ((nI n).toUInt32 &&& Int32.toUInt32 31)).toBitVec.getLsbD i = x.toUInt32.toBitVec.getLsbD (n + i)
  rw [UInt32.toBitVec_shiftRight]
  show (x.toUInt32.toBitVec >>> (((nI n).toUInt32 &&& Int32.toUInt32 31).toBitVec % 32).toNat).getLsbD i = _
  rw [s_u n hn, BitVec.getLsbD_ushiftRight]
theorem b_sshr (n : Nat) (hn : n < 32) (x : Int32) {i : Nat} (hi : i < 32) : bt (x >>> (nI n &&& 31)) i = if n + i < 32 then bt x (n + i) else bt x 31 := by
  unfold bt
  rw [Int32.toBitVec_shiftRight]
  show (x.toBitVec.sshiftRight ((nI n &&& 31).toBitVec.smod 32).toNat).getLsbD i = _
  rw [s_l n hn, BitVec.getLsbD_sshiftRight, BitVec.msb_eq_getLsbD_last]
  simp [hi]
/-! one bit of a set -/
theorem b_1 (i : Nat) : bt 1 i = decide (i = 0) := by
  rcases Nat.lt_or_ge i 32 with h | h
  · exact (by decide +kernel : ∀ i, i < 32 → bt 1 i = decide (i = 0)) i h
  · rw [b_big h, decide_eq_false (by omega)]
theorem bitv_bt {x : Int32} {k : Nat} (hk : k < 32) : bitv x (nI k) = if bt x k = true then 1 else 0 := by
  apply b_ext
  intro i hi
  unfold bitv
  rw [b_and, b_sshr k hk x hi, b_1]
  by_cases h0 : i = 0
  · subst h0
    rw [if_pos (by omega), Nat.add_zero]
    cases hb : bt x k
    · simp [b_0]
    · simp [b_1]
  · rw [decide_eq_false h0, Bool.and_false]
    cases hb : bt x k
    · simp [b_0]
    · simp [b_1, h0]
theorem bt_sh1 {k i : Nat} (hk : k < 32) (hi : i < 32) : bt (sh1 (nI k)) i = decide (i = k) := by
  unfold sh1
  rw [b_shl k hk 1 hi, b_1]
  by_cases h : i = k
  · subst h
    simp
  · rw [decide_eq_false h]
    rcases Nat.lt_or_ge i k with g | g
    · simp [Nat.not_le.mpr g]
    · rw [decide_eq_false (p := i - k = 0) (by omega), Bool.and_false]
theorem bitv_or {x : Int32} {k i : Nat} (hk : k < 32) (hi : i < 32) : bitv (x ||| sh1 (nI k)) (nI i) = if i = k then 1 else bitv x (nI i) := by
  rw [bitv_bt hi, bitv_bt hi, b_or, bt_sh1 hk hi]
  by_cases h : i = k <;> simp [h]
theorem bitv_an {x : Int32} {k i : Nat} (hk : k < 32) (hi : i < 32) : bitv (x &&& (sh1 (nI k) ^^^ (-1))) (nI i) = if i = k then 0 else bitv x (nI i) := by
  rw [bitv_bt hi, bitv_bt hi, b_and, b_xor, bt_sh1 hk hi, b_m1 i hi]
  by_cases h : i = k <;> simp [h]
theorem bitv_wb {x z : Int32} {k i : Nat} (hk : k < 32) (hi : i < 32) : bitv (if z = 0 then x &&& (sh1 (nI k) ^^^ (-1)) else x ||| sh1 (nI k)) (nI i) = if i = k then (if z = 0 then 0 else 1) else bitv x (nI i) := by
  by_cases hz : z = 0
  · rw [if_pos hz, if_pos hz, bitv_an hk hi]
  · rw [if_neg hz, if_neg hz, bitv_or hk hi]
theorem bitv_01 {x : Int32} {k : Nat} (hk : k < 32) : bitv x (nI k) = 0 ∨ bitv x (nI k) = 1 := by
  rw [bitv_bt hk]
  by_cases h : bt x k = true
  · right
    rw [if_pos h]
  · left
    rw [if_neg h]
theorem bitv_0 {k : Nat} (hk : k < 32) : bitv 0 (nI k) = 0 := by
  rw [bitv_bt hk, b_0]
  rfl
end
section
/-! the class's leaves: Line, bits -/
theorem c_bit {h : am_H} {x k : Int32} : am_E M_Sp_bit [.int x, .int k] h (some (.int (bitv x k))) h := by
  (try unfold am_E); unfold am_T
  repeat (first | refine rs [] rfl rfl rfl rfl ?_ | refine rk rfl rfl ?_ | refine rgoh [] rfl rfl ?_ | refine rgeta (hi := rfl) (kk := ?_) | refine rialda (hi := rfl) (kk := ?_))
  refine rret rfl rfl ?_
  exact ⟨rfl, rfl⟩
theorem c_withBit {h : am_H} {x k z : Int32} : am_E M_Sp_withBit [.int x, .int k, .int z] h (some (.int (if z = 0 then x &&& (sh1 k ^^^ (-1)) else x ||| sh1 k))) h := by
  (try unfold am_E); unfold am_T
  repeat (first | refine rs [] rfl rfl rfl rfl ?_ | refine rk rfl rfl ?_ | refine rgoh [] rfl rfl ?_ | refine rgeta (hi := rfl) (kk := ?_) | refine rialda (hi := rfl) (kk := ?_))
  (first | refine rif rfl rfl (fun c1 => ?_) (fun c1 => ?_) | refine ric rfl rfl (fun c1 => ?_) (fun c1 => ?_))
  · repeat (first | refine rs [] rfl rfl rfl rfl ?_ | refine rk rfl rfl ?_ | refine rgoh [] rfl rfl ?_ | refine rgeta (hi := rfl) (kk := ?_) | refine rialda (hi := rfl) (kk := ?_))
    refine rret rfl rfl ?_
    exact ⟨by rw [if_pos c1]; rfl, rfl⟩
  · repeat (first | refine rs [] rfl rfl rfl rfl ?_ | refine rk rfl rfl ?_ | refine rgoh [] rfl rfl ?_ | refine rgeta (hi := rfl) (kk := ?_) | refine rialda (hi := rfl) (kk := ?_))
    refine rret rfl rfl ?_
    exact ⟨by rw [if_neg c1]; rfl, rfl⟩
section CLine
variable {h : am_H} {a w m : Nat} {N G P : Int32}
theorem c_isTold (hl : h.1 a = .inr (4, [.int N, .int G, .int P, .ref w, .ref m])) : am_E M_Line_isTold [.ref a] h (some (.int (if 0 < N then 1 else 0))) h := by
  (try unfold am_E); unfold am_T
  repeat (first | refine rs [] rfl rfl rfl rfl ?_ | refine rk rfl rfl ?_ | refine rgoh [] rfl rfl ?_ | refine rgeta (hi := rfl) (kk := ?_) | refine rialda (hi := rfl) (kk := ?_))
  (first | refine rif rfl rfl (fun c1 => ?_) (fun c1 => ?_) | refine ric rfl rfl (fun c1 => ?_) (fun c1 => ?_))
  · repeat (first | refine rs [] rfl rfl rfl rfl ?_ | refine rk rfl rfl ?_ | refine rgoh [] rfl rfl ?_ | refine rgeta (hi := rfl) (kk := ?_) | refine rialda (hi := rfl) (kk := ?_))
    refine rret rfl rfl ?_
    exact ⟨by rw [if_neg (by exact Int32.not_lt.mpr c1)], rfl⟩
  · repeat (first | refine rs [] rfl rfl rfl rfl ?_ | refine rk rfl rfl ?_ | refine rgoh [] rfl rfl ?_ | refine rgeta (hi := rfl) (kk := ?_) | refine rialda (hi := rfl) (kk := ?_))
    refine rret rfl rfl ?_
    exact ⟨by rw [if_pos (by exact Int32.not_le.mp c1)], rfl⟩
theorem c_hasStation {x : Int32} {n : Nat} (hl : h.1 a = .inr (4, [.int (nI n), .int G, .int P, .ref w, .ref m])) : am_E M_Line_hasStation [.ref a, .int x] h (some (.int (if inR x n then 1 else 0))) h := by
  (try unfold am_E); unfold am_T
  repeat (first | refine rs [] rfl rfl rfl rfl ?_ | refine rk rfl rfl ?_ | refine rgoh [] rfl rfl ?_ | refine rgeta (hi := rfl) (kk := ?_) | refine rialda (hi := rfl) (kk := ?_))
  (first | refine rif rfl rfl (fun c1 => ?_) (fun c1 => ?_) | refine ric rfl rfl (fun c1 => ?_) (fun c1 => ?_))
  · repeat (first | refine rs [] rfl rfl rfl rfl ?_ | refine rk rfl rfl ?_ | refine rgoh [] rfl rfl ?_ | refine rgeta (hi := rfl) (kk := ?_) | refine rialda (hi := rfl) (kk := ?_))
    refine rret rfl rfl ?_
    exact ⟨by rw [if_neg (fun q => q.1 c1)], rfl⟩
  · repeat (first | refine rs [] rfl rfl rfl rfl ?_ | refine rk rfl rfl ?_ | refine rgoh [] rfl rfl ?_ | refine rgeta (hi := rfl) (kk := ?_) | refine rialda (hi := rfl) (kk := ?_))
    (first | refine rif rfl rfl (fun c2 => ?_) (fun c2 => ?_) | refine ric rfl rfl (fun c2 => ?_) (fun c2 => ?_))
    · repeat (first | refine rs [] rfl rfl rfl rfl ?_ | refine rk rfl rfl ?_ | refine rgoh [] rfl rfl ?_ | refine rgeta (hi := rfl) (kk := ?_) | refine rialda (hi := rfl) (kk := ?_))
      refine rret rfl rfl ?_
      exact ⟨by rw [if_neg (fun q => Int32.not_lt.mpr c2 q.2)], rfl⟩
    · repeat (first | refine rs [] rfl rfl rfl rfl ?_ | refine rk rfl rfl ?_ | refine rgoh [] rfl rfl ?_ | refine rgeta (hi := rfl) (kk := ?_) | refine rialda (hi := rfl) (kk := ?_))
      refine rret rfl rfl ?_
      exact ⟨by rw [if_pos ⟨c1, Int32.not_le.mp c2⟩], rfl⟩
theorem c_hasPerson {x : Int32} {n : Nat} (hn : n ≤ 8) (hl : h.1 a = .inr (4, [.int N, .int G, .int (nI n), .ref w, .ref m])) : am_E M_Line_hasPerson [.ref a, .int x] h (some (.int (if inR x n then 1 else 0))) h := by
  (try unfold am_E); unfold am_T
  repeat (first | refine rs [] rfl rfl rfl rfl ?_ | refine rk rfl rfl ?_ | refine rgoh [] rfl rfl ?_ | refine rgeta (hi := rfl) (kk := ?_) | refine rialda (hi := rfl) (kk := ?_))
  (first | refine rif rfl rfl (fun c1 => ?_) (fun c1 => ?_) | refine ric rfl rfl (fun c1 => ?_) (fun c1 => ?_))
  · repeat (first | refine rs [] rfl rfl rfl rfl ?_ | refine rk rfl rfl ?_ | refine rgoh [] rfl rfl ?_ | refine rgeta (hi := rfl) (kk := ?_) | refine rialda (hi := rfl) (kk := ?_))
    refine rret rfl rfl ?_
    exact ⟨by rw [if_neg (fun q => q.1 c1)], rfl⟩
  · repeat (first | refine rs [] rfl rfl rfl rfl ?_ | refine rk rfl rfl ?_ | refine rgoh [] rfl rfl ?_ | refine rgeta (hi := rfl) (kk := ?_) | refine rialda (hi := rfl) (kk := ?_))
    (first | refine rif rfl rfl (fun c2 => ?_) (fun c2 => ?_) | refine ric rfl rfl (fun c2 => ?_) (fun c2 => ?_))
    · repeat (first | refine rs [] rfl rfl rfl rfl ?_ | refine rk rfl rfl ?_ | refine rgoh [] rfl rfl ?_ | refine rgeta (hi := rfl) (kk := ?_) | refine rialda (hi := rfl) (kk := ?_))
      refine rret rfl rfl ?_
      exact ⟨by rw [if_neg (fun q => Int32.not_lt.mpr c2 q.2)], rfl⟩
    · repeat (first | refine rs [] rfl rfl rfl rfl ?_ | refine rk rfl rfl ?_ | refine rgoh [] rfl rfl ?_ | refine rgeta (hi := rfl) (kk := ?_) | refine rialda (hi := rfl) (kk := ?_))
      have hin : inR x n := ⟨c1, Int32.not_le.mp c2⟩
      (first | refine rif rfl rfl (fun c3 => ?_) (fun c3 => ?_) | refine ric rfl rfl (fun c3 => ?_) (fun c3 => ?_))
      · exfalso
        obtain ⟨k, hk, rfl⟩ := inR_of hin (by omega)
        exact nI_ge (a := k) (b := 8) (by omega) (by omega) c3
      · repeat (first | refine rs [] rfl rfl rfl rfl ?_ | refine rk rfl rfl ?_ | refine rgoh [] rfl rfl ?_ | refine rgeta (hi := rfl) (kk := ?_) | refine rialda (hi := rfl) (kk := ?_))
        refine rret rfl rfl ?_
        exact ⟨by rw [if_pos hin], rfl⟩
theorem c_allStations (hl : h.1 a = .inr (4, [.int N, .int G, .int P, .ref w, .ref m])) : am_E M_Line_allStations [.ref a] h (some (.int (sh1 N - 1))) h := by
  (try unfold am_E); unfold am_T
  repeat (first | refine rs [] rfl rfl rfl rfl ?_ | refine rk rfl rfl ?_ | refine rgoh [] rfl rfl ?_ | refine rgeta (hi := rfl) (kk := ?_) | refine rialda (hi := rfl) (kk := ?_))
  refine rret rfl rfl ?_
  exact ⟨rfl, rfl⟩
theorem c_allPersons (hl : h.1 a = .inr (4, [.int N, .int G, .int P, .ref w, .ref m])) : am_E M_Line_allPersons [.ref a] h (some (.int (sh1 P - 1))) h := by
  (try unfold am_E); unfold am_T
  repeat (first | refine rs [] rfl rfl rfl rfl ?_ | refine rk rfl rfl ?_ | refine rgoh [] rfl rfl ?_ | refine rgeta (hi := rfl) (kk := ?_) | refine rialda (hi := rfl) (kk := ?_))
  refine rret rfl rfl ?_
  exact ⟨rfl, rfl⟩
theorem c_Lclear (hl : h.1 a = .inr (4, [.int N, .int G, .int P, .ref w, .ref m])) : am_T M_Line_clear [.ref a] h (fun r h' => r = none ∧ h' = am_set h a (.inr (4, [.int 0, .int 0, .int 0, .ref w, .ref m]))) := by
  (try unfold am_E); unfold am_T
  repeat (first | refine rs [] rfl rfl rfl rfl ?_ | refine rk rfl rfl ?_ | refine rgoh [] rfl rfl ?_ | refine rgeta (hi := rfl) (kk := ?_) | refine rialda (hi := rfl) (kk := ?_))
  refine rputa (hi := rfl) (kk := ?_)
  repeat (first | refine rs [] rfl rfl rfl rfl ?_ | refine rk rfl rfl ?_ | refine rgoh [] rfl rfl ?_ | refine rgeta (hi := rfl) (kk := ?_) | refine rialda (hi := rfl) (kk := ?_))
  refine rputa (hi := rfl) (hc := am_set_eq) (kk := ?_)
  repeat (first | refine rs [] rfl rfl rfl rfl ?_ | refine rk rfl rfl ?_ | refine rgoh [] rfl rfl ?_ | refine rgeta (hi := rfl) (kk := ?_) | refine rialda (hi := rfl) (kk := ?_))
  refine rputa (hi := rfl) (hc := am_set_eq) (kk := ?_)
  refine rret rfl rfl ?_
  refine ⟨rfl, ?_⟩
  simp only [am_set, List.set]
  congr 1
  funext k
  by_cases hk : k = a <;> simp [hk]
end CLine
end
section
/-! the class's Scene -/
def shw (hope : Int32) (mi : Nat → Int32) (fe fl : Int32) (p : Nat) : Int32 := (if bitv hope (nI p) = 1 then 9 else mi p) + 2 * bitv fe (nI p) + 3 * bitv fl (nI p)
/-- whom the guard takes to wait: where -/
def awv (hope G fog fe fl : Int32) (mi f : Nat → Int32) (P : Nat) : Int32 := fo (fun p s => if shw hope mi fe fl p < G + fog then s else s ||| sh1 (f p)) P 0
def stn (hope G fog fe fl : Int32) (mi f : Nat → Int32) (N P : Nat) : Int32 := (sh1 (nI N) - 1) &&& (awv hope G fog fe fl mi f P ^^^ (-1))
def loF (P : Nat) (wa me : Nat → Int32) (x : Int32) (p : Nat) (f : Nat → Int32) : Nat → Int32 := if f p = -1 ∧ wa p = x ∧ ¬ (inR (me p) P ∧ f (me p).toNatClampNeg = x) then upd f p x else f
def tiF (wa : Nat → Int32) (x : Int32) (p : Nat) (f : Nat → Int32) : Nat → Int32 := if f p = x ∧ x < wa p then upd f p (-1) else f
def emF (N : Nat) (p : Nat) (f : Nat → Int32) : Nat → Int32 := if f p = -1 then upd f p (nI N - 1) else f
def stF (P : Nat) (wa me : Nat → Int32) (halts : Int32) (x : Nat) (f : Nat → Int32) : Nat → Int32 := if bitv halts (nI x) = 1 then fo (tiF wa (nI x)) P (fo (loF P wa me (nI x)) P f) else f
def rtF (N P : Nat) (wa me : Nat → Int32) (halts : Int32) (f : Nat → Int32) : Nat → Int32 := fo (emF N) P (fo (stF P wa me halts) N f)
def scW (a w mi l lw lm mt N P : Nat) (G fe fl fog tr sp : Int32) (mif wa me : Nat → Int32) (h : am_H) (f : Nat → Int32) : Prop :=
  h.1 a = .inr (6, [.ref w, .ref mi, .int fe, .int fl, .int fog, .int tr, .int sp]) ∧ h.1 w = iar f ∧ h.1 mi = iar mif ∧ h.1 l = .inr (4, [.int (nI N), .int G, .int (nI P), .ref lw, .ref lm]) ∧ h.1 lw = iar wa ∧ h.1 mt = iar me ∧ (w ≠ a ∧ w ≠ mi ∧ w ≠ l ∧ w ≠ lw ∧ w ≠ mt ∧ w ≠ 0) ∧ N ≤ 8 ∧ P ≤ 8
section CScene
variable {h : am_H} {a w mi l lw lm mt N P : Nat} {G fe fl fog tr sp : Int32} {mif wa me f : Nat → Int32}
theorem scW_set {g : Nat → Int32} (H : scW a w mi l lw lm mt N P G fe fl fog tr sp mif wa me h f) : scW a w mi l lw lm mt N P G fe fl fog tr sp mif wa me (am_set h w (iar g)) g := by
  obtain ⟨h1, h2, h3, h4, h5, h6, ⟨n1, n2, n3, n4, n5, n6⟩, h7, h8⟩ := H
  exact ⟨by rw [am_set_ne (Ne.symm n1)]; exact h1, am_set_eq, by rw [am_set_ne (Ne.symm n2)]; exact h3, by rw [am_set_ne (Ne.symm n3)]; exact h4, by rw [am_set_ne (Ne.symm n4)]; exact h5, by rw [am_set_ne (Ne.symm n5)]; exact h6, ⟨n1, n2, n3, n4, n5, n6⟩, h7, h8⟩
theorem c_shows {p hope : Int32} {k : Nat} (hp : p = nI k) (hk : k < 8) (h1 : h.1 a = .inr (6, [.ref w, .ref mi, .int fe, .int fl, .int fog, .int tr, .int sp])) (h3 : h.1 mi = iar mif) : am_E M_Scene_shows [.ref a, .int p, .int hope] h (some (.int (shw hope mif fe fl k))) h := by
  subst hp
  (try unfold am_E); unfold am_T
  repeat (first | refine rs [] rfl rfl rfl rfl ?_ | refine rk rfl rfl ?_ | refine rgoh [] rfl rfl ?_ | refine rgeta (hi := rfl) (kk := ?_) | refine rialda (hi := rfl) (kk := ?_))
  refine rcss rfl rfl rfl rfl rfl (c_bit) ?_
  repeat (first | refine rs [] rfl rfl rfl rfl ?_ | refine rk rfl rfl ?_ | refine rgoh [] rfl rfl ?_ | refine rgeta (hi := rfl) (kk := ?_) | refine rialda (hi := rfl) (kk := ?_))
  (first | refine rif rfl rfl (fun c1 => ?_) (fun c1 => ?_) | refine ric rfl rfl (fun c1 => ?_) (fun c1 => ?_))
  · repeat (first | refine rs [] rfl rfl rfl rfl ?_ | refine rk rfl rfl ?_ | refine rgoh [] rfl rfl ?_ | refine rgeta (hi := rfl) (kk := ?_) | refine rialda (hi := rfl) (kk := ?_))
    refine rcss rfl rfl rfl rfl rfl (c_bit) ?_
    repeat (first | refine rs [] rfl rfl rfl rfl ?_ | refine rk rfl rfl ?_ | refine rgoh [] rfl rfl ?_ | refine rgeta (hi := rfl) (kk := ?_) | refine rialda (hi := rfl) (kk := ?_))
    refine rcss rfl rfl rfl rfl rfl (c_bit) ?_
    repeat (first | refine rs [] rfl rfl rfl rfl ?_ | refine rk rfl rfl ?_ | refine rgoh [] rfl rfl ?_ | refine rgeta (hi := rfl) (kk := ?_) | refine rialda (hi := rfl) (kk := ?_))
    refine rret rfl rfl ?_
    refine ⟨?_, rfl⟩
    unfold shw
    rw [if_pos c1]
  · repeat (first | refine rs [] rfl rfl rfl rfl ?_ | refine rk rfl rfl ?_ | refine rgoh [] rfl rfl ?_ | refine rgeta (hi := rfl) (kk := ?_) | refine rialda (hi := rfl) (kk := ?_))
    refine rcss rfl rfl rfl rfl rfl (c_bit) ?_
    repeat (first | refine rs [] rfl rfl rfl rfl ?_ | refine rk rfl rfl ?_ | refine rgoh [] rfl rfl ?_ | refine rgeta (hi := rfl) (kk := ?_) | refine rialda (hi := rfl) (kk := ?_))
    refine rcss rfl rfl rfl rfl rfl (c_bit) ?_
    repeat (first | refine rs [] rfl rfl rfl rfl ?_ | refine rk rfl rfl ?_ | refine rgoh [] rfl rfl ?_ | refine rgeta (hi := rfl) (kk := ?_) | refine rialda (hi := rfl) (kk := ?_))
    refine rret rfl rfl ?_
    refine ⟨?_, rfl⟩
    unfold shw
    rw [if_neg c1]
theorem c_alarm {lP : Int32} (h1 : h.1 a = .inr (6, [.ref w, .ref mi, .int fe, .int fl, .int fog, .int tr, .int sp])) (h4 : h.1 l = .inr (4, [.int (nI N), .int G, .int lP, .ref lw, .ref lm])) : am_E M_Scene_alarm [.ref a, .ref l] h (some (.int (G + fog))) h := by
  (try unfold am_E); unfold am_T
  repeat (first | refine rs [] rfl rfl rfl rfl ?_ | refine rk rfl rfl ?_ | refine rgoh [] rfl rfl ?_ | refine rgeta (hi := rfl) (kk := ?_) | refine rialda (hi := rfl) (kk := ?_))
  refine rret rfl rfl ?_
  exact ⟨rfl, rfl⟩
theorem c_awaited {hope : Int32} (H : scW a w mi l lw lm mt N P G fe fl fog tr sp mif wa me h f) : am_E M_Scene_awaited [.ref a, .ref l, .int hope] h (some (.int (awv hope G fog fe fl mif f P))) h := by
  obtain ⟨h1, h2, h3, h4, h5, h6, -, h7, h8⟩ := H
  (try unfold am_E); unfold am_T
  repeat (first | refine rs [4] rfl rfl rfl rfl ?_ | refine rk rfl rfl ?_ | refine rgoh [4] rfl rfl ?_ | refine rgeta (hi := rfl) (kk := ?_) | refine rialda (hi := rfl) (kk := ?_))
  refine lup (P := fun i => ∀ x, x = nI i → am_R M_Scene_awaited (4, [.ref a, .ref l, .int hope, .int (fo (fun p s => if shw hope mif fe fl p < G + fog then s else s ||| sh1 (f p)) i 0), .int x], []) h _) P ?_ ?_ 0 nI_0.symm
  · rintro x rfl
    repeat (first | refine rs [] rfl rfl rfl rfl ?_ | refine rk rfl rfl ?_ | refine rgoh [] rfl rfl ?_ | refine rgeta (hi := rfl) (kk := ?_) | refine rialda (hi := rfl) (kk := ?_))
    (first | refine rif rfl rfl (fun c1 => ?_) (fun c1 => ?_) | refine ric rfl rfl (fun c1 => ?_) (fun c1 => ?_))
    · repeat (first | refine rs [] rfl rfl rfl rfl ?_ | refine rk rfl rfl ?_ | refine rgoh [] rfl rfl ?_ | refine rgeta (hi := rfl) (kk := ?_) | refine rialda (hi := rfl) (kk := ?_))
      refine rret rfl rfl ?_
      exact ⟨rfl, rfl⟩
    · exact absurd (Int32.le_refl _) c1
  · rintro i hi ih x rfl
    repeat (first | refine rs [] rfl rfl rfl rfl ?_ | refine rk rfl rfl ?_ | refine rgoh [] rfl rfl ?_ | refine rgeta (hi := rfl) (kk := ?_) | refine rialda (hi := rfl) (kk := ?_))
    (first | refine rif rfl rfl (fun c1 => ?_) (fun c1 => ?_) | refine ric rfl rfl (fun c1 => ?_) (fun c1 => ?_))
    · exact absurd hi ((nI_lt_iff (by omega) (by omega)).mp c1)
    · repeat (first | refine rs [] rfl rfl rfl rfl ?_ | refine rk rfl rfl ?_ | refine rgoh [] rfl rfl ?_ | refine rgeta (hi := rfl) (kk := ?_) | refine rialda (hi := rfl) (kk := ?_))
      (first | refine rcvs rfl rfl rfl rfl rfl (by first | assumption | (simp (disch := omega) only [am_set_ne, am_set_eq]; first | assumption | rfl)) rfl (c_shows rfl (by omega) h1 h3) ?_ | refine rcvn rfl rfl rfl rfl rfl (by first | assumption | (simp (disch := omega) only [am_set_ne, am_set_eq]; first | assumption | rfl)) rfl (c_shows rfl (by omega) h1 h3) ?_)
      repeat (first | refine rs [] rfl rfl rfl rfl ?_ | refine rk rfl rfl ?_ | refine rgoh [] rfl rfl ?_ | refine rgeta (hi := rfl) (kk := ?_) | refine rialda (hi := rfl) (kk := ?_))
      (first | refine rcvs rfl rfl rfl rfl rfl (by first | assumption | (simp (disch := omega) only [am_set_ne, am_set_eq]; first | assumption | rfl)) rfl (c_alarm h1 h4) ?_ | refine rcvn rfl rfl rfl rfl rfl (by first | assumption | (simp (disch := omega) only [am_set_ne, am_set_eq]; first | assumption | rfl)) rfl (c_alarm h1 h4) ?_)
      (first | refine rif rfl rfl (fun c2 => ?_) (fun c2 => ?_) | refine ric rfl rfl (fun c2 => ?_) (fun c2 => ?_))
      · repeat (first | refine rs [4] rfl rfl rfl rfl ?_ | refine rk rfl rfl ?_ | refine rgoh [4] rfl rfl ?_ | refine rgeta (hi := rfl) (kk := ?_) | refine rialda (hi := rfl) (kk := ?_))
        have := ih _ (nI_succ i).symm
        rw [fo_succ, if_pos c2] at this
        exact this
      · repeat (first | refine rs [4] rfl rfl rfl rfl ?_ | refine rk rfl rfl ?_ | refine rgoh [4] rfl rfl ?_ | refine rgeta (hi := rfl) (kk := ?_) | refine rialda (hi := rfl) (kk := ?_))
        have := ih _ (nI_succ i).symm
        rw [fo_succ, if_neg c2] at this
        exact this
theorem c_stopsOfNext {hope : Int32} (H : scW a w mi l lw lm mt N P G fe fl fog tr sp mif wa me h f) : am_E M_Scene_stopsOfNext [.ref a, .ref l, .int hope] h (some (.int (stn hope G fog fe fl mif f N P))) h := by
  obtain ⟨h1, h2, h3, h4, h5, h6, -, h7, h8⟩ := id H
  (try unfold am_E); unfold am_T
  repeat (first | refine rs [] rfl rfl rfl rfl ?_ | refine rk rfl rfl ?_ | refine rgoh [] rfl rfl ?_ | refine rgeta (hi := rfl) (kk := ?_) | refine rialda (hi := rfl) (kk := ?_))
  (first | refine rcvs rfl rfl rfl rfl rfl (by first | assumption | (simp (disch := omega) only [am_set_ne, am_set_eq]; first | assumption | rfl)) rfl (c_allStations h4) ?_ | refine rcvn rfl rfl rfl rfl rfl (by first | assumption | (simp (disch := omega) only [am_set_ne, am_set_eq]; first | assumption | rfl)) rfl (c_allStations h4) ?_)
  repeat (first | refine rs [] rfl rfl rfl rfl ?_ | refine rk rfl rfl ?_ | refine rgoh [] rfl rfl ?_ | refine rgeta (hi := rfl) (kk := ?_) | refine rialda (hi := rfl) (kk := ?_))
  (first | refine rcvs rfl rfl rfl rfl rfl (by first | assumption | (simp (disch := omega) only [am_set_ne, am_set_eq]; first | assumption | rfl)) rfl (c_awaited H) ?_ | refine rcvn rfl rfl rfl rfl rfl (by first | assumption | (simp (disch := omega) only [am_set_ne, am_set_eq]; first | assumption | rfl)) rfl (c_awaited H) ?_)
  repeat (first | refine rs [] rfl rfl rfl rfl ?_ | refine rk rfl rfl ?_ | refine rgoh [] rfl rfl ?_ | refine rgeta (hi := rfl) (kk := ?_) | refine rialda (hi := rfl) (kk := ?_))
  refine rret rfl rfl ?_
  exact ⟨rfl, rfl⟩
theorem c_hasArrived {p : Int32} {k : Nat} (hp : p = nI k) (hk : k < 8) (H : scW a w mi l lw lm mt N P G fe fl fog tr sp mif wa me h f) : am_E M_Scene_hasArrived [.ref a, .ref l, .int p] h (some (.int (if f k = wa k then 1 else 0))) h := by
  obtain ⟨h1, h2, h3, h4, h5, h6, -, h7, h8⟩ := id H
  (try unfold am_E); unfold am_T
  repeat (first | refine rs [] rfl rfl rfl rfl ?_ | refine rk rfl rfl ?_ | refine rgoh [] rfl rfl ?_ | refine rgeta (hi := rfl) (kk := ?_) | refine rialda (hi := rfl) (kk := ?_))
  (first | refine rif rfl rfl (fun c1 => ?_) (fun c1 => ?_) | refine ric rfl rfl (fun c1 => ?_) (fun c1 => ?_))
  · repeat (first | refine rs [] rfl rfl rfl rfl ?_ | refine rk rfl rfl ?_ | refine rgoh [] rfl rfl ?_ | refine rgeta (hi := rfl) (kk := ?_) | refine rialda (hi := rfl) (kk := ?_))
    refine rret rfl rfl ?_
    exact ⟨by rw [if_pos c1], rfl⟩
  · repeat (first | refine rs [] rfl rfl rfl rfl ?_ | refine rk rfl rfl ?_ | refine rgoh [] rfl rfl ?_ | refine rgeta (hi := rfl) (kk := ?_) | refine rialda (hi := rfl) (kk := ?_))
    refine rret rfl rfl ?_
    exact ⟨by rw [if_neg c1], rfl⟩
def arv (f wa : Nat → Int32) (P : Nat) : Int32 := fo (fun p s => if f p = wa p then s ||| sh1 (nI p) else s) P 0
theorem c_arrived (H : scW a w mi l lw lm mt N P G fe fl fog tr sp mif wa me h f) : am_E M_Scene_arrived [.ref a, .ref l] h (some (.int (arv f wa P))) h := by
  obtain ⟨h1, h2, h3, h4, h5, h6, -, h7, h8⟩ := id H
  (try unfold am_E); unfold am_T
  repeat (first | refine rs [4] rfl rfl rfl rfl ?_ | refine rk rfl rfl ?_ | refine rgoh [4] rfl rfl ?_ | refine rgeta (hi := rfl) (kk := ?_) | refine rialda (hi := rfl) (kk := ?_))
  refine lup (P := fun i => ∀ x, x = nI i → am_R M_Scene_arrived (4, [.ref a, .ref l, .int (fo (fun p s => if f p = wa p then s ||| sh1 (nI p) else s) i 0), .int x], []) h _) P ?_ ?_ 0 nI_0.symm
  · rintro x rfl
    repeat (first | refine rs [] rfl rfl rfl rfl ?_ | refine rk rfl rfl ?_ | refine rgoh [] rfl rfl ?_ | refine rgeta (hi := rfl) (kk := ?_) | refine rialda (hi := rfl) (kk := ?_))
    (first | refine rif rfl rfl (fun c1 => ?_) (fun c1 => ?_) | refine ric rfl rfl (fun c1 => ?_) (fun c1 => ?_))
    · repeat (first | refine rs [] rfl rfl rfl rfl ?_ | refine rk rfl rfl ?_ | refine rgoh [] rfl rfl ?_ | refine rgeta (hi := rfl) (kk := ?_) | refine rialda (hi := rfl) (kk := ?_))
      refine rret rfl rfl ?_
      exact ⟨rfl, rfl⟩
    · exact absurd (Int32.le_refl _) c1
  · rintro i hi ih x rfl
    repeat (first | refine rs [] rfl rfl rfl rfl ?_ | refine rk rfl rfl ?_ | refine rgoh [] rfl rfl ?_ | refine rgeta (hi := rfl) (kk := ?_) | refine rialda (hi := rfl) (kk := ?_))
    (first | refine rif rfl rfl (fun c1 => ?_) (fun c1 => ?_) | refine ric rfl rfl (fun c1 => ?_) (fun c1 => ?_))
    · exact absurd hi ((nI_lt_iff (by omega) (by omega)).mp c1)
    · repeat (first | refine rs [] rfl rfl rfl rfl ?_ | refine rk rfl rfl ?_ | refine rgoh [] rfl rfl ?_ | refine rgeta (hi := rfl) (kk := ?_) | refine rialda (hi := rfl) (kk := ?_))
      (first | refine rcvs rfl rfl rfl rfl rfl (by first | assumption | (simp (disch := omega) only [am_set_ne, am_set_eq]; first | assumption | rfl)) rfl (c_hasArrived rfl (by omega) H) ?_ | refine rcvn rfl rfl rfl rfl rfl (by first | assumption | (simp (disch := omega) only [am_set_ne, am_set_eq]; first | assumption | rfl)) rfl (c_hasArrived rfl (by omega) H) ?_)
      have := ih _ (nI_succ i).symm
      rw [fo_succ] at this
      by_cases c2 : f i = wa i
      · rw [if_pos c2] at this ⊢
        (first | refine rift rfl rfl ?_ | refine riff rfl rfl ?_ | refine rict rfl rfl ?_ | refine ricf rfl rfl ?_)
        repeat (first | refine rs [4] rfl rfl rfl rfl ?_ | refine rk rfl rfl ?_ | refine rgoh [4] rfl rfl ?_ | refine rgeta (hi := rfl) (kk := ?_) | refine rialda (hi := rfl) (kk := ?_))
        exact this
      · rw [if_neg c2] at this ⊢
        (first | refine rift rfl rfl ?_ | refine riff rfl rfl ?_ | refine rict rfl rfl ?_ | refine ricf rfl rfl ?_)
        repeat (first | refine rs [4] rfl rfl rfl rfl ?_ | refine rk rfl rfl ?_ | refine rgoh [4] rfl rfl ?_ | refine rgeta (hi := rfl) (kk := ?_) | refine rialda (hi := rfl) (kk := ?_))
        exact this
def sta (f : Nat → Int32) (x : Int32) (P : Nat) : Int32 := fo (fun p s => if f p = x then s ||| sh1 (nI p) else s) P 0
theorem c_standing {x0 : Int32} (H : scW a w mi l lw lm mt N P G fe fl fog tr sp mif wa me h f) : am_E M_Scene_standing [.ref a, .ref l, .int x0] h (some (.int (sta f x0 P))) h := by
  obtain ⟨h1, h2, h3, h4, h5, h6, -, h7, h8⟩ := id H
  (try unfold am_E); unfold am_T
  repeat (first | refine rs [4] rfl rfl rfl rfl ?_ | refine rk rfl rfl ?_ | refine rgoh [4] rfl rfl ?_ | refine rgeta (hi := rfl) (kk := ?_) | refine rialda (hi := rfl) (kk := ?_))
  refine lup (P := fun i => ∀ x, x = nI i → am_R M_Scene_standing (4, [.ref a, .ref l, .int x0, .int (fo (fun p s => if f p = x0 then s ||| sh1 (nI p) else s) i 0), .int x], []) h _) P ?_ ?_ 0 nI_0.symm
  · rintro x rfl
    repeat (first | refine rs [] rfl rfl rfl rfl ?_ | refine rk rfl rfl ?_ | refine rgoh [] rfl rfl ?_ | refine rgeta (hi := rfl) (kk := ?_) | refine rialda (hi := rfl) (kk := ?_))
    (first | refine rif rfl rfl (fun c1 => ?_) (fun c1 => ?_) | refine ric rfl rfl (fun c1 => ?_) (fun c1 => ?_))
    · repeat (first | refine rs [] rfl rfl rfl rfl ?_ | refine rk rfl rfl ?_ | refine rgoh [] rfl rfl ?_ | refine rgeta (hi := rfl) (kk := ?_) | refine rialda (hi := rfl) (kk := ?_))
      refine rret rfl rfl ?_
      exact ⟨rfl, rfl⟩
    · exact absurd (Int32.le_refl _) c1
  · rintro i hi ih x rfl
    repeat (first | refine rs [] rfl rfl rfl rfl ?_ | refine rk rfl rfl ?_ | refine rgoh [] rfl rfl ?_ | refine rgeta (hi := rfl) (kk := ?_) | refine rialda (hi := rfl) (kk := ?_))
    (first | refine rif rfl rfl (fun c1 => ?_) (fun c1 => ?_) | refine ric rfl rfl (fun c1 => ?_) (fun c1 => ?_))
    · exact absurd hi ((nI_lt_iff (by omega) (by omega)).mp c1)
    · repeat (first | refine rs [] rfl rfl rfl rfl ?_ | refine rk rfl rfl ?_ | refine rgoh [] rfl rfl ?_ | refine rgeta (hi := rfl) (kk := ?_) | refine rialda (hi := rfl) (kk := ?_))
      have := ih _ (nI_succ i).symm
      rw [fo_succ] at this
      (first | refine rif rfl rfl (fun c2 => ?_) (fun c2 => ?_) | refine ric rfl rfl (fun c2 => ?_) (fun c2 => ?_))
      · repeat (first | refine rs [4] rfl rfl rfl rfl ?_ | refine rk rfl rfl ?_ | refine rgoh [4] rfl rfl ?_ | refine rgeta (hi := rfl) (kk := ?_) | refine rialda (hi := rfl) (kk := ?_))
        rw [if_pos c2] at this
        exact this
      · repeat (first | refine rs [4] rfl rfl rfl rfl ?_ | refine rk rfl rfl ?_ | refine rgoh [4] rfl rfl ?_ | refine rgeta (hi := rfl) (kk := ?_) | refine rialda (hi := rfl) (kk := ?_))
        rw [if_neg c2] at this
        exact this
def mxI (x y : Int32) : Int32 := if x < y then y else x
def mos (f : Nat → Int32) (x : Int32) (mif : Nat → Int32) (fe fl : Int32) (P : Nat) : Int32 := fo (fun p s => if f p = x then mxI s (shw 0 mif fe fl p) else s) P 0
theorem c_mostShown {x0 : Int32} (H : scW a w mi l lw lm mt N P G fe fl fog tr sp mif wa me h f) : am_E M_Scene_mostShown [.ref a, .ref l, .int x0] h (some (.int (mos f x0 mif fe fl P))) h := by
  obtain ⟨h1, h2, h3, h4, h5, h6, -, h7, h8⟩ := id H
  (try unfold am_E); unfold am_T
  repeat (first | refine rs [4] rfl rfl rfl rfl ?_ | refine rk rfl rfl ?_ | refine rgoh [4] rfl rfl ?_ | refine rgeta (hi := rfl) (kk := ?_) | refine rialda (hi := rfl) (kk := ?_))
  refine lup (P := fun i => ∀ x, x = nI i → am_R M_Scene_mostShown (4, [.ref a, .ref l, .int x0, .int (fo (fun p s => if f p = x0 then mxI s (shw 0 mif fe fl p) else s) i 0), .int x], []) h _) P ?_ ?_ 0 nI_0.symm
  · rintro x rfl
    repeat (first | refine rs [] rfl rfl rfl rfl ?_ | refine rk rfl rfl ?_ | refine rgoh [] rfl rfl ?_ | refine rgeta (hi := rfl) (kk := ?_) | refine rialda (hi := rfl) (kk := ?_))
    (first | refine rif rfl rfl (fun c1 => ?_) (fun c1 => ?_) | refine ric rfl rfl (fun c1 => ?_) (fun c1 => ?_))
    · repeat (first | refine rs [] rfl rfl rfl rfl ?_ | refine rk rfl rfl ?_ | refine rgoh [] rfl rfl ?_ | refine rgeta (hi := rfl) (kk := ?_) | refine rialda (hi := rfl) (kk := ?_))
      refine rret rfl rfl ?_
      exact ⟨rfl, rfl⟩
    · exact absurd (Int32.le_refl _) c1
  · rintro i hi ih x rfl
    repeat (first | refine rs [] rfl rfl rfl rfl ?_ | refine rk rfl rfl ?_ | refine rgoh [] rfl rfl ?_ | refine rgeta (hi := rfl) (kk := ?_) | refine rialda (hi := rfl) (kk := ?_))
    (first | refine rif rfl rfl (fun c1 => ?_) (fun c1 => ?_) | refine ric rfl rfl (fun c1 => ?_) (fun c1 => ?_))
    · exact absurd hi ((nI_lt_iff (by omega) (by omega)).mp c1)
    · repeat (first | refine rs [] rfl rfl rfl rfl ?_ | refine rk rfl rfl ?_ | refine rgoh [] rfl rfl ?_ | refine rgeta (hi := rfl) (kk := ?_) | refine rialda (hi := rfl) (kk := ?_))
      have := ih _ (nI_succ i).symm
      rw [fo_succ] at this
      (first | refine rif rfl rfl (fun c2 => ?_) (fun c2 => ?_) | refine ric rfl rfl (fun c2 => ?_) (fun c2 => ?_))
      · repeat (first | refine rs [4] rfl rfl rfl rfl ?_ | refine rk rfl rfl ?_ | refine rgoh [4] rfl rfl ?_ | refine rgeta (hi := rfl) (kk := ?_) | refine rialda (hi := rfl) (kk := ?_))
        (first | refine rcvs rfl rfl rfl rfl rfl (by first | assumption | (simp (disch := omega) only [am_set_ne, am_set_eq]; first | assumption | rfl)) rfl (c_shows rfl (by omega) h1 h3) ?_ | refine rcvn rfl rfl rfl rfl rfl (by first | assumption | (simp (disch := omega) only [am_set_ne, am_set_eq]; first | assumption | rfl)) rfl (c_shows rfl (by omega) h1 h3) ?_)
        repeat (first | refine rs [4] rfl rfl rfl rfl ?_ | refine rk rfl rfl ?_ | refine rgoh [4] rfl rfl ?_ | refine rgeta (hi := rfl) (kk := ?_) | refine rialda (hi := rfl) (kk := ?_))
        rw [if_pos c2] at this
        exact this
      · repeat (first | refine rs [4] rfl rfl rfl rfl ?_ | refine rk rfl rfl ?_ | refine rgoh [4] rfl rfl ?_ | refine rgeta (hi := rfl) (kk := ?_) | refine rialda (hi := rfl) (kk := ?_))
        rw [if_neg c2] at this
        exact this
theorem c_letOut {x0 : Int32} (H : scW a w mi l lw lm mt N P G fe fl fog tr sp mif wa me h f) : am_E M_Scene_letOut [.ref a, .ref l, .ref mt, .int x0] h none (am_set h w (iar (fo (loF P wa me x0) P f))) := by
  (try unfold am_E); unfold am_T
  repeat (first | refine rs [2] rfl rfl rfl rfl ?_ | refine rk rfl rfl ?_ | refine rgoh [2] rfl rfl ?_ | refine rgeta (hi := rfl) (kk := ?_) | refine rialda (hi := rfl) (kk := ?_))
  rw [← am_set_self H.2.1]
  refine lup (P := fun i => ∀ x, x = nI i → ∀ v5 v6, am_R M_Scene_letOut (2, [.ref a, .ref l, .ref mt, .int x0, .int x, v5, v6], []) (am_set h w (iar (fo (loF P wa me x0) i f))) _) P ?_ ?_ 0 nI_0.symm _ _
  · rintro x rfl v5 v6
    obtain ⟨h1, h2, h3, h4, h5, h6, -, h7, h8⟩ := scW_set (g := fo (loF P wa me x0) P f) H
    repeat (first | refine rs [] rfl rfl rfl rfl ?_ | refine rk rfl rfl ?_ | refine rgoh [] rfl rfl ?_ | refine rgeta (hi := rfl) (kk := ?_) | refine rialda (hi := rfl) (kk := ?_))
    (first | refine rif rfl rfl (fun c1 => ?_) (fun c1 => ?_) | refine ric rfl rfl (fun c1 => ?_) (fun c1 => ?_))
    · repeat (first | refine rs [] rfl rfl rfl rfl ?_ | refine rk rfl rfl ?_ | refine rgoh [] rfl rfl ?_ | refine rgeta (hi := rfl) (kk := ?_) | refine rialda (hi := rfl) (kk := ?_))
      refine rret rfl rfl ?_
      exact ⟨rfl, by rw [am_set_self H.2.1]⟩
    · exact absurd (Int32.le_refl _) c1
  · rintro i hi ih x rfl v5 v6
    obtain ⟨h1, h2, h3, h4, h5, h6, ⟨-, -, -, -, -, hw0⟩, h7, h8⟩ := scW_set (g := fo (loF P wa me x0) i f) H
    have ih := ih _ (nI_succ i).symm
    rw [fo_succ] at ih
    generalize hg : fo (loF P wa me x0) i f = g at *
    repeat (first | refine rs [] rfl rfl rfl rfl ?_ | refine rk rfl rfl ?_ | refine rgoh [] rfl rfl ?_ | refine rgeta (hi := rfl) (kk := ?_) | refine rialda (hi := rfl) (kk := ?_))
    (first | refine rif rfl rfl (fun c1 => ?_) (fun c1 => ?_) | refine ric rfl rfl (fun c1 => ?_) (fun c1 => ?_))
    · exact absurd hi ((nI_lt_iff (by omega) (by omega)).mp c1)
    · repeat (first | refine rs [] rfl rfl rfl rfl ?_ | refine rk rfl rfl ?_ | refine rgoh [] rfl rfl ?_ | refine rgeta (hi := rfl) (kk := ?_) | refine rialda (hi := rfl) (kk := ?_))
      (first | refine rif rfl rfl (fun c2 => ?_) (fun c2 => ?_) | refine ric rfl rfl (fun c2 => ?_) (fun c2 => ?_))
      · repeat (first | refine rs [] rfl rfl rfl rfl ?_ | refine rk rfl rfl ?_ | refine rgoh [] rfl rfl ?_ | refine rgeta (hi := rfl) (kk := ?_) | refine rialda (hi := rfl) (kk := ?_))
        (first | refine rif rfl rfl (fun c3 => ?_) (fun c3 => ?_) | refine ric rfl rfl (fun c3 => ?_) (fun c3 => ?_))
        · repeat (first | refine rs [] rfl rfl rfl rfl ?_ | refine rk rfl rfl ?_ | refine rgoh [] rfl rfl ?_ | refine rgeta (hi := rfl) (kk := ?_) | refine rialda (hi := rfl) (kk := ?_))
          (first | refine rcvs rfl rfl rfl rfl rfl (by first | assumption | (simp (disch := omega) only [am_set_ne, am_set_eq]; first | assumption | rfl)) rfl (c_hasPerson h8 h4) ?_ | refine rcvn rfl rfl rfl rfl rfl (by first | assumption | (simp (disch := omega) only [am_set_ne, am_set_eq]; first | assumption | rfl)) rfl (c_hasPerson h8 h4) ?_)
          by_cases c4 : inR (me i) P
          · rw [if_pos c4]
            obtain ⟨k, hk, hme⟩ := inR_of c4 (by omega)
            (first | refine rift rfl rfl ?_ | refine riff rfl rfl ?_ | refine rict rfl rfl ?_ | refine ricf rfl rfl ?_)
            repeat (first | refine rs [] rfl rfl rfl rfl ?_ | refine rk rfl rfl ?_ | refine rgoh [] rfl rfl ?_ | refine rgeta (hi := rfl) (kk := ?_) | refine rialda (hi := rfl) (kk := ?_))
            (first | refine rif rfl rfl (fun c6 => ?_) (fun c6 => ?_) | refine ric rfl rfl (fun c6 => ?_) (fun c6 => ?_))
            · repeat (first | refine rs [] rfl rfl rfl rfl ?_ | refine rk rfl rfl ?_ | refine rgoh [] rfl rfl ?_ | refine rgeta (hi := rfl) (kk := ?_) | refine rialda (hi := rfl) (kk := ?_))
              (first | refine rift rfl rfl ?_ | refine riff rfl rfl ?_ | refine rict rfl rfl ?_ | refine ricf rfl rfl ?_)
              repeat (first | refine rs [2] rfl rfl rfl rfl ?_ | refine rk rfl rfl ?_ | refine rgoh [2] rfl rfl ?_ | refine rgeta (hi := rfl) (kk := ?_) | refine rialda (hi := rfl) (kk := ?_))
              have e1 : loF P wa me x0 i g = g := by
                unfold loF
                rw [if_neg]
                rintro ⟨q1, q2, q3⟩
                apply q3
                refine ⟨c4, ?_⟩
                rw [hme, nI_clamp (by omega)]
                exact c6
              rw [e1] at ih
              exact ih _ _
            · repeat (first | refine rs [] rfl rfl rfl rfl ?_ | refine rk rfl rfl ?_ | refine rgoh [] rfl rfl ?_ | refine rgeta (hi := rfl) (kk := ?_) | refine rialda (hi := rfl) (kk := ?_))
              (first | refine rift rfl rfl ?_ | refine riff rfl rfl ?_ | refine rict rfl rfl ?_ | refine ricf rfl rfl ?_)
              repeat (first | refine rs [] rfl rfl rfl rfl ?_ | refine rk rfl rfl ?_ | refine rgoh [] rfl rfl ?_ | refine rgeta (hi := rfl) (kk := ?_) | refine rialda (hi := rfl) (kk := ?_))
              refine riasta (hi := rfl) (kk := ?_)
              repeat (first | refine rs [2] rfl rfl rfl rfl ?_ | refine rk rfl rfl ?_ | refine rgoh [2] rfl rfl ?_ | refine rgeta (hi := rfl) (kk := ?_) | refine rialda (hi := rfl) (kk := ?_))
              have e1 : loF P wa me x0 i g = upd g i x0 := by
                unfold loF
                rw [if_pos]
                refine ⟨c2, c3, ?_⟩
                rintro ⟨q1, q2⟩
                apply c6
                rw [hme, nI_clamp (by omega)] at q2
                exact q2
              rw [e1] at ih
              rw [am_set_set]
              exact ih _ _
          · rw [if_neg c4]
            (first | refine rift rfl rfl ?_ | refine riff rfl rfl ?_ | refine rict rfl rfl ?_ | refine ricf rfl rfl ?_)
            repeat (first | refine rs [] rfl rfl rfl rfl ?_ | refine rk rfl rfl ?_ | refine rgoh [] rfl rfl ?_ | refine rgeta (hi := rfl) (kk := ?_) | refine rialda (hi := rfl) (kk := ?_))
            (first | refine rift rfl rfl ?_ | refine riff rfl rfl ?_ | refine rict rfl rfl ?_ | refine ricf rfl rfl ?_)
            repeat (first | refine rs [] rfl rfl rfl rfl ?_ | refine rk rfl rfl ?_ | refine rgoh [] rfl rfl ?_ | refine rgeta (hi := rfl) (kk := ?_) | refine rialda (hi := rfl) (kk := ?_))
            refine riasta (hi := rfl) (kk := ?_)
            repeat (first | refine rs [2] rfl rfl rfl rfl ?_ | refine rk rfl rfl ?_ | refine rgoh [2] rfl rfl ?_ | refine rgeta (hi := rfl) (kk := ?_) | refine rialda (hi := rfl) (kk := ?_))
            have e1 : loF P wa me x0 i g = upd g i x0 := by
              unfold loF
              rw [if_pos]
              exact ⟨c2, c3, fun q => c4 q.1⟩
            rw [e1] at ih
            rw [am_set_set]
            exact ih _ _
        · repeat (first | refine rs [2] rfl rfl rfl rfl ?_ | refine rk rfl rfl ?_ | refine rgoh [2] rfl rfl ?_ | refine rgeta (hi := rfl) (kk := ?_) | refine rialda (hi := rfl) (kk := ?_))
          have e1 : loF P wa me x0 i g = g := by
            unfold loF
            rw [if_neg]
            exact fun q => c3 q.2.1
          rw [e1] at ih
          exact ih _ _
      · repeat (first | refine rs [2] rfl rfl rfl rfl ?_ | refine rk rfl rfl ?_ | refine rgoh [2] rfl rfl ?_ | refine rgeta (hi := rfl) (kk := ?_) | refine rialda (hi := rfl) (kk := ?_))
        have e1 : loF P wa me x0 i g = g := by
          unfold loF
          rw [if_neg]
          exact fun q => c2 q.1
        rw [e1] at ih
        exact ih _ _
theorem c_takeIn {x0 : Int32} (H : scW a w mi l lw lm mt N P G fe fl fog tr sp mif wa me h f) : am_E M_Scene_takeIn [.ref a, .ref l, .int x0] h none (am_set h w (iar (fo (tiF wa x0) P f))) := by
  (try unfold am_E); unfold am_T
  repeat (first | refine rs [2] rfl rfl rfl rfl ?_ | refine rk rfl rfl ?_ | refine rgoh [2] rfl rfl ?_ | refine rgeta (hi := rfl) (kk := ?_) | refine rialda (hi := rfl) (kk := ?_))
  rw [← am_set_self H.2.1]
  refine lup (P := fun i => ∀ x, x = nI i → am_R M_Scene_takeIn (2, [.ref a, .ref l, .int x0, .int x], []) (am_set h w (iar (fo (tiF wa x0) i f))) _) P ?_ ?_ 0 nI_0.symm
  · rintro x rfl
    obtain ⟨h1, h2, h3, h4, h5, h6, -, h7, h8⟩ := scW_set (g := fo (tiF wa x0) P f) H
    repeat (first | refine rs [] rfl rfl rfl rfl ?_ | refine rk rfl rfl ?_ | refine rgoh [] rfl rfl ?_ | refine rgeta (hi := rfl) (kk := ?_) | refine rialda (hi := rfl) (kk := ?_))
    (first | refine rif rfl rfl (fun c1 => ?_) (fun c1 => ?_) | refine ric rfl rfl (fun c1 => ?_) (fun c1 => ?_))
    · repeat (first | refine rs [] rfl rfl rfl rfl ?_ | refine rk rfl rfl ?_ | refine rgoh [] rfl rfl ?_ | refine rgeta (hi := rfl) (kk := ?_) | refine rialda (hi := rfl) (kk := ?_))
      refine rret rfl rfl ?_
      exact ⟨rfl, by rw [am_set_self H.2.1]⟩
    · exact absurd (Int32.le_refl _) c1
  · rintro i hi ih x rfl
    obtain ⟨h1, h2, h3, h4, h5, h6, ⟨-, -, -, -, -, hw0⟩, h7, h8⟩ := scW_set (g := fo (tiF wa x0) i f) H
    have ih := ih _ (nI_succ i).symm
    rw [fo_succ] at ih
    generalize hg : fo (tiF wa x0) i f = g at *
    repeat (first | refine rs [] rfl rfl rfl rfl ?_ | refine rk rfl rfl ?_ | refine rgoh [] rfl rfl ?_ | refine rgeta (hi := rfl) (kk := ?_) | refine rialda (hi := rfl) (kk := ?_))
    (first | refine rif rfl rfl (fun c1 => ?_) (fun c1 => ?_) | refine ric rfl rfl (fun c1 => ?_) (fun c1 => ?_))
    · exact absurd hi ((nI_lt_iff (by omega) (by omega)).mp c1)
    · repeat (first | refine rs [] rfl rfl rfl rfl ?_ | refine rk rfl rfl ?_ | refine rgoh [] rfl rfl ?_ | refine rgeta (hi := rfl) (kk := ?_) | refine rialda (hi := rfl) (kk := ?_))
      (first | refine rif rfl rfl (fun c2 => ?_) (fun c2 => ?_) | refine ric rfl rfl (fun c2 => ?_) (fun c2 => ?_))
      · repeat (first | refine rs [] rfl rfl rfl rfl ?_ | refine rk rfl rfl ?_ | refine rgoh [] rfl rfl ?_ | refine rgeta (hi := rfl) (kk := ?_) | refine rialda (hi := rfl) (kk := ?_))
        (first | refine rif rfl rfl (fun c3 => ?_) (fun c3 => ?_) | refine ric rfl rfl (fun c3 => ?_) (fun c3 => ?_))
        · repeat (first | refine rs [2] rfl rfl rfl rfl ?_ | refine rk rfl rfl ?_ | refine rgoh [2] rfl rfl ?_ | refine rgeta (hi := rfl) (kk := ?_) | refine rialda (hi := rfl) (kk := ?_))
          have e1 : tiF wa x0 i g = g := by
            unfold tiF
            rw [if_neg]
            exact fun q => Int32.not_lt.mpr c3 q.2
          rw [e1] at ih
          exact ih
        · repeat (first | refine rs [] rfl rfl rfl rfl ?_ | refine rk rfl rfl ?_ | refine rgoh [] rfl rfl ?_ | refine rgeta (hi := rfl) (kk := ?_) | refine rialda (hi := rfl) (kk := ?_))
          refine riasta (hi := rfl) (kk := ?_)
          repeat (first | refine rs [2] rfl rfl rfl rfl ?_ | refine rk rfl rfl ?_ | refine rgoh [2] rfl rfl ?_ | refine rgeta (hi := rfl) (kk := ?_) | refine rialda (hi := rfl) (kk := ?_))
          have e1 : tiF wa x0 i g = upd g i (-1) := by
            unfold tiF
            rw [if_pos]
            exact ⟨c2, Int32.not_le.mp c3⟩
          rw [e1] at ih
          rw [am_set_set]
          exact ih
      · repeat (first | refine rs [2] rfl rfl rfl rfl ?_ | refine rk rfl rfl ?_ | refine rgoh [2] rfl rfl ?_ | refine rgeta (hi := rfl) (kk := ?_) | refine rialda (hi := rfl) (kk := ?_))
        have e1 : tiF wa x0 i g = g := by
          unfold tiF
          rw [if_neg]
          exact fun q => c2 q.1
        rw [e1] at ih
        exact ih
theorem c_emptyAtLast (H : scW a w mi l lw lm mt N P G fe fl fog tr sp mif wa me h f) : am_E M_Scene_emptyAtLast [.ref a, .ref l] h none (am_set h w (iar (fo (emF N) P f))) := by
  (try unfold am_E); unfold am_T
  repeat (first | refine rs [2] rfl rfl rfl rfl ?_ | refine rk rfl rfl ?_ | refine rgoh [2] rfl rfl ?_ | refine rgeta (hi := rfl) (kk := ?_) | refine rialda (hi := rfl) (kk := ?_))
  rw [← am_set_self H.2.1]
  refine lup (P := fun i => ∀ x, x = nI i → am_R M_Scene_emptyAtLast (2, [.ref a, .ref l, .int x], []) (am_set h w (iar (fo (emF N) i f))) _) P ?_ ?_ 0 nI_0.symm
  · rintro x rfl
    obtain ⟨h1, h2, h3, h4, h5, h6, -, h7, h8⟩ := scW_set (g := fo (emF N) P f) H
    repeat (first | refine rs [] rfl rfl rfl rfl ?_ | refine rk rfl rfl ?_ | refine rgoh [] rfl rfl ?_ | refine rgeta (hi := rfl) (kk := ?_) | refine rialda (hi := rfl) (kk := ?_))
    (first | refine rif rfl rfl (fun c1 => ?_) (fun c1 => ?_) | refine ric rfl rfl (fun c1 => ?_) (fun c1 => ?_))
    · repeat (first | refine rs [] rfl rfl rfl rfl ?_ | refine rk rfl rfl ?_ | refine rgoh [] rfl rfl ?_ | refine rgeta (hi := rfl) (kk := ?_) | refine rialda (hi := rfl) (kk := ?_))
      refine rret rfl rfl ?_
      exact ⟨rfl, by rw [am_set_self H.2.1]⟩
    · exact absurd (Int32.le_refl _) c1
  · rintro i hi ih x rfl
    obtain ⟨h1, h2, h3, h4, h5, h6, ⟨-, -, -, -, -, hw0⟩, h7, h8⟩ := scW_set (g := fo (emF N) i f) H
    have ih := ih _ (nI_succ i).symm
    rw [fo_succ] at ih
    generalize hg : fo (emF N) i f = g at *
    repeat (first | refine rs [] rfl rfl rfl rfl ?_ | refine rk rfl rfl ?_ | refine rgoh [] rfl rfl ?_ | refine rgeta (hi := rfl) (kk := ?_) | refine rialda (hi := rfl) (kk := ?_))
    (first | refine rif rfl rfl (fun c1 => ?_) (fun c1 => ?_) | refine ric rfl rfl (fun c1 => ?_) (fun c1 => ?_))
    · exact absurd hi ((nI_lt_iff (by omega) (by omega)).mp c1)
    · repeat (first | refine rs [] rfl rfl rfl rfl ?_ | refine rk rfl rfl ?_ | refine rgoh [] rfl rfl ?_ | refine rgeta (hi := rfl) (kk := ?_) | refine rialda (hi := rfl) (kk := ?_))
      (first | refine rif rfl rfl (fun c2 => ?_) (fun c2 => ?_) | refine ric rfl rfl (fun c2 => ?_) (fun c2 => ?_))
      · repeat (first | refine rs [] rfl rfl rfl rfl ?_ | refine rk rfl rfl ?_ | refine rgoh [] rfl rfl ?_ | refine rgeta (hi := rfl) (kk := ?_) | refine rialda (hi := rfl) (kk := ?_))
        refine riasta (hi := rfl) (kk := ?_)
        repeat (first | refine rs [2] rfl rfl rfl rfl ?_ | refine rk rfl rfl ?_ | refine rgoh [2] rfl rfl ?_ | refine rgeta (hi := rfl) (kk := ?_) | refine rialda (hi := rfl) (kk := ?_))
        have e1 : emF N i g = upd g i (nI N - 1) := by
          unfold emF
          rw [if_pos c2]
        rw [e1] at ih
        rw [am_set_set]
        exact ih
      · repeat (first | refine rs [2] rfl rfl rfl rfl ?_ | refine rk rfl rfl ?_ | refine rgoh [2] rfl rfl ?_ | refine rgeta (hi := rfl) (kk := ?_) | refine rialda (hi := rfl) (kk := ?_))
        have e1 : emF N i g = g := by
          unfold emF
          rw [if_neg c2]
        rw [e1] at ih
        exact ih
theorem c_runTrain {shut : Int32} (H : scW a w mi l lw lm mt N P G fe fl fog tr sp mif wa me h f) : am_E M_Scene_runTrain [.ref a, .ref l, .ref mt, .int shut] h none (am_set (am_set h w (iar (rtF N P wa me (stn 0 G fog fe fl mif f N P &&& (shut ^^^ (-1))) f))) a (.inr (6, [.ref w, .ref mi, .int fe, .int fl, .int fog, .int (tr + 1), .int (stn 0 G fog fe fl mif f N P &&& (shut ^^^ (-1)))]))) := by
  obtain ⟨h1, h2, h3, h4, h5, h6, -, h7, h8⟩ := id H
  (try unfold am_E); unfold am_T
  repeat (first | refine rs [11] rfl rfl rfl rfl ?_ | refine rk rfl rfl ?_ | refine rgoh [11] rfl rfl ?_ | refine rgeta (hi := rfl) (kk := ?_) | refine rialda (hi := rfl) (kk := ?_))
  (first | refine rcvs rfl rfl rfl rfl rfl (by first | assumption | (simp (disch := omega) only [am_set_ne, am_set_eq]; first | assumption | rfl)) rfl (c_stopsOfNext H) ?_ | refine rcvn rfl rfl rfl rfl rfl (by first | assumption | (simp (disch := omega) only [am_set_ne, am_set_eq]; first | assumption | rfl)) rfl (c_stopsOfNext H) ?_)
  repeat (first | refine rs [11] rfl rfl rfl rfl ?_ | refine rk rfl rfl ?_ | refine rgoh [11] rfl rfl ?_ | refine rgeta (hi := rfl) (kk := ?_) | refine rialda (hi := rfl) (kk := ?_))
  generalize stn 0 G fog fe fl mif f N P &&& (shut ^^^ (-1)) = halts
  rw [← am_set_self H.2.1]
  refine lup (P := fun i => ∀ x, x = nI i → am_R M_Scene_runTrain (11, [.ref a, .ref l, .ref mt, .int shut, .int halts, .int x], []) (am_set h w (iar (fo (stF P wa me halts) i f))) _) N ?_ ?_ 0 nI_0.symm
  · rintro x rfl
    have H2 := scW_set (g := fo (stF P wa me halts) N f) H
    obtain ⟨h1, h2, h3, h4, h5, h6, ⟨hwa, -⟩, h7, h8⟩ := id H2
    repeat (first | refine rs [] rfl rfl rfl rfl ?_ | refine rk rfl rfl ?_ | refine rgoh [] rfl rfl ?_ | refine rgeta (hi := rfl) (kk := ?_) | refine rialda (hi := rfl) (kk := ?_))
    (first | refine rif rfl rfl (fun c1 => ?_) (fun c1 => ?_) | refine ric rfl rfl (fun c1 => ?_) (fun c1 => ?_))
    · repeat (first | refine rs [] rfl rfl rfl rfl ?_ | refine rk rfl rfl ?_ | refine rgoh [] rfl rfl ?_ | refine rgeta (hi := rfl) (kk := ?_) | refine rialda (hi := rfl) (kk := ?_))
      (first | refine rcvs rfl rfl rfl rfl rfl (by first | assumption | (simp (disch := omega) only [am_set_ne, am_set_eq]; first | assumption | rfl)) rfl (c_emptyAtLast H2) ?_ | refine rcvn rfl rfl rfl rfl rfl (by first | assumption | (simp (disch := omega) only [am_set_ne, am_set_eq]; first | assumption | rfl)) rfl (c_emptyAtLast H2) ?_)
      rw [am_set_set]
      have H3 := scW_set (g := fo (emF N) P (fo (stF P wa me halts) N f)) H
      obtain ⟨h1, h2, h3, h4, h5, h6, -, h7, h8⟩ := id H3
      repeat (first | refine rs [] rfl rfl rfl rfl ?_ | refine rk rfl rfl ?_ | refine rgoh [] rfl rfl ?_ | refine rgeta (hi := rfl) (kk := ?_) | refine rialda (hi := rfl) (kk := ?_))
      refine rputa (hi := rfl) (kk := ?_)
      repeat (first | refine rs [] rfl rfl rfl rfl ?_ | refine rk rfl rfl ?_ | refine rgoh [] rfl rfl ?_ | refine rgeta (hi := rfl) (kk := ?_) | refine rialda (hi := rfl) (kk := ?_))
      refine rputa (hi := rfl) (kk := ?_)
      refine rret rfl rfl ?_
      refine ⟨rfl, ?_⟩
      rw [am_set_set, am_set_self H.2.1]
      rfl
    · exact absurd (Int32.le_refl _) c1
  · rintro i hi ih x rfl
    have H2 := scW_set (g := fo (stF P wa me halts) i f) H
    obtain ⟨h1, h2, h3, h4, h5, h6, -, h7, h8⟩ := id H2
    have ih := ih _ (nI_succ i).symm
    rw [fo_succ] at ih
    repeat (first | refine rs [] rfl rfl rfl rfl ?_ | refine rk rfl rfl ?_ | refine rgoh [] rfl rfl ?_ | refine rgeta (hi := rfl) (kk := ?_) | refine rialda (hi := rfl) (kk := ?_))
    (first | refine rif rfl rfl (fun c1 => ?_) (fun c1 => ?_) | refine ric rfl rfl (fun c1 => ?_) (fun c1 => ?_))
    · exact absurd hi ((nI_lt_iff (by omega) (by omega)).mp c1)
    · repeat (first | refine rs [] rfl rfl rfl rfl ?_ | refine rk rfl rfl ?_ | refine rgoh [] rfl rfl ?_ | refine rgeta (hi := rfl) (kk := ?_) | refine rialda (hi := rfl) (kk := ?_))
      refine rcss rfl rfl rfl rfl rfl (c_bit) ?_
      repeat (first | refine rs [] rfl rfl rfl rfl ?_ | refine rk rfl rfl ?_ | refine rgoh [] rfl rfl ?_ | refine rgeta (hi := rfl) (kk := ?_) | refine rialda (hi := rfl) (kk := ?_))
      (first | refine rif rfl rfl (fun c2 => ?_) (fun c2 => ?_) | refine ric rfl rfl (fun c2 => ?_) (fun c2 => ?_))
      · repeat (first | refine rs [] rfl rfl rfl rfl ?_ | refine rk rfl rfl ?_ | refine rgoh [] rfl rfl ?_ | refine rgeta (hi := rfl) (kk := ?_) | refine rialda (hi := rfl) (kk := ?_))
        (first | refine rcvs rfl rfl rfl rfl rfl (by first | assumption | (simp (disch := omega) only [am_set_ne, am_set_eq]; first | assumption | rfl)) rfl (c_letOut H2) ?_ | refine rcvn rfl rfl rfl rfl rfl (by first | assumption | (simp (disch := omega) only [am_set_ne, am_set_eq]; first | assumption | rfl)) rfl (c_letOut H2) ?_)
        rw [am_set_set]
        have H3 := scW_set (g := fo (loF P wa me (nI i)) P (fo (stF P wa me halts) i f)) H
        obtain ⟨h1, h2, h3, h4, h5, h6, -, h7, h8⟩ := id H3
        repeat (first | refine rs [] rfl rfl rfl rfl ?_ | refine rk rfl rfl ?_ | refine rgoh [] rfl rfl ?_ | refine rgeta (hi := rfl) (kk := ?_) | refine rialda (hi := rfl) (kk := ?_))
        (first | refine rcvs rfl rfl rfl rfl rfl (by first | assumption | (simp (disch := omega) only [am_set_ne, am_set_eq]; first | assumption | rfl)) rfl (c_takeIn H3) ?_ | refine rcvn rfl rfl rfl rfl rfl (by first | assumption | (simp (disch := omega) only [am_set_ne, am_set_eq]; first | assumption | rfl)) rfl (c_takeIn H3) ?_)
        rw [am_set_set]
        repeat (first | refine rs [11] rfl rfl rfl rfl ?_ | refine rk rfl rfl ?_ | refine rgoh [11] rfl rfl ?_ | refine rgeta (hi := rfl) (kk := ?_) | refine rialda (hi := rfl) (kk := ?_))
        have e1 : stF P wa me halts i (fo (stF P wa me halts) i f) = fo (tiF wa (nI i)) P (fo (loF P wa me (nI i)) P (fo (stF P wa me halts) i f)) := by
          unfold stF
          rw [if_pos c2]
        rw [e1] at ih
        exact ih
      · repeat (first | refine rs [11] rfl rfl rfl rfl ?_ | refine rk rfl rfl ?_ | refine rgoh [11] rfl rfl ?_ | refine rgeta (hi := rfl) (kk := ?_) | refine rialda (hi := rfl) (kk := ?_))
        have e1 : stF P wa me halts i (fo (stF P wa me halts) i f) = fo (stF P wa me halts) i f := by
          generalize fo (stF P wa me halts) i f = g
          unfold stF
          rw [if_neg c2]
        rw [e1] at ih
        exact ih
end CScene
end
section
/-! the class's parts that store: what a part of the heap is, and that nothing else changes -/
abbrev Sc : Type := (Nat → Int32) × (Nat → Int32) × (Nat → Int32) × (Nat → Int32) × Int32 × Int32 × Int32
/-- only the cells lo .. hi less 1 have changed -/
def am_fr (lo hi : Nat) (h h' : am_H) : Prop := h'.2 = h.2 ∧ ∀ k, (k < lo ∨ hi ≤ k) → h'.1 k = h.1 k
theorem fr_rf {lo hi : Nat} {h : am_H} : am_fr lo hi h h := ⟨rfl, fun _ _ => rfl⟩
theorem fr_set {lo hi a : Nat} {h h1 : am_H} {c : am_C} (f : am_fr lo hi h h1) (h2 : lo ≤ a) (h3 : a < hi) : am_fr lo hi h (am_set h1 a c) := ⟨f.1, fun k hk => by rw [am_set_ne (by omega)]; exact f.2 k hk⟩
theorem fr_tr {lo hi lo1 hi1 : Nat} {h h1 h2 : am_H} (f : am_fr lo hi h h1) (g : am_fr lo1 hi1 h1 h2) (q1 : lo ≤ lo1) (q2 : hi1 ≤ hi) : am_fr lo hi h h2 := ⟨g.1.trans f.1, fun k hk => by rw [g.2 k (by omega), f.2 k hk]⟩
theorem fr_wd {lo hi lo1 hi1 : Nat} {h h1 : am_H} (g : am_fr lo1 hi1 h h1) (q1 : lo ≤ lo1) (q2 : hi1 ≤ hi) : am_fr lo hi h h1 := ⟨g.1, fun k hk => g.2 k (by omega)⟩
def cRaw (a : Nat) (h : am_H) : Prop := ∃ (wh mi : Nat → Int32) (fe fl fog tr sp : Int32), h.1 a = .inr (6, [.ref (a + 1), .ref (a + 2), .int fe, .int fl, .int fog, .int tr, .int sp]) ∧ h.1 (a + 1) = iar wh ∧ h.1 (a + 2) = iar mi
/-- the scene at a is S, as far as persons below P go -/
def cSc (P a : Nat) (S : Sc) (h : am_H) : Prop := ∃ (wh mi : Nat → Int32) (fe fl : Int32), h.1 a = .inr (6, [.ref (a + 1), .ref (a + 2), .int fe, .int fl, .int S.2.2.2.2.1, .int S.2.2.2.2.2.1, .int S.2.2.2.2.2.2]) ∧ h.1 (a + 1) = iar wh ∧ h.1 (a + 2) = iar mi ∧ ∀ p, p < P → wh p = S.1 p ∧ mi p = S.2.1 p ∧ bitv fe (nI p) = S.2.2.1 p ∧ bitv fl (nI p) = S.2.2.2.1 p
theorem cSc.raw {P a : Nat} {S : Sc} {h : am_H} (q : cSc P a S h) : cRaw a h := by
  obtain ⟨wh, mi, fe, fl, h1, h2, h3, -⟩ := q
  exact ⟨wh, mi, fe, fl, _, _, _, h1, h2, h3⟩
theorem cRaw.fr {a lo hi : Nat} {h h' : am_H} (f : am_fr lo hi h h') (hd : a + 3 ≤ lo ∨ hi ≤ a) (q : cRaw a h) : cRaw a h' := by
  obtain ⟨wh, mi, fe, fl, fog, tr, sp, h1, h2, h3⟩ := q
  exact ⟨wh, mi, fe, fl, fog, tr, sp, by rw [f.2 _ (by omega)]; exact h1, by rw [f.2 _ (by omega)]; exact h2, by rw [f.2 _ (by omega)]; exact h3⟩
theorem cSc.fr {P a lo hi : Nat} {S : Sc} {h h' : am_H} (f : am_fr lo hi h h') (hd : a + 3 ≤ lo ∨ hi ≤ a) (q : cSc P a S h) : cSc P a S h' := by
  obtain ⟨wh, mi, fe, fl, h1, h2, h3, h4⟩ := q
  exact ⟨wh, mi, fe, fl, by rw [f.2 _ (by omega)]; exact h1, by rw [f.2 _ (by omega)]; exact h2, by rw [f.2 _ (by omega)]; exact h3, h4⟩
theorem cpy8 {f g : Nat → Int32} {p : Nat} (hp : p < 8) : va_cpy f g 0 0 8 p = f p := by
  unfold va_cpy
  rw [if_pos (by omega)]
  congr 1
  omega
theorem i8 : (8 : Int32) = nI 8 := by decide
theorem c_takeFrom {P a b : Nat} {S : Sc} {h : am_H} (ha : cRaw a h) (hb : cSc P b S h) (hP : P ≤ 8) (hd : a + 3 ≤ b ∨ b + 3 ≤ a) (ha0 : 0 < a) (hb0 : 0 < b) : am_T M_Scene_takeFrom [.ref a, .ref b] h (fun r h' => r = none ∧ cSc P a S h' ∧ am_fr a (a + 3) h h') := by
  obtain ⟨wh, mi, fe, fl, fog, tr, sp, h1, h2, h3⟩ := ha
  obtain ⟨whb, mib, feb, flb, g1, g2, g3, g4⟩ := hb
  (try unfold am_E); unfold am_T
  repeat (first | refine rs [] rfl rfl rfl rfl ?_ | refine rk rfl rfl ?_ | refine rgoh [] rfl rfl ?_ | refine rgeta (hi := rfl) (kk := ?_) | refine rialda (hi := rfl) (kk := ?_))
  refine rcpy (a := a + 1) (a0 := b + 1) (n := 8) rfl g2 h2 (by omega) (by omega) i8 (by omega) (by omega) (by omega) (by decide) ?_
  repeat (first | refine rs [] rfl rfl rfl rfl ?_ | refine rk rfl rfl ?_ | refine rgoh [] rfl rfl ?_ | refine rgeta (hi := rfl) (kk := ?_) | refine rialda (hi := rfl) (kk := ?_))
  refine rcpy (a := a + 2) (a0 := b + 2) (n := 8) (f := mib) (g := mi) (na := 8) (nb := 8) rfl (by simp (disch := omega) only [am_set_ne]; exact g3) (by simp (disch := omega) only [am_set_ne]; exact h3) (by omega) (by omega) i8 (by omega) (by omega) (by omega) (by decide) ?_
  repeat (first | refine rs [] rfl rfl rfl rfl ?_ | refine rk rfl rfl ?_ | refine rgoh [] rfl rfl ?_ | refine rgeta (hi := rfl) (kk := ?_) | refine rialda (hi := rfl) (kk := ?_))
  refine rputa (hi := rfl) (kk := ?_)
  repeat (first | refine rs [] rfl rfl rfl rfl ?_ | refine rk rfl rfl ?_ | refine rgoh [] rfl rfl ?_ | refine rgeta (hi := rfl) (kk := ?_) | refine rialda (hi := rfl) (kk := ?_))
  refine rputa (hi := rfl) (kk := ?_)
  repeat (first | refine rs [] rfl rfl rfl rfl ?_ | refine rk rfl rfl ?_ | refine rgoh [] rfl rfl ?_ | refine rgeta (hi := rfl) (kk := ?_) | refine rialda (hi := rfl) (kk := ?_))
  refine rputa (hi := rfl) (kk := ?_)
  repeat (first | refine rs [] rfl rfl rfl rfl ?_ | refine rk rfl rfl ?_ | refine rgoh [] rfl rfl ?_ | refine rgeta (hi := rfl) (kk := ?_) | refine rialda (hi := rfl) (kk := ?_))
  refine rputa (hi := rfl) (kk := ?_)
  repeat (first | refine rs [] rfl rfl rfl rfl ?_ | refine rk rfl rfl ?_ | refine rgoh [] rfl rfl ?_ | refine rgeta (hi := rfl) (kk := ?_) | refine rialda (hi := rfl) (kk := ?_))
  refine rputa (hi := rfl) (kk := ?_)
  refine rret rfl rfl ?_
  refine ⟨rfl, ⟨va_cpy whb wh 0 0 8, va_cpy mib mi 0 0 8, feb, flb, ?_, ?_, ?_, fun p hp => ?_⟩, ?_⟩
  · simp (disch := omega) only [am_set_ne, am_set_eq]
    rfl
  · simp (disch := omega) only [am_set_ne, am_set_eq]
  · simp (disch := omega) only [am_set_ne, am_set_eq]
  · rw [cpy8 (by omega), cpy8 (by omega)]
    exact g4 p hp
  · exact fr_set (fr_set (fr_set (fr_set (fr_set (fr_set (fr_set fr_rf (by omega) (by omega)) (by omega) (by omega)) (by omega) (by omega)) (by omega) (by omega)) (by omega) (by omega)) (by omega) (by omega)) (by omega) (by omega)
/-! the latest deeds, in a ring -/
def cDd (P : Nat) (dd : List Sc) (h : am_H) : Prop := ∃ (fi : Nat) (f : Nat → Option Nat), fi < 30 ∧ dd.length ≤ 30 ∧ h.1 21 = .inr (1, [.ref 22, .int (nI fi), .int (nI dd.length)]) ∧ h.1 22 = .inl (.object "SpiteLine$Scene", 30, .inr (.inr (.inr (.inr f)))) ∧ (∀ i, i < 30 → f i = some (23 + 3 * i)) ∧ (∀ i, i < 30 → cRaw (23 + 3 * i) h) ∧ ∀ j S, dd[j]? = some S → cSc P (23 + 3 * ((fi + j) % 30)) S h
theorem cDd.fr {P lo hi : Nat} {dd : List Sc} {h h' : am_H} (f : am_fr lo hi h h') (hd : 113 ≤ lo ∨ hi ≤ 21) (q : cDd P dd h) : cDd P dd h' := by
  obtain ⟨fi, g, q1, q2, q3, q4, q5, q6, q7⟩ := q
  exact ⟨fi, g, q1, q2, by rw [f.2 _ (by omega)]; exact q3, by rw [f.2 _ (by omega)]; exact q4, q5, fun i hi => (q6 i hi).fr f (by omega), fun j S hS => (q7 j S hS).fr f (by omega)⟩
def dnote (dd : List Sc) (S : Sc) : List Sc := (if dd.length = 30 then dd.tail else dd) ++ [S]
theorem i30 : (30 : Int32) = nI 30 := by decide
theorem i1 : (1 : Int32) = nI 1 := by decide
theorem rem30 {n : Nat} (h : n < 2 ^ 31) : nI n - nI n / 30 * 30 = nI (n % 30) := by
  rw [i30]
  exact pk_rem h (by omega) (by omega)
set_option maxHeartbeats 1000000 in
theorem c_note {P : Nat} {S : Sc} {dd : List Sc} {h : am_H} (hD : cDd P dd h) (hb : cSc P 14 S h) (hP : P ≤ 8) : am_T M_Deeds_note [.ref 21, .ref 14] h (fun r h' => r = none ∧ cDd P (dnote dd S) h' ∧ am_fr 21 113 h h') := by
  obtain ⟨fi, f, q1, q2, q3, q4, q5, q6, q7⟩ := hD
  have hk : (fi + dd.length) % 30 < 30 := Nat.mod_lt _ (by omega)
  (try unfold am_E); unfold am_T
  repeat (first | refine rs [] rfl rfl rfl rfl ?_ | refine rk rfl rfl ?_ | refine rgoh [] rfl rfl ?_ | refine rgeta (hi := rfl) (kk := ?_) | refine rialda (hi := rfl) (kk := ?_))
  refine raald rfl q4 (Or.inl rfl) ((fi + dd.length) % 30) hk (by omega) (by rw [nI_add]; exact rem30 (by omega)) (q5 _ hk) ?_
  repeat (first | refine rs [] rfl rfl rfl rfl ?_ | refine rk rfl rfl ?_ | refine rgoh [] rfl rfl ?_ | refine rgeta (hi := rfl) (kk := ?_) | refine rialda (hi := rfl) (kk := ?_))
  obtain ⟨u1, u2, u3, u4, u5, u6, u7, hx, u8⟩ := q6 _ hk
  refine rcvt rfl rfl rfl rfl rfl hx rfl (c_takeFrom (q6 _ hk) hb hP (by omega) (by omega) (by omega)) ?_
  rintro r h1 ⟨rfl, g1, g2⟩
  have e21 : h1.1 21 = .inr (1, [.ref 22, .int (nI fi), .int (nI dd.length)]) := by rw [g2.2 _ (by omega)]; exact q3
  have e22 : h1.1 22 = .inl (.object "SpiteLine$Scene", 30, .inr (.inr (.inr (.inr f)))) := by rw [g2.2 _ (by omega)]; exact q4
  have e6 : ∀ i, i < 30 → cRaw (23 + 3 * i) h1 := by
    intro i hi
    by_cases e : i = (fi + dd.length) % 30
    · rw [e]
      exact g1.raw
    · exact (q6 i hi).fr g2 (by omega)
  have e7 : ∀ j S', dd[j]? = some S' → (fi + j) % 30 ≠ (fi + dd.length) % 30 → cSc P (23 + 3 * ((fi + j) % 30)) S' h1 := by
    intro j S' hj hne
    exact (q7 j S' hj).fr g2 (by omega)
  show am_R M_Deeds_note (12, _, []) h1 _
  repeat (first | refine rs [] rfl rfl rfl rfl ?_ | refine rk rfl rfl ?_ | refine rgoh [] rfl rfl ?_ | refine rgeta (hi := rfl) (kk := ?_) | refine rialda (hi := rfl) (kk := ?_))
  (first | refine rif rfl rfl (fun c1 => ?_) (fun c1 => ?_) | refine ric rfl rfl (fun c1 => ?_) (fun c1 => ?_))
  · -- full
    have hfull : dd.length = 30 := by
      rw [i30, nI_leI (by omega) (by omega)] at c1
      omega
    repeat (first | refine rs [] rfl rfl rfl rfl ?_ | refine rk rfl rfl ?_ | refine rgoh [] rfl rfl ?_ | refine rgeta (hi := rfl) (kk := ?_) | refine rialda (hi := rfl) (kk := ?_))
    refine rputa (hi := rfl) (kk := ?_)
    repeat (first | refine rs [] rfl rfl rfl rfl ?_ | refine rk rfl rfl ?_ | refine rgoh [] rfl rfl ?_ | refine rgeta (hi := rfl) (kk := ?_) | refine rialda (hi := rfl) (kk := ?_))
    refine rret rfl rfl ?_
    have fr2 : am_fr 21 113 h (am_set h1 21 (.inr (1, [.ref 22, .int (nI ((fi + 1) % 30)), .int (nI dd.length)]))) := fr_set (fr_wd g2 (by omega) (by omega)) (by omega) (by omega)
    have e1 : nI fi + 1 - (nI fi + 1) / 30 * 30 = nI ((fi + 1) % 30) := by
      rw [nI_1]
      exact rem30 (by omega)
    have e2 : ([Value.ref 22, .int (nI fi), .int (nI dd.length)].set 1 (.int (nI fi + 1 - (nI fi + 1) / 30 * 30))) = [Value.ref 22, .int (nI ((fi + 1) % 30)), .int (nI dd.length)] := by
      rw [e1]
      rfl
    refine ⟨rfl, ?_, ?_⟩
    · have hl : (dnote dd S).length = dd.length := by
        unfold dnote
        rw [if_pos hfull, List.length_append, List.length_tail, List.length_singleton]
        omega
      refine ⟨(fi + 1) % 30, f, Nat.mod_lt _ (by omega), by omega, ?_, ?_, q5, fun i hi => ?_, fun j S' hj => ?_⟩
      · rw [am_set_eq, hl]
        exact congrArg (fun z => Sum.inr (1, z)) e2
      · rw [am_set_ne (by omega)]
        exact e22
      · exact (e6 i hi).fr (fr_set (lo := 21) (hi := 22) fr_rf (by omega) (by omega)) (by omega)
      · have hjl : j < (dnote dd S).length := (List.getElem?_eq_some_iff.mp hj).1
        refine cSc.fr (lo := 21) (hi := 22) (h := h1) (fr_set fr_rf (by omega) (by omega)) (by omega) ?_
        unfold dnote at hj
        rw [if_pos hfull] at hj
        by_cases e : j = 29
        · subst e
          rw [List.getElem?_append_right (by rw [List.length_tail]; omega)] at hj
          rw [List.length_tail, hfull] at hj
          cases hj
          rw [show ((fi + 1) % 30 + 29) % 30 = (fi + dd.length) % 30 by omega]
          exact g1
        · rw [List.getElem?_append_left (by rw [List.length_tail]; omega), List.getElem?_tail] at hj
          have := e7 (j + 1) S' hj (by omega)
          rw [show ((fi + 1) % 30 + j) % 30 = (fi + (j + 1)) % 30 by omega]
          exact this
    · exact fr_set (fr_wd g2 (by omega) (by omega)) (by omega) (by omega)
  · have hnf : dd.length < 30 := by
      rw [i30, nI_leI (by omega) (by omega)] at c1
      omega
    repeat (first | refine rs [] rfl rfl rfl rfl ?_ | refine rk rfl rfl ?_ | refine rgoh [] rfl rfl ?_ | refine rgeta (hi := rfl) (kk := ?_) | refine rialda (hi := rfl) (kk := ?_))
    refine rputa (hi := rfl) (kk := ?_)
    repeat (first | refine rs [] rfl rfl rfl rfl ?_ | refine rk rfl rfl ?_ | refine rgoh [] rfl rfl ?_ | refine rgeta (hi := rfl) (kk := ?_) | refine rialda (hi := rfl) (kk := ?_))
    refine rret rfl rfl ?_
    have e2 : ([Value.ref 22, .int (nI fi), .int (nI dd.length)].set 2 (.int (nI dd.length + 1))) = [Value.ref 22, .int (nI fi), .int (nI (dd.length + 1))] := by
      rw [nI_1]
      rfl
    have hd : dnote dd S = dd ++ [S] := by
      unfold dnote
      rw [if_neg (by omega)]
    refine ⟨rfl, ?_, ?_⟩
    · rw [hd]
      refine ⟨fi, f, q1, by rw [List.length_append]; simp; omega, ?_, ?_, q5, fun i hi => ?_, fun j S' hj => ?_⟩
      · rw [am_set_eq, List.length_append]
        exact congrArg (fun z => Sum.inr (1, z)) e2
      · rw [am_set_ne (by omega)]
        exact e22
      · exact (e6 i hi).fr (fr_set (lo := 21) (hi := 22) fr_rf (by omega) (by omega)) (by omega)
      · refine cSc.fr (lo := 21) (hi := 22) (h := h1) (fr_set fr_rf (by omega) (by omega)) (by omega) ?_
        by_cases e : j < dd.length
        · rw [List.getElem?_append_left e] at hj
          exact e7 j S' hj (by omega)
        · rw [List.getElem?_append_right (by omega)] at hj
          have h0 : j - dd.length < 1 := (List.getElem?_eq_some_iff.mp hj).1
          rw [show j - dd.length = 0 by omega] at hj
          cases hj
          rw [show j = dd.length by omega]
          exact g1
    · exact fr_set (fr_wd g2 (by omega) (by omega)) (by omega) (by omega)
end
section
/-! the class's parts: undoing, draws, the text, the book -/
set_option maxHeartbeats 1000000 in
theorem c_takeBack {P n : Nat} {S : Sc} {dd : List Sc} {h : am_H} {x : Int32} (hx : x = nI n) (hn1 : 1 ≤ n) (hn : n ≤ dd.length) (hS : dd[dd.length - n]? = some S) (hD : cDd P dd h) (hb : cRaw 14 h) (hP : P ≤ 8) : am_T M_Deeds_takeBack [.ref 21, .int x, .ref 14] h (fun r h' => r = some (.int 1) ∧ cDd P (dd.take (dd.length - n)) h' ∧ cSc P 14 S h' ∧ am_fr 14 113 h h' ∧ ∀ k, 17 ≤ k → k < 21 → h'.1 k = h.1 k) := by
  subst hx
  obtain ⟨fi, f, q1, q2, q3, q4, q5, q6, q7⟩ := hD
  have hk : (fi + (dd.length - n)) % 30 < 30 := Nat.mod_lt _ (by omega)
  have hsub : nI dd.length - nI n = nI (dd.length - n) := pk_sub hn
  (try unfold am_E); unfold am_T
  repeat (first | refine rs [] rfl rfl rfl rfl ?_ | refine rk rfl rfl ?_ | refine rgoh [] rfl rfl ?_ | refine rgeta (hi := rfl) (kk := ?_) | refine rialda (hi := rfl) (kk := ?_))
  (first | refine rif rfl rfl (fun c1 => ?_) (fun c1 => ?_) | refine ric rfl rfl (fun c1 => ?_) (fun c1 => ?_))
  · exfalso
    rw [i1, nI_ltI (by omega) (by omega)] at c1
    omega
  · repeat (first | refine rs [] rfl rfl rfl rfl ?_ | refine rk rfl rfl ?_ | refine rgoh [] rfl rfl ?_ | refine rgeta (hi := rfl) (kk := ?_) | refine rialda (hi := rfl) (kk := ?_))
    (first | refine rif rfl rfl (fun c2 => ?_) (fun c2 => ?_) | refine ric rfl rfl (fun c2 => ?_) (fun c2 => ?_))
    · repeat (first | refine rs [] rfl rfl rfl rfl ?_ | refine rk rfl rfl ?_ | refine rgoh [] rfl rfl ?_ | refine rgeta (hi := rfl) (kk := ?_) | refine rialda (hi := rfl) (kk := ?_))
      refine rputa (hi := rfl) (kk := ?_)
      repeat (first | refine rs [] rfl rfl rfl rfl ?_ | refine rk rfl rfl ?_ | refine rgoh [] rfl rfl ?_ | refine rgeta (hi := rfl) (kk := ?_) | refine rialda (hi := rfl) (kk := ?_))
      refine raald rfl (by simp (disch := omega) only [am_set_ne]; exact q4) (Or.inl rfl) ((fi + (dd.length - n)) % 30) hk (by omega) (by rw [hsub, nI_add]; exact rem30 (by omega)) (q5 _ hk) ?_
      have fr1 : am_fr 21 22 h (am_set h 21 (.inr (1, [Value.ref 22, .int (nI fi), .int (nI dd.length)].set 2 (.int (nI dd.length - nI n))))) := fr_set fr_rf (by omega) (by omega)
      obtain ⟨u1, u2, u3, u4, u5, u6, u7, hx, u8⟩ := id hb
      refine rcvt rfl rfl rfl rfl rfl (by rw [am_set_ne (by omega)]; exact hx) rfl (c_takeFrom (hb.fr fr1 (by omega)) ((q7 _ S hS).fr fr1 (by omega)) hP (by omega) (by omega) (by omega)) ?_
      rintro r h1 ⟨rfl, g1, g2⟩
      show am_R M_Deeds_takeBack (27, _, []) h1 _
      repeat (first | refine rs [] rfl rfl rfl rfl ?_ | refine rk rfl rfl ?_ | refine rgoh [] rfl rfl ?_ | refine rgeta (hi := rfl) (kk := ?_) | refine rialda (hi := rfl) (kk := ?_))
      refine rret rfl rfl ?_
      have fr2 : am_fr 14 113 h h1 := fr_tr (fr_wd fr1 (lo := 14) (hi := 113) (by omega) (by omega)) g2 (by omega) (by omega)
      refine ⟨rfl, ?_, g1, fr2, ?_⟩
      · have hl : (dd.take (dd.length - n)).length = dd.length - n := by rw [List.length_take]; omega
        refine ⟨fi, f, q1, by omega, ?_, ?_, q5, fun i hi => ?_, fun j S' hj => ?_⟩
        · rw [g2.2 _ (by omega), am_set_eq, hl, hsub]
          rfl
        · rw [g2.2 _ (by omega), am_set_ne (by omega)]
          exact q4
        · exact ((q6 i hi).fr fr1 (by omega)).fr g2 (by omega)
        · have hjl : j < (dd.take (dd.length - n)).length := (List.getElem?_eq_some_iff.mp hj).1
          rw [List.getElem?_take_of_lt (by omega)] at hj
          exact ((q7 j S' hj).fr fr1 (by omega)).fr g2 (by omega)
      · intro k k1 k2
        rw [g2.2 _ (by omega), am_set_ne (by omega)]
    · exfalso
      rw [nI_leI (by omega) (by omega)] at c2
      omega
theorem c_takeBackN {P n : Nat} {dd : List Sc} {h : am_H} {x : Int32} {v : Value} (hx : x = nI n) (hn31 : n < 2 ^ 31) (hn : dd.length < n) (hD : cDd P dd h) (hv : am_isL v = false) : am_E M_Deeds_takeBack [.ref 21, .int x, v] h (some (.int 0)) h := by
  subst hx
  obtain ⟨fi, f, q1, q2, q3, q4, q5, q6, q7⟩ := hD
  (try unfold am_E); unfold am_T
  repeat (first | refine rs [] rfl rfl rfl rfl ?_ | refine rk rfl rfl ?_ | refine rgoh [] rfl rfl ?_ | refine rgeta (hi := rfl) (kk := ?_) | refine rialda (hi := rfl) (kk := ?_))
  (first | refine rif rfl rfl (fun c1 => ?_) (fun c1 => ?_) | refine ric rfl rfl (fun c1 => ?_) (fun c1 => ?_))
  · repeat (first | refine rs [] rfl rfl rfl rfl ?_ | refine rk rfl rfl ?_ | refine rgoh [] rfl rfl ?_ | refine rgeta (hi := rfl) (kk := ?_) | refine rialda (hi := rfl) (kk := ?_))
    refine rret rfl rfl ?_
    exact ⟨rfl, rfl⟩
  · repeat (first | refine rs [] rfl rfl rfl rfl ?_ | refine rk rfl rfl ?_ | refine rgoh [] rfl rfl ?_ | refine rgeta (hi := rfl) (kk := ?_) | refine rialda (hi := rfl) (kk := ?_))
    (first | refine rif rfl rfl (fun c2 => ?_) (fun c2 => ?_) | refine ric rfl rfl (fun c2 => ?_) (fun c2 => ?_))
    · exfalso
      rw [nI_leI (by omega) (by omega)] at c2
      omega
    · repeat (first | refine rs [] rfl rfl rfl rfl ?_ | refine rk rfl rfl ?_ | refine rgoh [] rfl rfl ?_ | refine rgeta (hi := rfl) (kk := ?_) | refine rialda (hi := rfl) (kk := ?_))
      refine rret rfl rfl ?_
      exact ⟨rfl, rfl⟩
/-! draws -/
def lcg (sd : Int32) : Int32 := ((sd.toInt64 * 1103515245 + 12345) &&& 2147483647).toInt32
def drw (sd : Int32) (n : Int32) : Int32 := lcg sd / 65536 - lcg sd / 65536 / n * n
theorem c_next {h : am_H} {sd : Int32} {n : Nat} (h0 : 0 < n) (hn : n < 2 ^ 31) (hd : h.1 120 = .inr (2, [.int sd])) : am_E M_Draws_next [.ref 120, .int (nI n)] h (some (.int (drw sd (nI n)))) (am_set h 120 (.inr (2, [.int (lcg sd)]))) := by
  (try unfold am_E); unfold am_T
  repeat (first | refine rs [] rfl rfl rfl rfl ?_ | refine rk rfl rfl ?_ | refine rgoh [] rfl rfl ?_ | refine rgeta (hi := rfl) (kk := ?_) | refine rialda (hi := rfl) (kk := ?_))
  refine rputa (hi := rfl) (kk := ?_)
  repeat (first | refine rs [] rfl rfl rfl rfl ?_ | refine rk rfl rfl ?_ | refine rgoh [] rfl rfl ?_ | refine rgeta (hi := rfl) (kk := ?_) | refine rialda (hi := rfl) (kk := ?_))
  (first | refine rif rfl rfl (fun c1 => ?_) (fun c1 => ?_) | refine ric rfl rfl (fun c1 => ?_) (fun c1 => ?_))
  · exact absurd c1 (nI_nle h0 hn)
  · repeat (first | refine rs [] rfl rfl rfl rfl ?_ | refine rk rfl rfl ?_ | refine rgoh [] rfl rfl ?_ | refine rgeta (hi := rfl) (kk := ?_) | refine rialda (hi := rfl) (kk := ?_))
    refine rirem rfl (nI_ne0 h0 hn) ?_
    repeat (first | refine rs [] rfl rfl rfl rfl ?_ | refine rk rfl rfl ?_ | refine rgoh [] rfl rfl ?_ | refine rgeta (hi := rfl) (kk := ?_) | refine rialda (hi := rfl) (kk := ?_))
    refine rret rfl rfl ?_
    exact ⟨rfl, rfl⟩
/-! the text -/
def cTx (len : Nat) (tx : Nat → Int32) (h : am_H) : Prop := len ≤ 200 ∧ h.1 2 = .inr (7, [.ref 3, .int (nI len)]) ∧ h.1 3 = .inl (.int, 200, .inl tx)
theorem i200 : (200 : Int32) = nI 200 := by decide
theorem c_Tadd {h : am_H} {len : Nat} {tx : Nat → Int32} {c : Int32} (hT : cTx len tx h) (hl : len < 200) : am_E M_Text_add [.ref 2, .int c] h (some (.int 1)) (am_set (am_set h 3 (.inl (.int, 200, .inl (upd tx len c)))) 2 (.inr (7, [.ref 3, .int (nI (len + 1))]))) := by
  obtain ⟨h1, h2, h3⟩ := hT
  (try unfold am_E); unfold am_T
  repeat (first | refine rs [] rfl rfl rfl rfl ?_ | refine rk rfl rfl ?_ | refine rgoh [] rfl rfl ?_ | refine rgeta (hi := rfl) (kk := ?_) | refine rialda (hi := rfl) (kk := ?_))
  (first | refine rif rfl rfl (fun c1 => ?_) (fun c1 => ?_) | refine ric rfl rfl (fun c1 => ?_) (fun c1 => ?_))
  · exact absurd c1 (nI_pos (by omega))
  · repeat (first | refine rs [] rfl rfl rfl rfl ?_ | refine rk rfl rfl ?_ | refine rgoh [] rfl rfl ?_ | refine rgeta (hi := rfl) (kk := ?_) | refine rialda (hi := rfl) (kk := ?_))
    (first | refine rif rfl rfl (fun c2 => ?_) (fun c2 => ?_) | refine ric rfl rfl (fun c2 => ?_) (fun c2 => ?_))
    · repeat (first | refine rs [] rfl rfl rfl rfl ?_ | refine rk rfl rfl ?_ | refine rgoh [] rfl rfl ?_ | refine rgeta (hi := rfl) (kk := ?_) | refine rialda (hi := rfl) (kk := ?_))
      refine riasta (hi := rfl) (kk := ?_)
      repeat (first | refine rs [] rfl rfl rfl rfl ?_ | refine rk rfl rfl ?_ | refine rgoh [] rfl rfl ?_ | refine rgeta (hi := rfl) (kk := ?_) | refine rialda (hi := rfl) (kk := ?_))
      refine rputa (hi := rfl) (kk := ?_)
      repeat (first | refine rs [] rfl rfl rfl rfl ?_ | refine rk rfl rfl ?_ | refine rgoh [] rfl rfl ?_ | refine rgeta (hi := rfl) (kk := ?_) | refine rialda (hi := rfl) (kk := ?_))
      refine rret rfl rfl ?_
      refine ⟨rfl, ?_⟩
      rw [← nI_1]
      rfl
    · exfalso
      rw [i200, nI_ltI (by omega) (by omega)] at c2
      omega
theorem c_TaddF {h : am_H} {len : Nat} {tx : Nat → Int32} {c : Int32} (hT : cTx len tx h) (hl : len = 200) : am_E M_Text_add [.ref 2, .int c] h (some (.int 0)) h := by
  obtain ⟨h1, h2, h3⟩ := hT
  (try unfold am_E); unfold am_T
  repeat (first | refine rs [] rfl rfl rfl rfl ?_ | refine rk rfl rfl ?_ | refine rgoh [] rfl rfl ?_ | refine rgeta (hi := rfl) (kk := ?_) | refine rialda (hi := rfl) (kk := ?_))
  (first | refine rif rfl rfl (fun c1 => ?_) (fun c1 => ?_) | refine ric rfl rfl (fun c1 => ?_) (fun c1 => ?_))
  · exact absurd c1 (nI_pos (by omega))
  · repeat (first | refine rs [] rfl rfl rfl rfl ?_ | refine rk rfl rfl ?_ | refine rgoh [] rfl rfl ?_ | refine rgeta (hi := rfl) (kk := ?_) | refine rialda (hi := rfl) (kk := ?_))
    (first | refine rif rfl rfl (fun c2 => ?_) (fun c2 => ?_) | refine ric rfl rfl (fun c2 => ?_) (fun c2 => ?_))
    · exfalso
      rw [i200, nI_ltI (by omega) (by omega)] at c2
      omega
    · repeat (first | refine rs [] rfl rfl rfl rfl ?_ | refine rk rfl rfl ?_ | refine rgoh [] rfl rfl ?_ | refine rgeta (hi := rfl) (kk := ?_) | refine rialda (hi := rfl) (kk := ?_))
      refine rret rfl rfl ?_
      exact ⟨rfl, rfl⟩
/-- the letter at i, or NONE -/
def ltr (len : Nat) (tx : Nat → Int32) (i : Nat) : Int32 := if i < len then tx i else -1
theorem c_letterAt {h : am_H} {len i : Nat} {tx : Nat → Int32} {x : Int32} (hT : cTx len tx h) (hx : x = nI i) (hi : i < 2 ^ 31) : am_E M_Text_letterAt [.ref 2, .int x] h (some (.int (ltr len tx i))) h := by
  subst hx
  obtain ⟨h1, h2, h3⟩ := hT
  (try unfold am_E); unfold am_T
  repeat (first | refine rs [] rfl rfl rfl rfl ?_ | refine rk rfl rfl ?_ | refine rgoh [] rfl rfl ?_ | refine rgeta (hi := rfl) (kk := ?_) | refine rialda (hi := rfl) (kk := ?_))
  (first | refine rif rfl rfl (fun c1 => ?_) (fun c1 => ?_) | refine ric rfl rfl (fun c1 => ?_) (fun c1 => ?_))
  · exact absurd c1 (nI_pos (by omega))
  · repeat (first | refine rs [] rfl rfl rfl rfl ?_ | refine rk rfl rfl ?_ | refine rgoh [] rfl rfl ?_ | refine rgeta (hi := rfl) (kk := ?_) | refine rialda (hi := rfl) (kk := ?_))
    (first | refine rif rfl rfl (fun c2 => ?_) (fun c2 => ?_) | refine ric rfl rfl (fun c2 => ?_) (fun c2 => ?_))
    · repeat (first | refine rs [] rfl rfl rfl rfl ?_ | refine rk rfl rfl ?_ | refine rgoh [] rfl rfl ?_ | refine rgeta (hi := rfl) (kk := ?_) | refine rialda (hi := rfl) (kk := ?_))
      refine rret rfl rfl ?_
      refine ⟨?_, rfl⟩
      unfold ltr
      rw [if_neg ((nI_lt_iff (by omega) (by omega)).mp c2)]
    · have hlt : i < len := by
        rw [nI_leI (by omega) (by omega)] at c2
        omega
      repeat (first | refine rs [] rfl rfl rfl rfl ?_ | refine rk rfl rfl ?_ | refine rgoh [] rfl rfl ?_ | refine rgeta (hi := rfl) (kk := ?_) | refine rialda (hi := rfl) (kk := ?_))
      (first | refine rif rfl rfl (fun c3 => ?_) (fun c3 => ?_) | refine ric rfl rfl (fun c3 => ?_) (fun c3 => ?_))
      · exfalso
        rw [i200, nI_leI (by omega) (by omega)] at c3
        omega
      · repeat (first | refine rs [] rfl rfl rfl rfl ?_ | refine rk rfl rfl ?_ | refine rgoh [] rfl rfl ?_ | refine rgeta (hi := rfl) (kk := ?_) | refine rialda (hi := rfl) (kk := ?_))
        refine rret rfl rfl ?_
        refine ⟨?_, rfl⟩
        unfold ltr
        rw [if_pos hlt]
/-! the book -/
def cBk (bc : Nat) (bw bs : Nat → Int32) (h : am_H) : Prop := bc ≤ 20 ∧ h.1 117 = .inr (0, [.ref 118, .ref 119, .int (nI bc)]) ∧ h.1 118 = .inl (.int, 20, .inl bw) ∧ h.1 119 = .inl (.int, 20, .inl bs)
theorem i20 : (20 : Int32) = nI 20 := by decide
theorem c_Badd {h : am_H} {bc : Nat} {bw bs : Nat → Int32} {p x : Int32} (hB : cBk bc bw bs h) (hl : bc < 20) : am_E M_Book_add [.ref 117, .int p, .int x] h (some (.int 1)) (am_set (am_set (am_set h 118 (.inl (.int, 20, .inl (upd bw bc p)))) 119 (.inl (.int, 20, .inl (upd bs bc x)))) 117 (.inr (0, [.ref 118, .ref 119, .int (nI (bc + 1))]))) := by
  obtain ⟨h1, h2, h3, h4⟩ := hB
  (try unfold am_E); unfold am_T
  repeat (first | refine rs [] rfl rfl rfl rfl ?_ | refine rk rfl rfl ?_ | refine rgoh [] rfl rfl ?_ | refine rgeta (hi := rfl) (kk := ?_) | refine rialda (hi := rfl) (kk := ?_))
  (first | refine rif rfl rfl (fun c1 => ?_) (fun c1 => ?_) | refine ric rfl rfl (fun c1 => ?_) (fun c1 => ?_))
  · exact absurd c1 (nI_pos (by omega))
  · repeat (first | refine rs [] rfl rfl rfl rfl ?_ | refine rk rfl rfl ?_ | refine rgoh [] rfl rfl ?_ | refine rgeta (hi := rfl) (kk := ?_) | refine rialda (hi := rfl) (kk := ?_))
    (first | refine rif rfl rfl (fun c2 => ?_) (fun c2 => ?_) | refine ric rfl rfl (fun c2 => ?_) (fun c2 => ?_))
    · repeat (first | refine rs [] rfl rfl rfl rfl ?_ | refine rk rfl rfl ?_ | refine rgoh [] rfl rfl ?_ | refine rgeta (hi := rfl) (kk := ?_) | refine rialda (hi := rfl) (kk := ?_))
      refine riasta (hi := rfl) (kk := ?_)
      repeat (first | refine rs [] rfl rfl rfl rfl ?_ | refine rk rfl rfl ?_ | refine rgoh [] rfl rfl ?_ | refine rgeta (hi := rfl) (kk := ?_) | refine rialda (hi := rfl) (kk := ?_))
      refine riasta (hi := rfl) (kk := ?_)
      repeat (first | refine rs [] rfl rfl rfl rfl ?_ | refine rk rfl rfl ?_ | refine rgoh [] rfl rfl ?_ | refine rgeta (hi := rfl) (kk := ?_) | refine rialda (hi := rfl) (kk := ?_))
      refine rputa (hi := rfl) (kk := ?_)
      repeat (first | refine rs [] rfl rfl rfl rfl ?_ | refine rk rfl rfl ?_ | refine rgoh [] rfl rfl ?_ | refine rgeta (hi := rfl) (kk := ?_) | refine rialda (hi := rfl) (kk := ?_))
      refine rret rfl rfl ?_
      refine ⟨rfl, ?_⟩
      rw [← nI_1]
      rfl
    · exfalso
      rw [i20, nI_ltI (by omega) (by omega)] at c2
      omega
theorem c_BaddF {h : am_H} {bc : Nat} {bw bs : Nat → Int32} {p x : Int32} (hB : cBk bc bw bs h) (hl : bc = 20) : am_E M_Book_add [.ref 117, .int p, .int x] h (some (.int 0)) h := by
  obtain ⟨h1, h2, h3, h4⟩ := hB
  (try unfold am_E); unfold am_T
  repeat (first | refine rs [] rfl rfl rfl rfl ?_ | refine rk rfl rfl ?_ | refine rgoh [] rfl rfl ?_ | refine rgeta (hi := rfl) (kk := ?_) | refine rialda (hi := rfl) (kk := ?_))
  (first | refine rif rfl rfl (fun c1 => ?_) (fun c1 => ?_) | refine ric rfl rfl (fun c1 => ?_) (fun c1 => ?_))
  · exact absurd c1 (nI_pos (by omega))
  · repeat (first | refine rs [] rfl rfl rfl rfl ?_ | refine rk rfl rfl ?_ | refine rgoh [] rfl rfl ?_ | refine rgeta (hi := rfl) (kk := ?_) | refine rialda (hi := rfl) (kk := ?_))
    (first | refine rif rfl rfl (fun c2 => ?_) (fun c2 => ?_) | refine ric rfl rfl (fun c2 => ?_) (fun c2 => ?_))
    · exfalso
      rw [i20, nI_ltI (by omega) (by omega)] at c2
      omega
    · repeat (first | refine rs [] rfl rfl rfl rfl ?_ | refine rk rfl rfl ?_ | refine rgoh [] rfl rfl ?_ | refine rgeta (hi := rfl) (kk := ?_) | refine rialda (hi := rfl) (kk := ?_))
      refine rret rfl rfl ?_
      exact ⟨rfl, rfl⟩
/-- the first that is so, or NONE -/
def isFst (q : Nat → Prop) (n : Nat) (r : Int32) : Prop := (∃ i, i < n ∧ r = nI i ∧ q i ∧ ∀ k, k < i → ¬ q k) ∨ (r = -1 ∧ ∀ k, k < n → ¬ q k)
theorem isFst_eq {q : Nat → Prop} {n : Nat} {r r' : Int32} (h : isFst q n r) (h' : isFst q n r') : r = r' := by
  rcases h with ⟨i, a1, rfl, a3, a4⟩ | ⟨rfl, a2⟩ <;> rcases h' with ⟨j, b1, rfl, b3, b4⟩ | ⟨rfl, b2⟩
  · rcases Nat.lt_trichotomy i j with g | g | g
    · exact absurd a3 (b4 i g)
    · rw [g]
    · exact absurd b3 (a4 j g)
  · exact absurd a3 (b2 i a1)
  · exact absurd b3 (a2 j b1)
  · rfl
theorem c_firstWrong {h : am_H} {bc P : Nat} {bw bs : Nat → Int32} {wh : Nat → Int32} {mi : Nat} {fe fl fog tr sp : Int32} (hB : cBk bc bw bs h) (hP : P ≤ 8) (hbw : ∀ i, i < bc → ∃ k, k < P ∧ bw i = nI k) (hs : h.1 14 = .inr (6, [.ref 15, .ref mi, .int fe, .int fl, .int fog, .int tr, .int sp])) (hw : h.1 15 = iar wh) : am_T M_Book_firstWrong [.ref 117, .ref 14] h (fun r h' => h' = h ∧ ∃ v, r = some (.int v) ∧ isFst (fun i => wh (bw i).toNatClampNeg ≠ bs i) bc v) := by
  obtain ⟨h1, h2, h3, h4⟩ := hB
  (try unfold am_E); unfold am_T
  repeat (first | refine rs [2] rfl rfl rfl rfl ?_ | refine rk rfl rfl ?_ | refine rgoh [2] rfl rfl ?_ | refine rgeta (hi := rfl) (kk := ?_) | refine rialda (hi := rfl) (kk := ?_))
  refine lup (P := fun i => ∀ x, x = nI i → (∀ k, k < i → ¬ wh (bw k).toNatClampNeg ≠ bs k) → am_R M_Book_firstWrong (2, [.ref 117, .ref 14, .int x], []) h _) bc ?_ ?_ 0 nI_0.symm (fun k hk => absurd hk (by omega))
  · rintro x rfl hq
    repeat (first | refine rs [] rfl rfl rfl rfl ?_ | refine rk rfl rfl ?_ | refine rgoh [] rfl rfl ?_ | refine rgeta (hi := rfl) (kk := ?_) | refine rialda (hi := rfl) (kk := ?_))
    (first | refine rif rfl rfl (fun c1 => ?_) (fun c1 => ?_) | refine ric rfl rfl (fun c1 => ?_) (fun c1 => ?_))
    · repeat (first | refine rs [] rfl rfl rfl rfl ?_ | refine rk rfl rfl ?_ | refine rgoh [] rfl rfl ?_ | refine rgeta (hi := rfl) (kk := ?_) | refine rialda (hi := rfl) (kk := ?_))
      refine rret rfl rfl ?_
      exact ⟨rfl, _, rfl, Or.inr ⟨rfl, hq⟩⟩
    · exact absurd (Int32.le_refl _) c1
  · rintro i hi ih x rfl hq
    obtain ⟨k, hk, hbk⟩ := hbw i hi
    have hcl : (bw i).toNatClampNeg = k := by rw [hbk, nI_clamp (by omega)]
    repeat (first | refine rs [] rfl rfl rfl rfl ?_ | refine rk rfl rfl ?_ | refine rgoh [] rfl rfl ?_ | refine rgeta (hi := rfl) (kk := ?_) | refine rialda (hi := rfl) (kk := ?_))
    (first | refine rif rfl rfl (fun c1 => ?_) (fun c1 => ?_) | refine ric rfl rfl (fun c1 => ?_) (fun c1 => ?_))
    · exact absurd hi ((nI_lt_iff (by omega) (by omega)).mp c1)
    · repeat (first | refine rs [] rfl rfl rfl rfl ?_ | refine rk rfl rfl ?_ | refine rgoh [] rfl rfl ?_ | refine rgeta (hi := rfl) (kk := ?_) | refine rialda (hi := rfl) (kk := ?_))
      (first | refine rif rfl rfl (fun c2 => ?_) (fun c2 => ?_) | refine ric rfl rfl (fun c2 => ?_) (fun c2 => ?_))
      · repeat (first | refine rs [2] rfl rfl rfl rfl ?_ | refine rk rfl rfl ?_ | refine rgoh [2] rfl rfl ?_ | refine rgeta (hi := rfl) (kk := ?_) | refine rialda (hi := rfl) (kk := ?_))
        refine ih _ (nI_succ i).symm (fun k' hk' => ?_)
        rcases Nat.lt_or_ge k' i with g | g
        · exact hq k' g
        · rw [show k' = i by omega, hcl]
          exact fun z => z c2
      · repeat (first | refine rs [] rfl rfl rfl rfl ?_ | refine rk rfl rfl ?_ | refine rgoh [] rfl rfl ?_ | refine rgeta (hi := rfl) (kk := ?_) | refine rialda (hi := rfl) (kk := ?_))
        refine rret rfl rfl ?_
        refine ⟨rfl, _, rfl, Or.inl ⟨i, hi, rfl, ?_, hq⟩⟩
        show wh (bw i).toNatClampNeg ≠ bs i
        rw [hcl]
        exact c2
end
section
/-! the class's Witness -/
def cWt (rc : Nat) (rx rh : Nat → Int32) (h : am_H) : Prop := rc ≤ 8 ∧ ∃ (ss : Nat → Int32) (fd : Int32), h.1 113 = .inr (8, [.ref 114, .ref 115, .int (nI rc), .ref 116, .int fd]) ∧ h.1 114 = iar rx ∧ h.1 115 = .inl (.boolean, 8, .inl rh) ∧ h.1 116 = .inl (.int, 37, .inl ss)
/-- it holds the sets hl -/
def cWs (rc : Nat) (rx rh : Nat → Int32) (hl : List Int32) (h : am_H) : Prop := rc ≤ 8 ∧ hl.length ≤ 37 ∧ ∃ (ss : Nat → Int32), h.1 113 = .inr (8, [.ref 114, .ref 115, .int (nI rc), .ref 116, .int (nI hl.length)]) ∧ h.1 114 = iar rx ∧ h.1 115 = .inl (.boolean, 8, .inl rh) ∧ h.1 116 = .inl (.int, 37, .inl ss) ∧ ∀ k v, hl[k]? = some v → ss k = v
theorem cWs.wt {rc : Nat} {rx rh : Nat → Int32} {hl : List Int32} {h : am_H} (q : cWs rc rx rh hl h) : cWt rc rx rh h := by
  obtain ⟨q1, q2, ss, q3, q4, q5, q6, q7⟩ := q
  exact ⟨q1, ss, _, q3, q4, q5, q6⟩
theorem cWt.fr {rc lo hi : Nat} {rx rh : Nat → Int32} {h h' : am_H} (f : am_fr lo hi h h') (hd : 117 ≤ lo ∨ hi ≤ 113) (q : cWt rc rx rh h) : cWt rc rx rh h' := by
  obtain ⟨q1, ss, fd, q3, q4, q5, q6⟩ := q
  exact ⟨q1, ss, fd, by rw [f.2 _ (by omega)]; exact q3, by rw [f.2 _ (by omega)]; exact q4, by rw [f.2 _ (by omega)]; exact q5, by rw [f.2 _ (by omega)]; exact q6⟩
theorem c_Wadd {h : am_H} {rc : Nat} {rx rh : Nat → Int32} {x z : Int32} (hW : cWt rc rx rh h) (hl : rc < 8) : am_T M_Witness_add [.ref 113, .int x, .int z] h (fun r h' => r = some (.int 1) ∧ cWt (rc + 1) (upd rx rc x) (upd rh rc (z &&& 1)) h' ∧ am_fr 113 117 h h') := by
  obtain ⟨h1, ss, fd, h2, h3, h4, h5⟩ := hW
  (try unfold am_E); unfold am_T
  repeat (first | refine rs [] rfl rfl rfl rfl ?_ | refine rk rfl rfl ?_ | refine rgoh [] rfl rfl ?_ | refine rgeta (hi := rfl) (kk := ?_) | refine rialda (hi := rfl) (kk := ?_))
  (first | refine rif rfl rfl (fun c1 => ?_) (fun c1 => ?_) | refine ric rfl rfl (fun c1 => ?_) (fun c1 => ?_))
  · exact absurd c1 (nI_pos (by omega))
  · repeat (first | refine rs [] rfl rfl rfl rfl ?_ | refine rk rfl rfl ?_ | refine rgoh [] rfl rfl ?_ | refine rgeta (hi := rfl) (kk := ?_) | refine rialda (hi := rfl) (kk := ?_))
    (first | refine rif rfl rfl (fun c2 => ?_) (fun c2 => ?_) | refine ric rfl rfl (fun c2 => ?_) (fun c2 => ?_))
    · repeat (first | refine rs [] rfl rfl rfl rfl ?_ | refine rk rfl rfl ?_ | refine rgoh [] rfl rfl ?_ | refine rgeta (hi := rfl) (kk := ?_) | refine rialda (hi := rfl) (kk := ?_))
      refine riasta (hi := rfl) (kk := ?_)
      repeat (first | refine rs [] rfl rfl rfl rfl ?_ | refine rk rfl rfl ?_ | refine rgoh [] rfl rfl ?_ | refine rgeta (hi := rfl) (kk := ?_) | refine rialda (hi := rfl) (kk := ?_))
      refine rbast rfl (by simp (disch := omega) only [am_set_ne]; exact h4) rc (by omega) (by omega) rfl ?_
      repeat (first | refine rs [] rfl rfl rfl rfl ?_ | refine rk rfl rfl ?_ | refine rgoh [] rfl rfl ?_ | refine rgeta (hi := rfl) (kk := ?_) | refine rialda (hi := rfl) (kk := ?_))
      refine rputa (hi := rfl) (kk := ?_)
      repeat (first | refine rs [] rfl rfl rfl rfl ?_ | refine rk rfl rfl ?_ | refine rgoh [] rfl rfl ?_ | refine rgeta (hi := rfl) (kk := ?_) | refine rialda (hi := rfl) (kk := ?_))
      refine rret rfl rfl ?_
      refine ⟨rfl, ⟨by omega, ss, fd, ?_, ?_, ?_, ?_⟩, ?_⟩
      · rw [am_set_eq, ← nI_1]
        rfl
      · simp (disch := omega) only [am_set_ne, am_set_eq]
      · simp (disch := omega) only [am_set_ne, am_set_eq]
      · simp (disch := omega) only [am_set_ne, am_set_eq]
        exact h5
      · exact fr_set (fr_set (fr_set fr_rf (by omega) (by omega)) (by omega) (by omega)) (by omega) (by omega)
    · exfalso
      rw [i8, nI_ltI (by omega) (by omega)] at c2
      omega
theorem c_WaddF {h : am_H} {rc : Nat} {rx rh : Nat → Int32} {x z : Int32} (hW : cWt rc rx rh h) (hl : rc = 8) : am_E M_Witness_add [.ref 113, .int x, .int z] h (some (.int 0)) h := by
  obtain ⟨h1, ss, fd, h2, h3, h4, h5⟩ := hW
  (try unfold am_E); unfold am_T
  repeat (first | refine rs [] rfl rfl rfl rfl ?_ | refine rk rfl rfl ?_ | refine rgoh [] rfl rfl ?_ | refine rgeta (hi := rfl) (kk := ?_) | refine rialda (hi := rfl) (kk := ?_))
  (first | refine rif rfl rfl (fun c1 => ?_) (fun c1 => ?_) | refine ric rfl rfl (fun c1 => ?_) (fun c1 => ?_))
  · exact absurd c1 (nI_pos (by omega))
  · repeat (first | refine rs [] rfl rfl rfl rfl ?_ | refine rk rfl rfl ?_ | refine rgoh [] rfl rfl ?_ | refine rgeta (hi := rfl) (kk := ?_) | refine rialda (hi := rfl) (kk := ?_))
    (first | refine rif rfl rfl (fun c2 => ?_) (fun c2 => ?_) | refine ric rfl rfl (fun c2 => ?_) (fun c2 => ?_))
    · exfalso
      rw [i8, nI_ltI (by omega) (by omega)] at c2
      omega
    · repeat (first | refine rs [] rfl rfl rfl rfl ?_ | refine rk rfl rfl ?_ | refine rgoh [] rfl rfl ?_ | refine rgeta (hi := rfl) (kk := ?_) | refine rialda (hi := rfl) (kk := ?_))
      refine rret rfl rfl ?_
      exact ⟨rfl, rfl⟩
/-- all that ran is so -/
def fitsP (stops : Int32) (rc : Nat) (rx rh : Nat → Int32) : Prop := ∀ i, i < rc → (if bitv stops (rx i) = 1 then (1 : Int32) else 0) = rh i
theorem c_fits {h : am_H} {rc : Nat} {rx rh : Nat → Int32} {stops : Int32} (hW : cWt rc rx rh h) : am_T M_Witness_fits [.ref 113, .int stops] h (fun r h' => h' = h ∧ ((r = some (.int 1) ∧ fitsP stops rc rx rh) ∨ (r = some (.int 0) ∧ ¬ fitsP stops rc rx rh))) := by
  obtain ⟨h1, ss, fd, h2, h3, h4, h5⟩ := hW
  (try unfold am_E); unfold am_T
  repeat (first | refine rs [2] rfl rfl rfl rfl ?_ | refine rk rfl rfl ?_ | refine rgoh [2] rfl rfl ?_ | refine rgeta (hi := rfl) (kk := ?_) | refine rialda (hi := rfl) (kk := ?_))
  refine lup (P := fun i => ∀ x, x = nI i → (∀ k, k < i → (if bitv stops (rx k) = 1 then (1 : Int32) else 0) = rh k) → am_R M_Witness_fits (2, [.ref 113, .int stops, .int x], []) h _) rc ?_ ?_ 0 nI_0.symm (fun k hk => absurd hk (by omega))
  · rintro x rfl hq
    repeat (first | refine rs [] rfl rfl rfl rfl ?_ | refine rk rfl rfl ?_ | refine rgoh [] rfl rfl ?_ | refine rgeta (hi := rfl) (kk := ?_) | refine rialda (hi := rfl) (kk := ?_))
    (first | refine rif rfl rfl (fun c1 => ?_) (fun c1 => ?_) | refine ric rfl rfl (fun c1 => ?_) (fun c1 => ?_))
    · repeat (first | refine rs [] rfl rfl rfl rfl ?_ | refine rk rfl rfl ?_ | refine rgoh [] rfl rfl ?_ | refine rgeta (hi := rfl) (kk := ?_) | refine rialda (hi := rfl) (kk := ?_))
      refine rret rfl rfl ?_
      exact ⟨rfl, Or.inl ⟨rfl, hq⟩⟩
    · exact absurd (Int32.le_refl _) c1
  · rintro i hi ih x rfl hq
    have nx : (if bitv stops (rx i) = 1 then (1 : Int32) else 0) = rh i → am_R M_Witness_fits (2, [.ref 113, .int stops, .int (nI i + 1)], []) h (fun r h' => h' = h ∧ ((r = some (.int 1) ∧ fitsP stops rc rx rh) ∨ (r = some (.int 0) ∧ ¬ fitsP stops rc rx rh))) := by
      intro hz
      refine ih _ (nI_succ i).symm (fun k hk => ?_)
      rcases Nat.lt_or_ge k i with g | g
      · exact hq k g
      · rw [show k = i by omega]
        exact hz
    repeat (first | refine rs [] rfl rfl rfl rfl ?_ | refine rk rfl rfl ?_ | refine rgoh [] rfl rfl ?_ | refine rgeta (hi := rfl) (kk := ?_) | refine rialda (hi := rfl) (kk := ?_))
    (first | refine rif rfl rfl (fun c1 => ?_) (fun c1 => ?_) | refine ric rfl rfl (fun c1 => ?_) (fun c1 => ?_))
    · exact absurd hi ((nI_lt_iff (by omega) (by omega)).mp c1)
    · repeat (first | refine rs [] rfl rfl rfl rfl ?_ | refine rk rfl rfl ?_ | refine rgoh [] rfl rfl ?_ | refine rgeta (hi := rfl) (kk := ?_) | refine rialda (hi := rfl) (kk := ?_))
      refine rcss rfl rfl rfl rfl rfl (c_bit) ?_
      repeat (first | refine rs [] rfl rfl rfl rfl ?_ | refine rk rfl rfl ?_ | refine rgoh [] rfl rfl ?_ | refine rgeta (hi := rfl) (kk := ?_) | refine rialda (hi := rfl) (kk := ?_))
      (first | refine rif rfl rfl (fun c2 => ?_) (fun c2 => ?_) | refine ric rfl rfl (fun c2 => ?_) (fun c2 => ?_))
      · repeat (first | refine rs [] rfl rfl rfl rfl ?_ | refine rk rfl rfl ?_ | refine rgoh [] rfl rfl ?_ | refine rgeta (hi := rfl) (kk := ?_) | refine rialda (hi := rfl) (kk := ?_))
        refine rbald rfl h4 i (by omega) (by omega) rfl ?_
        (first | refine rif rfl rfl (fun c3 => ?_) (fun c3 => ?_) | refine ric rfl rfl (fun c3 => ?_) (fun c3 => ?_))
        · repeat (first | refine rs [2] rfl rfl rfl rfl ?_ | refine rk rfl rfl ?_ | refine rgoh [2] rfl rfl ?_ | refine rgeta (hi := rfl) (kk := ?_) | refine rialda (hi := rfl) (kk := ?_))
          exact nx (by rw [if_pos c2]; exact c3)
        · repeat (first | refine rs [] rfl rfl rfl rfl ?_ | refine rk rfl rfl ?_ | refine rgoh [] rfl rfl ?_ | refine rgeta (hi := rfl) (kk := ?_) | refine rialda (hi := rfl) (kk := ?_))
          refine rret rfl rfl ?_
          refine ⟨rfl, Or.inr ⟨rfl, fun z => c3 ?_⟩⟩
          have := z i hi
          rw [if_pos c2] at this
          exact this
      · repeat (first | refine rs [] rfl rfl rfl rfl ?_ | refine rk rfl rfl ?_ | refine rgoh [] rfl rfl ?_ | refine rgeta (hi := rfl) (kk := ?_) | refine rialda (hi := rfl) (kk := ?_))
        refine rbald rfl h4 i (by omega) (by omega) rfl ?_
        (first | refine rif rfl rfl (fun c3 => ?_) (fun c3 => ?_) | refine ric rfl rfl (fun c3 => ?_) (fun c3 => ?_))
        · repeat (first | refine rs [2] rfl rfl rfl rfl ?_ | refine rk rfl rfl ?_ | refine rgoh [2] rfl rfl ?_ | refine rgeta (hi := rfl) (kk := ?_) | refine rialda (hi := rfl) (kk := ?_))
          exact nx (by rw [if_neg c2]; exact c3)
        · repeat (first | refine rs [] rfl rfl rfl rfl ?_ | refine rk rfl rfl ?_ | refine rgoh [] rfl rfl ?_ | refine rgeta (hi := rfl) (kk := ?_) | refine rialda (hi := rfl) (kk := ?_))
          refine rret rfl rfl ?_
          refine ⟨rfl, Or.inr ⟨rfl, fun z => c3 ?_⟩⟩
          have := z i hi
          rw [if_neg c2] at this
          exact this
end
section
/-! the class's Witness: the sets that fit -/
theorem scW.fr {a w mi l lw lm mt N P lo hi : Nat} {G fe fl fog tr sp : Int32} {mif wa me f : Nat → Int32} {h h' : am_H} (g : am_fr lo hi h h') (hd : ∀ k, k = a ∨ k = w ∨ k = mi ∨ k = l ∨ k = lw ∨ k = mt → k < lo ∨ hi ≤ k) (H : scW a w mi l lw lm mt N P G fe fl fog tr sp mif wa me h f) : scW a w mi l lw lm mt N P G fe fl fog tr sp mif wa me h' f := by
  obtain ⟨h1, h2, h3, h4, h5, h6, h7, h8, h9⟩ := H
  exact ⟨by rw [g.2 _ (hd a (by simp))]; exact h1, by rw [g.2 _ (hd w (by simp))]; exact h2, by rw [g.2 _ (hd mi (by simp))]; exact h3, by rw [g.2 _ (hd l (by simp))]; exact h4, by rw [g.2 _ (hd lw (by simp))]; exact h5, by rw [g.2 _ (hd mt (by simp))]; exact h6, h7, h8, h9⟩
/-- the scene now, with its line -/
abbrev nowW (N P : Nat) (G fe fl fog tr sp : Int32) (mif wa me : Nat → Int32) (h : am_H) (f : Nat → Int32) : Prop := scW 14 15 16 11 12 13 13 N P G fe fl fog tr sp mif wa me h f
theorem nowW.fr {N P lo hi : Nat} {G fe fl fog tr sp : Int32} {mif wa me f : Nat → Int32} {h h' : am_H} (g : am_fr lo hi h h') (hd : 17 ≤ lo ∨ hi ≤ 11) (H : nowW N P G fe fl fog tr sp mif wa me h f) : nowW N P G fe fl fog tr sp mif wa me h' f := scW.fr g (fun k hk => by omega) H
noncomputable def hst (ok : Int32 → Prop) (hl : List Int32) (c : Int32) : List Int32 := @ite _ (ok c) (Classical.propDecidable _) (hl ++ [c]) hl
theorem hst_pos {ok : Int32 → Prop} {hl : List Int32} {c : Int32} (h : ok c) : hst ok hl c = hl ++ [c] := by
  unfold hst
  rw [if_pos h]
theorem hst_neg {ok : Int32 → Prop} {hl : List Int32} {c : Int32} (h : ¬ ok c) : hst ok hl c = hl := by
  unfold hst
  rw [if_neg h]
theorem hst_len {ok : Int32 → Prop} {hl : List Int32} {c : Int32} : (hst ok hl c).length ≤ hl.length + 1 := by
  by_cases h : ok c
  · rw [hst_pos h, List.length_append]
    simp
  · rw [hst_neg h]
    omega
theorem i37 : (37 : Int32) = nI 37 := by decide
section CFind
variable {h : am_H} {N P rc : Nat} {G fe fl fog tr sp : Int32} {mif wa me f rx rh : Nat → Int32}
theorem c_tryHopeful {hl : List Int32} {c : Int32} {ok : Int32 → Prop} (hok : ok = fun c => fitsP (stn c G fog fe fl mif f N P) rc rx rh) (hW : cWs rc rx rh hl h) (hlen : hl.length < 37) (H : nowW N P G fe fl fog tr sp mif wa me h f) : am_T M_Witness_tryHopeful [.ref 113, .ref 11, .ref 14, .int c] h (fun r h' => r = none ∧ cWs rc rx rh (hst ok hl c) h' ∧ am_fr 113 117 h h') := by
  obtain ⟨q1, q2, ss, q3, q4, q5, q6, q7⟩ := id hW
  obtain ⟨h1, h2, h3, h4, h5, h6, -, h7, h8⟩ := id H
  (try unfold am_E); unfold am_T
  repeat (first | refine rs [] rfl rfl rfl rfl ?_ | refine rk rfl rfl ?_ | refine rgoh [] rfl rfl ?_ | refine rgeta (hi := rfl) (kk := ?_) | refine rialda (hi := rfl) (kk := ?_))
  (first | refine rif rfl rfl (fun c1 => ?_) (fun c1 => ?_) | refine ric rfl rfl (fun c1 => ?_) (fun c1 => ?_))
  · exfalso
    rw [i37, nI_leI (by omega) (by omega)] at c1
    omega
  · repeat (first | refine rs [] rfl rfl rfl rfl ?_ | refine rk rfl rfl ?_ | refine rgoh [] rfl rfl ?_ | refine rgeta (hi := rfl) (kk := ?_) | refine rialda (hi := rfl) (kk := ?_))
    (first | refine rcvs rfl rfl rfl rfl rfl (by first | assumption | (simp (disch := omega) only [am_set_ne, am_set_eq]; first | assumption | rfl)) rfl (c_stopsOfNext H) ?_ | refine rcvn rfl rfl rfl rfl rfl (by first | assumption | (simp (disch := omega) only [am_set_ne, am_set_eq]; first | assumption | rfl)) rfl (c_stopsOfNext H) ?_)
    refine rcvt rfl rfl rfl rfl rfl (by first | assumption | (simp (disch := omega) only [am_set_ne, am_set_eq]; first | assumption | rfl)) rfl (c_fits hW.wt) ?_
    rintro r h' ⟨rfl, hr⟩
    rcases hr with ⟨rfl, hr⟩ | ⟨rfl, hr⟩
    · have hr : ok c := by rw [hok]; exact hr
      show am_R M_Witness_tryHopeful (10, _, [.int 1]) h' _
      (first | refine rift rfl rfl ?_ | refine riff rfl rfl ?_ | refine rict rfl rfl ?_ | refine ricf rfl rfl ?_)
      repeat (first | refine rs [] rfl rfl rfl rfl ?_ | refine rk rfl rfl ?_ | refine rgoh [] rfl rfl ?_ | refine rgeta (hi := rfl) (kk := ?_) | refine rialda (hi := rfl) (kk := ?_))
      refine riasta (hi := rfl) (kk := ?_)
      repeat (first | refine rs [] rfl rfl rfl rfl ?_ | refine rk rfl rfl ?_ | refine rgoh [] rfl rfl ?_ | refine rgeta (hi := rfl) (kk := ?_) | refine rialda (hi := rfl) (kk := ?_))
      refine rputa (hi := rfl) (kk := ?_)
      repeat (first | refine rs [] rfl rfl rfl rfl ?_ | refine rk rfl rfl ?_ | refine rgoh [] rfl rfl ?_ | refine rgeta (hi := rfl) (kk := ?_) | refine rialda (hi := rfl) (kk := ?_))
      refine rret rfl rfl ?_
      rw [hst_pos hr]
      refine ⟨rfl, ⟨q1, by rw [List.length_append]; simp; omega, upd ss hl.length c, ?_, ?_, ?_, ?_, fun k v hk => ?_⟩, ?_⟩
      · rw [am_set_eq, List.length_append]
        rw [show hl.length + [c].length = hl.length + 1 from rfl, ← nI_1]
        rfl
      · simp (disch := omega) only [am_set_ne]
        exact q4
      · simp (disch := omega) only [am_set_ne]
        exact q5
      · simp (disch := omega) only [am_set_ne, am_set_eq]
      · rcases Nat.lt_or_ge k hl.length with g | g
        · rw [List.getElem?_append_left g] at hk
          rw [pk_un (by omega)]
          exact q7 k v hk
        · rw [List.getElem?_append_right g] at hk
          have h0 : k - hl.length < 1 := (List.getElem?_eq_some_iff.mp hk).1
          rw [show k - hl.length = 0 by omega] at hk
          cases hk
          rw [show k = hl.length by omega]
          exact pk_us
      · exact fr_set (fr_set fr_rf (by omega) (by omega)) (by omega) (by omega)
    · have hr : ¬ ok c := by rw [hok]; exact hr
      show am_R M_Witness_tryHopeful (10, _, [.int 0]) h' _
      (first | refine rift rfl rfl ?_ | refine riff rfl rfl ?_ | refine rict rfl rfl ?_ | refine ricf rfl rfl ?_)
      repeat (first | refine rs [] rfl rfl rfl rfl ?_ | refine rk rfl rfl ?_ | refine rgoh [] rfl rfl ?_ | refine rgeta (hi := rfl) (kk := ?_) | refine rialda (hi := rfl) (kk := ?_))
      refine rret rfl rfl ?_
      rw [hst_neg hr]
      exact ⟨rfl, hW, fr_rf⟩
/-- the sets of persons, fewest first, then rising, that fit -/
noncomputable def hop1 (ok : Int32 → Prop) (P : Nat) : List Int32 := fo (fun p l => hst ok l (sh1 (nI p))) P (hst ok [] 0)
noncomputable def hop2 (ok : Int32 → Prop) (P : Nat) : List Int32 := fo (fun p l => fo (fun q l => hst ok l (sh1 (nI p) ||| sh1 (nI q))) p l) P (hop1 ok P)
def tri : Nat → Nat
  | 0 => 0
  | n + 1 => tri n + n
theorem tri_mono {a b : Nat} (h : a ≤ b) : tri a ≤ tri b := by
  induction h with
  | refl => exact Nat.le_refl _
  | step _ ih => exact Nat.le_trans ih (Nat.le_add_right _ _)
theorem tri8 {a : Nat} (h : a ≤ 8) : tri a ≤ 28 := Nat.le_trans (tri_mono h) (by decide)
theorem fo_len {F : Nat → List Int32 → List Int32} (hF : ∀ p l, (F p l).length ≤ l.length + 1) (n : Nat) (l : List Int32) : (fo F n l).length ≤ l.length + n := by
  induction n with
  | zero => exact Nat.le_refl _
  | succ n ih =>
    rw [fo_succ]
    have := hF n (fo F n l)
    omega
theorem hop1_len (ok : Int32 → Prop) (i P : Nat) : (fo (fun p l => hst ok l (sh1 (nI p))) i (hst ok [] 0)).length ≤ 1 + i := by
  have h1 := fo_len (F := fun p l => hst ok l (sh1 (nI p))) (fun p l => hst_len) i (hst ok [] 0)
  have h2 : (hst ok [] 0).length ≤ 1 := hst_len
  omega
theorem hop2_len (ok : Int32 → Prop) (i P : Nat) : (fo (fun p l => fo (fun q l => hst ok l (sh1 (nI p) ||| sh1 (nI q))) p l) i (hop1 ok P)).length ≤ 1 + P + tri i := by
  induction i with
  | zero =>
    have := hop1_len ok P P
    exact this
  | succ i ih =>
    rw [fo_succ]
    have := fo_len (F := fun q l => hst ok l (sh1 (nI i) ||| sh1 (nI q))) (fun p l => hst_len) i (fo (fun p l => fo (fun q l => hst ok l (sh1 (nI p) ||| sh1 (nI q))) p l) i (hop1 ok P))
    show _ ≤ 1 + P + (tri i + i)
    omega
set_option maxHeartbeats 1000000 in
theorem c_find {ok : Int32 → Prop} (hok : ok = fun c => fitsP (stn c G fog fe fl mif f N P) rc rx rh) (hW : cWt rc rx rh h) (H : nowW N P G fe fl fog tr sp mif wa me h f) : am_T M_Witness_find [.ref 113, .ref 11, .ref 14] h (fun r h' => r = some (.int (nI (hop2 ok P).length)) ∧ cWs rc rx rh (hop2 ok P) h' ∧ am_fr 113 117 h h') := by
  have hP : P ≤ 8 := H.2.2.2.2.2.2.2.2
  obtain ⟨q1, ss, fd, q3, q4, q5, q6⟩ := hW
  (try unfold am_E); unfold am_T
  repeat (first | refine rs [] rfl rfl rfl rfl ?_ | refine rk rfl rfl ?_ | refine rgoh [] rfl rfl ?_ | refine rgeta (hi := rfl) (kk := ?_) | refine rialda (hi := rfl) (kk := ?_))
  refine rputa (hi := rfl) (kk := ?_)
  have hW0 : cWs rc rx rh [] (am_set h 113 (.inr (8, [Value.ref 114, .ref 115, .int (nI rc), .ref 116, .int fd].set 4 (.int 0)))) := by
    refine ⟨q1, by simp, ss, am_set_eq, ?_, ?_, ?_, fun k v hk => by simp at hk⟩
    · rw [am_set_ne (by omega)]; exact q4
    · rw [am_set_ne (by omega)]; exact q5
    · rw [am_set_ne (by omega)]; exact q6
  have F0 : am_fr 113 117 h (am_set h 113 (.inr (8, [Value.ref 114, .ref 115, .int (nI rc), .ref 116, .int fd].set 4 (.int 0)))) := fr_set fr_rf (by omega) (by omega)
  generalize am_set h 113 (.inr (8, [Value.ref 114, .ref 115, .int (nI rc), .ref 116, .int fd].set 4 (.int 0))) = h0 at *
  have hx0 : ∃ z, h0.1 113 = .inr (8, z) := by obtain ⟨-, -, s0, e, -⟩ := hW0; exact ⟨_, e⟩
  obtain ⟨z0, hx0⟩ := hx0
  repeat (first | refine rs [10] rfl rfl rfl rfl ?_ | refine rk rfl rfl ?_ | refine rgoh [10] rfl rfl ?_ | refine rgeta (hi := rfl) (kk := ?_) | refine rialda (hi := rfl) (kk := ?_))
  refine rcvt rfl rfl rfl rfl rfl hx0 rfl (c_tryHopeful hok hW0 (by simp) (H.fr F0 (by omega))) ?_
  rintro r h1 ⟨rfl, hW1, F1⟩
  have F1 := fr_tr F0 F1 (Nat.le_refl _) (Nat.le_refl _)
  show am_R M_Witness_find (8, _, []) h1 _
  repeat (first | refine rs [10] rfl rfl rfl rfl ?_ | refine rk rfl rfl ?_ | refine rgoh [10] rfl rfl ?_ | refine rgeta (hi := rfl) (kk := ?_) | refine rialda (hi := rfl) (kk := ?_))
  suffices hs : ∀ x, x = nI 0 → ∀ h1, cWs rc rx rh (fo (fun p l => hst ok l (sh1 (nI p))) 0 (hst ok [] 0)) h1 → am_fr 113 117 h h1 → am_R M_Witness_find (10, [.ref 113, .ref 11, .ref 14, .int x, .null], []) h1 _ from hs 0 nI_0.symm h1 hW1 F1
  refine lup (P := fun i => ∀ x, x = nI i → ∀ h1, cWs rc rx rh (fo (fun p l => hst ok l (sh1 (nI p))) i (hst ok [] 0)) h1 → am_fr 113 117 h h1 → am_R M_Witness_find (10, [.ref 113, .ref 11, .ref 14, .int x, .null], []) h1 _) P ?_ ?_
  · rintro x rfl h1 hW1 F1
    obtain ⟨h1', h2, h3, h4, h5, h6, -⟩ := H.fr F1 (by omega)
    repeat (first | refine rs [] rfl rfl rfl rfl ?_ | refine rk rfl rfl ?_ | refine rgoh [] rfl rfl ?_ | refine rgeta (hi := rfl) (kk := ?_) | refine rialda (hi := rfl) (kk := ?_))
    (first | refine rif rfl rfl (fun c1 => ?_) (fun c1 => ?_) | refine ric rfl rfl (fun c1 => ?_) (fun c1 => ?_))
    · clear c1
      repeat (first | refine rs [25] rfl rfl rfl rfl ?_ | refine rk rfl rfl ?_ | refine rgoh [25] rfl rfl ?_ | refine rgeta (hi := rfl) (kk := ?_) | refine rialda (hi := rfl) (kk := ?_))
      suffices hs : ∀ i, i ≤ P → (P = 0 → i = 0) → ∀ x, (x = nI i ∨ (x = 1 ∧ i = 0 ∧ P = 0)) → ∀ v4 h1, cWs rc rx rh (fo (fun p l => fo (fun q l => hst ok l (sh1 (nI p) ||| sh1 (nI q))) p l) i (hop1 ok P)) h1 → am_fr 113 117 h h1 → am_R M_Witness_find (25, [.ref 113, .ref 11, .ref 14, .int x, v4], []) h1 _ by
        by_cases hp : P = 0
        · exact hs 0 (by omega) (fun _ => rfl) 1 (Or.inr ⟨rfl, rfl, hp⟩) _ h1 hW1 F1
        · exact hs 1 (by omega) (fun q => absurd q hp) 1 (Or.inl i1) _ h1 hW1 F1
      intro i hi
      obtain ⟨d, hd⟩ : ∃ d, d = P - i := ⟨_, rfl⟩
      induction d generalizing i with
      | zero =>
        obtain rfl : i = P := by omega
        intro hp0 x hx v4 h1 hW1 F1
        obtain ⟨h1', h2, h3, h4, h5, h6, -⟩ := H.fr F1 (by omega)
        obtain ⟨w1, w2, w3, w4, w5⟩ := id hW1
        repeat (first | refine rs [] rfl rfl rfl rfl ?_ | refine rk rfl rfl ?_ | refine rgoh [] rfl rfl ?_ | refine rgeta (hi := rfl) (kk := ?_) | refine rialda (hi := rfl) (kk := ?_))
        (first | refine rif rfl rfl (fun c1 => ?_) (fun c1 => ?_) | refine ric rfl rfl (fun c1 => ?_) (fun c1 => ?_))
        · repeat (first | refine rs [] rfl rfl rfl rfl ?_ | refine rk rfl rfl ?_ | refine rgoh [] rfl rfl ?_ | refine rgeta (hi := rfl) (kk := ?_) | refine rialda (hi := rfl) (kk := ?_))
          refine rret rfl rfl ?_
          exact ⟨rfl, hW1, F1⟩
        · exfalso
          apply c1
          rcases hx with rfl | ⟨rfl, -, rfl⟩
          · exact Int32.le_refl _
          · decide
      | succ d ih =>
        intro hp0 x hx v4 h1 hW1 F1
        obtain rfl : x = nI i := by
          rcases hx with q | ⟨-, q1, q2⟩
          · exact q
          · omega
        obtain ⟨h1', h2, h3, h4, h5, h6, -⟩ := H.fr F1 (by omega)
        repeat (first | refine rs [] rfl rfl rfl rfl ?_ | refine rk rfl rfl ?_ | refine rgoh [] rfl rfl ?_ | refine rgeta (hi := rfl) (kk := ?_) | refine rialda (hi := rfl) (kk := ?_))
        (first | refine rif rfl rfl (fun c1 => ?_) (fun c1 => ?_) | refine ric rfl rfl (fun c1 => ?_) (fun c1 => ?_))
        · exfalso
          rw [nI_leI (by omega) (by omega)] at c1
          omega
        · repeat (first | refine rs [31] rfl rfl rfl rfl ?_ | refine rk rfl rfl ?_ | refine rgoh [31] rfl rfl ?_ | refine rgeta (hi := rfl) (kk := ?_) | refine rialda (hi := rfl) (kk := ?_))
          suffices hs : ∀ y, y = nI 0 → ∀ h1, cWs rc rx rh (fo (fun q l => hst ok l (sh1 (nI i) ||| sh1 (nI q))) 0 (fo (fun p l => fo (fun q l => hst ok l (sh1 (nI p) ||| sh1 (nI q))) p l) i (hop1 ok P))) h1 → am_fr 113 117 h h1 → am_R M_Witness_find (31, [.ref 113, .ref 11, .ref 14, .int (nI i), .int y], []) h1 _ from hs 0 nI_0.symm h1 hW1 F1
          refine lup (P := fun q0 => ∀ y, y = nI q0 → ∀ h1, cWs rc rx rh (fo (fun q l => hst ok l (sh1 (nI i) ||| sh1 (nI q))) q0 (fo (fun p l => fo (fun q l => hst ok l (sh1 (nI p) ||| sh1 (nI q))) p l) i (hop1 ok P))) h1 → am_fr 113 117 h h1 → am_R M_Witness_find (31, [.ref 113, .ref 11, .ref 14, .int (nI i), .int y], []) h1 _) i ?_ ?_
          · rintro y rfl h1 hW1 F1
            repeat (first | refine rs [] rfl rfl rfl rfl ?_ | refine rk rfl rfl ?_ | refine rgoh [] rfl rfl ?_ | refine rgeta (hi := rfl) (kk := ?_) | refine rialda (hi := rfl) (kk := ?_))
            (first | refine rif rfl rfl (fun c2 => ?_) (fun c2 => ?_) | refine ric rfl rfl (fun c2 => ?_) (fun c2 => ?_))
            · repeat (first | refine rs [25] rfl rfl rfl rfl ?_ | refine rk rfl rfl ?_ | refine rgoh [25] rfl rfl ?_ | refine rgeta (hi := rfl) (kk := ?_) | refine rialda (hi := rfl) (kk := ?_))
              refine ih (i + 1) (by omega) (by omega) (fun q => by omega) _ (Or.inl (nI_succ i).symm) _ h1 ?_ F1
              exact hW1
            · exact absurd (Int32.le_refl _) c2
          · rintro q0 hq0 ihq y rfl h1 hW1 F1
            repeat (first | refine rs [] rfl rfl rfl rfl ?_ | refine rk rfl rfl ?_ | refine rgoh [] rfl rfl ?_ | refine rgeta (hi := rfl) (kk := ?_) | refine rialda (hi := rfl) (kk := ?_))
            (first | refine rif rfl rfl (fun c2 => ?_) (fun c2 => ?_) | refine ric rfl rfl (fun c2 => ?_) (fun c2 => ?_))
            · exfalso
              rw [nI_leI (by omega) (by omega)] at c2
              omega
            · repeat (first | refine rs [] rfl rfl rfl rfl ?_ | refine rk rfl rfl ?_ | refine rgoh [] rfl rfl ?_ | refine rgeta (hi := rfl) (kk := ?_) | refine rialda (hi := rfl) (kk := ?_))
              obtain ⟨w1, w2, w3, w4, w5⟩ := id hW1
              have hl1 := hop2_len ok i P
              have hl2 := fo_len (F := fun q l => hst ok l (sh1 (nI i) ||| sh1 (nI q))) (fun p l => hst_len) q0 (fo (fun p l => fo (fun q l => hst ok l (sh1 (nI p) ||| sh1 (nI q))) p l) i (hop1 ok P))
              have hl3 := tri8 (a := i + 1) (by omega)
              have hl4 : tri (i + 1) = tri i + i := rfl
              refine rcvt rfl rfl rfl rfl rfl w4 rfl (c_tryHopeful hok hW1 (by omega) (H.fr F1 (by omega))) ?_
              rintro r h2 ⟨rfl, hW2, F2⟩
              have F2 := fr_tr F1 F2 (Nat.le_refl _) (Nat.le_refl _)
              show am_R M_Witness_find (45, _, []) h2 _
              repeat (first | refine rs [31] rfl rfl rfl rfl ?_ | refine rk rfl rfl ?_ | refine rgoh [31] rfl rfl ?_ | refine rgeta (hi := rfl) (kk := ?_) | refine rialda (hi := rfl) (kk := ?_))
              exact ihq _ (nI_succ q0).symm h2 hW2 F2
    · exact absurd (Int32.le_refl _) c1
  · rintro i hi ih x rfl h1 hW1 F1
    obtain ⟨h1', h2, h3, h4, h5, h6, -⟩ := H.fr F1 (by omega)
    repeat (first | refine rs [] rfl rfl rfl rfl ?_ | refine rk rfl rfl ?_ | refine rgoh [] rfl rfl ?_ | refine rgeta (hi := rfl) (kk := ?_) | refine rialda (hi := rfl) (kk := ?_))
    (first | refine rif rfl rfl (fun c1 => ?_) (fun c1 => ?_) | refine ric rfl rfl (fun c1 => ?_) (fun c1 => ?_))
    · exact absurd hi ((nI_lt_iff (by omega) (by omega)).mp c1)
    · repeat (first | refine rs [] rfl rfl rfl rfl ?_ | refine rk rfl rfl ?_ | refine rgoh [] rfl rfl ?_ | refine rgeta (hi := rfl) (kk := ?_) | refine rialda (hi := rfl) (kk := ?_))
      obtain ⟨w1, w2, w3, w4, w5⟩ := id hW1
      have hl1 := hop1_len ok i P
      refine rcvt rfl rfl rfl rfl rfl w4 rfl (c_tryHopeful hok hW1 (by omega) (H.fr F1 (by omega))) ?_
      rintro r h2 ⟨rfl, hW2, F2⟩
      have F2 := fr_tr F1 F2 (Nat.le_refl _) (Nat.le_refl _)
      show am_R M_Witness_find (21, _, []) h2 _
      repeat (first | refine rs [10] rfl rfl rfl rfl ?_ | refine rk rfl rfl ?_ | refine rgoh [10] rfl rfl ?_ | refine rgeta (hi := rfl) (kk := ?_) | refine rialda (hi := rfl) (kk := ?_))
      exact ih _ (nI_succ i).symm h2 hW2 F2
def wth (hl : List Int32) (p : Int32) : Int32 := fo (fun i w => w + bitv (hl.getD i 0) p) hl.length 0
theorem c_greatestPart {hl : List Int32} {p : Int32} (hW : cWs rc rx rh hl h) : am_E M_Witness_greatestPart [.ref 113, .int p] h (some (.int (mxI (wth hl p) (nI hl.length - wth hl p)))) h := by
  obtain ⟨q1, q2, ss, q3, q4, q5, q6, q7⟩ := hW
  (try unfold am_E); unfold am_T
  repeat (first | refine rs [4] rfl rfl rfl rfl ?_ | refine rk rfl rfl ?_ | refine rgoh [4] rfl rfl ?_ | refine rgeta (hi := rfl) (kk := ?_) | refine rialda (hi := rfl) (kk := ?_))
  refine lup (P := fun i => ∀ x, x = nI i → am_R M_Witness_greatestPart (4, [.ref 113, .int p, .int (fo (fun i w => w + bitv (hl.getD i 0) p) i 0), .int x], []) h _) hl.length ?_ ?_ 0 nI_0.symm
  · rintro x rfl
    repeat (first | refine rs [] rfl rfl rfl rfl ?_ | refine rk rfl rfl ?_ | refine rgoh [] rfl rfl ?_ | refine rgeta (hi := rfl) (kk := ?_) | refine rialda (hi := rfl) (kk := ?_))
    (first | refine rif rfl rfl (fun c1 => ?_) (fun c1 => ?_) | refine ric rfl rfl (fun c1 => ?_) (fun c1 => ?_))
    · repeat (first | refine rs [] rfl rfl rfl rfl ?_ | refine rk rfl rfl ?_ | refine rgoh [] rfl rfl ?_ | refine rgeta (hi := rfl) (kk := ?_) | refine rialda (hi := rfl) (kk := ?_))
      refine rret rfl rfl ?_
      exact ⟨rfl, rfl⟩
    · exact absurd (Int32.le_refl _) c1
  · rintro i hi ih x rfl
    repeat (first | refine rs [] rfl rfl rfl rfl ?_ | refine rk rfl rfl ?_ | refine rgoh [] rfl rfl ?_ | refine rgeta (hi := rfl) (kk := ?_) | refine rialda (hi := rfl) (kk := ?_))
    (first | refine rif rfl rfl (fun c1 => ?_) (fun c1 => ?_) | refine ric rfl rfl (fun c1 => ?_) (fun c1 => ?_))
    · exact absurd hi ((nI_lt_iff (by omega) (by omega)).mp c1)
    · repeat (first | refine rs [] rfl rfl rfl rfl ?_ | refine rk rfl rfl ?_ | refine rgoh [] rfl rfl ?_ | refine rgeta (hi := rfl) (kk := ?_) | refine rialda (hi := rfl) (kk := ?_))
      refine rcss rfl rfl rfl rfl rfl (c_bit) ?_
      repeat (first | refine rs [4] rfl rfl rfl rfl ?_ | refine rk rfl rfl ?_ | refine rgoh [4] rfl rfl ?_ | refine rgeta (hi := rfl) (kk := ?_) | refine rialda (hi := rfl) (kk := ?_))
      have := ih _ (nI_succ i).symm
      rw [fo_succ] at this
      have e : ss i = hl.getD i 0 := by
        rw [q7 i hl[i] (List.getElem?_eq_getElem hi), List.getD_eq_getElem?_getD, List.getElem?_eq_getElem hi]
        rfl
      rw [e]
      exact this
end CFind
end
section
/-! reading a text: what it says -/
def skp (len : Nat) (tx : Nat → Int32) : Nat → Nat → Nat
  | 0, i => i
  | n + 1, i => if tx i = 32 then skp len tx n (i + 1) else i
/-- behind blanks -/
def sk (len : Nat) (tx : Nat → Int32) (i : Nat) : Nat := skp len tx (len - i) i
theorem sk_end {len : Nat} {tx : Nat → Int32} {i : Nat} (h : len ≤ i) : sk len tx i = i := by
  unfold sk
  rw [show len - i = 0 by omega]
  rfl
theorem sk_bl {len : Nat} {tx : Nat → Int32} {i : Nat} (h : i < len) (hb : tx i = 32) : sk len tx i = sk len tx (i + 1) := by
  unfold sk
  rw [show len - i = (len - (i + 1)) + 1 by omega]
  show (if tx i = 32 then _ else _) = _
  rw [if_pos hb]
theorem sk_no {len : Nat} {tx : Nat → Int32} {i : Nat} (h : i < len) (hb : ¬ tx i = 32) : sk len tx i = i := by
  unfold sk
  rw [show len - i = (len - (i + 1)) + 1 by omega]
  show (if tx i = 32 then _ else _) = _
  rw [if_neg hb]
theorem sk_le {len : Nat} {tx : Nat → Int32} {i : Nat} (h : i ≤ len) : i ≤ sk len tx i ∧ sk len tx i ≤ len := by
  obtain ⟨d, hd⟩ : ∃ d, d = len - i := ⟨_, rfl⟩
  induction d generalizing i with
  | zero => rw [sk_end (by omega)]; omega
  | succ d ih =>
    by_cases hb : tx i = 32
    · rw [sk_bl (by omega) hb]
      have := ih (i := i + 1) (by omega) (by omega)
      omega
    · rw [sk_no (by omega) hb]
      omega
abbrev fig (c : Int32) : Prop := ¬ c < 48 ∧ ¬ 57 < c
def ndc (tx : Nat → Int32) : Nat → Nat → Nat
  | 0, _ => 0
  | n + 1, i => if fig (tx i) then ndc tx n (i + 1) + 1 else 0
/-- how many figures stand there -/
def nd (len : Nat) (tx : Nat → Int32) (i : Nat) : Nat := ndc tx (len - i) i
theorem nd_end {len : Nat} {tx : Nat → Int32} {i : Nat} (h : len ≤ i) : nd len tx i = 0 := by
  unfold nd
  rw [show len - i = 0 by omega]
  rfl
theorem nd_fig {len : Nat} {tx : Nat → Int32} {i : Nat} (h : i < len) (hb : fig (tx i)) : nd len tx i = nd len tx (i + 1) + 1 := by
  unfold nd
  rw [show len - i = (len - (i + 1)) + 1 by omega]
  show (if fig (tx i) then _ else _) = _
  rw [if_pos hb]
theorem nd_no {len : Nat} {tx : Nat → Int32} {i : Nat} (h : i < len) (hb : ¬ fig (tx i)) : nd len tx i = 0 := by
  unfold nd
  rw [show len - i = (len - (i + 1)) + 1 by omega]
  show (if fig (tx i) then _ else _) = _
  rw [if_neg hb]
theorem nd_le {len : Nat} {tx : Nat → Int32} {i : Nat} (h : i ≤ len) : i + nd len tx i ≤ len := by
  obtain ⟨d, hd⟩ : ∃ d, d = len - i := ⟨_, rfl⟩
  induction d generalizing i with
  | zero => rw [nd_end (by omega)]; omega
  | succ d ih =>
    by_cases hb : fig (tx i)
    · rw [nd_fig (by omega) hb]
      have := ih (i := i + 1) (by omega) (by omega)
      omega
    · rw [nd_no (by omega) hb]
      omega
/-- its first three figures -/
def val3 (tx : Nat → Int32) (i k : Nat) : Int32 := fo (fun q v => if q < 3 then v * 10 + tx (i + q) - 48 else v) k 0
/-- a fault's number and place, or what comes behind it and its value -/
def numS (len : Nat) (tx : Nat → Int32) (i : Nat) (lo hi : Int32) : (Nat × Nat) ⊕ (Nat × Int32) :=
  if nd len tx (sk len tx i) = 0 then .inl (1, sk len tx i)
  else if 3 < nd len tx (sk len tx i) ∨ val3 tx (sk len tx i) (nd len tx (sk len tx i)) < lo ∨ hi < val3 tx (sk len tx i) (nd len tx (sk len tx i)) then .inl (2, sk len tx i)
  else .inr (sk len tx i + nd len tx (sk len tx i), val3 tx (sk len tx i) (nd len tx (sk len tx i)))
def sgS (len : Nat) (tx : Nat → Int32) (i : Nat) (c : Int32) : (Nat × Nat) ⊕ Nat := if ltr len tx (sk len tx i) = c then .inr (sk len tx i + 1) else .inl (1, sk len tx i)
/-! the class's Reader -/
abbrev rdc (kd pl i nu : Int32) : am_C := .inr (5, [.ref 5, .ref 8, .int kd, .int pl, .int i, .int nu])
theorem cTx.fr {len lo hi : Nat} {tx : Nat → Int32} {h h' : am_H} (f : am_fr lo hi h h') (hd : 4 ≤ lo ∨ hi ≤ 2) (q : cTx len tx h) : cTx len tx h' := by
  obtain ⟨q1, q2, q3⟩ := q
  exact ⟨q1, by rw [f.2 _ (by omega)]; exact q2, by rw [f.2 _ (by omega)]; exact q3⟩
theorem cTx.set {len a : Nat} {tx : Nat → Int32} {h : am_H} {c : am_C} (ha : 4 ≤ a) (q : cTx len tx h) : cTx len tx (am_set h a c) := q.fr (lo := a) (hi := a + 1) (fr_set fr_rf (by omega) (by omega)) (by omega)
section CRead
variable {h : am_H} {len : Nat} {tx : Nat → Int32} {kd pl nu : Int32}
theorem c_blame0 {i k w : Int32} (hr : h.1 4 = rdc 0 pl i nu) : am_E M_Reader_blame [.ref 4, .int k, .int w] h none (am_set h 4 (rdc k w i nu)) := by
  (try unfold am_E); unfold am_T
  repeat (first | refine rs [] rfl rfl rfl rfl ?_ | refine rk rfl rfl ?_ | refine rgoh [] rfl rfl ?_ | refine rgeta (hi := rfl) (kk := ?_) | refine rialda (hi := rfl) (kk := ?_))
  (first | refine rift rfl rfl ?_ | refine riff rfl rfl ?_ | refine rict rfl rfl ?_ | refine ricf rfl rfl ?_)
  repeat (first | refine rs [] rfl rfl rfl rfl ?_ | refine rk rfl rfl ?_ | refine rgoh [] rfl rfl ?_ | refine rgeta (hi := rfl) (kk := ?_) | refine rialda (hi := rfl) (kk := ?_))
  refine rputa (hi := rfl) (kk := ?_)
  repeat (first | refine rs [] rfl rfl rfl rfl ?_ | refine rk rfl rfl ?_ | refine rgoh [] rfl rfl ?_ | refine rgeta (hi := rfl) (kk := ?_) | refine rialda (hi := rfl) (kk := ?_))
  refine rret rfl rfl ?_
  exact ⟨rfl, by rw [am_set_set]; rfl⟩
theorem c_blame1 {i k w : Int32} (hk : kd ≠ 0) (hr : h.1 4 = rdc kd pl i nu) : am_E M_Reader_blame [.ref 4, .int k, .int w] h none h := by
  (try unfold am_E); unfold am_T
  repeat (first | refine rs [] rfl rfl rfl rfl ?_ | refine rk rfl rfl ?_ | refine rgoh [] rfl rfl ?_ | refine rgeta (hi := rfl) (kk := ?_) | refine rialda (hi := rfl) (kk := ?_))
  (first | refine rif rfl rfl (fun c1 => ?_) (fun c1 => ?_) | refine ric rfl rfl (fun c1 => ?_) (fun c1 => ?_))
  · exact absurd c1 hk
  · refine rret rfl rfl ?_
    exact ⟨rfl, rfl⟩
theorem c_isFigure {c : Int32} : am_E M_Reader_isFigure [.int c] h (some (.int (if fig c then 1 else 0))) h := by
  (try unfold am_E); unfold am_T
  repeat (first | refine rs [] rfl rfl rfl rfl ?_ | refine rk rfl rfl ?_ | refine rgoh [] rfl rfl ?_ | refine rgeta (hi := rfl) (kk := ?_) | refine rialda (hi := rfl) (kk := ?_))
  (first | refine rif rfl rfl (fun c1 => ?_) (fun c1 => ?_) | refine ric rfl rfl (fun c1 => ?_) (fun c1 => ?_))
  · repeat (first | refine rs [] rfl rfl rfl rfl ?_ | refine rk rfl rfl ?_ | refine rgoh [] rfl rfl ?_ | refine rgeta (hi := rfl) (kk := ?_) | refine rialda (hi := rfl) (kk := ?_))
    refine rret rfl rfl ?_
    exact ⟨by rw [if_neg (fun q => q.1 c1)], rfl⟩
  · repeat (first | refine rs [] rfl rfl rfl rfl ?_ | refine rk rfl rfl ?_ | refine rgoh [] rfl rfl ?_ | refine rgeta (hi := rfl) (kk := ?_) | refine rialda (hi := rfl) (kk := ?_))
    (first | refine rif rfl rfl (fun c2 => ?_) (fun c2 => ?_) | refine ric rfl rfl (fun c2 => ?_) (fun c2 => ?_))
    · repeat (first | refine rs [] rfl rfl rfl rfl ?_ | refine rk rfl rfl ?_ | refine rgoh [] rfl rfl ?_ | refine rgeta (hi := rfl) (kk := ?_) | refine rialda (hi := rfl) (kk := ?_))
      refine rret rfl rfl ?_
      exact ⟨by rw [if_neg (fun q => q.2 c2)], rfl⟩
    · repeat (first | refine rs [] rfl rfl rfl rfl ?_ | refine rk rfl rfl ?_ | refine rgoh [] rfl rfl ?_ | refine rgeta (hi := rfl) (kk := ?_) | refine rialda (hi := rfl) (kk := ?_))
      refine rret rfl rfl ?_
      exact ⟨by rw [if_pos ⟨c1, c2⟩], rfl⟩
theorem c_skipBlanks {i : Nat} {x : Int32} (hT : cTx len tx h) (hi : i ≤ len) (hx : x = nI i) (hr : h.1 4 = rdc kd pl x nu) : am_E M_Reader_skipBlanks [.ref 4, .ref 2] h none (am_set h 4 (rdc kd pl (nI (sk len tx i)) nu)) := by
  subst hx
  (try unfold am_E); unfold am_T
  show am_R M_Reader_skipBlanks (0, [.ref 4, .ref 2], []) h _
  suffices hs : ∀ d i, d = len - i → i ≤ len → am_R M_Reader_skipBlanks (0, [.ref 4, .ref 2], []) (am_set h 4 (rdc kd pl (nI i) nu)) (fun r h' => r = none ∧ h' = am_set h 4 (rdc kd pl (nI (sk len tx i)) nu)) by
    have := hs _ i rfl hi
    rw [am_set_self hr] at this
    exact this
  intro d
  induction d with
  | zero =>
    intro i hd hi
    obtain ⟨t1, t2, t3⟩ := hT.set (a := 4) (c := rdc kd pl (nI i) nu) (by omega)
    repeat (first | refine rs [] rfl rfl rfl rfl ?_ | refine rk rfl rfl ?_ | refine rgoh [] rfl rfl ?_ | refine rgeta (hi := rfl) (kk := ?_) | refine rialda (hi := rfl) (kk := ?_))
    (first | refine rif rfl rfl (fun c1 => ?_) (fun c1 => ?_) | refine ric rfl rfl (fun c1 => ?_) (fun c1 => ?_))
    · refine rret rfl rfl ?_
      rw [sk_end (by omega)]
      exact ⟨rfl, rfl⟩
    · exfalso
      rw [nI_leI (by omega) (by omega)] at c1
      omega
  | succ d ih =>
    intro i hd hi
    have hT2 := hT.set (a := 4) (c := rdc kd pl (nI i) nu) (by omega)
    obtain ⟨t1, t2, t3⟩ := id hT2
    repeat (first | refine rs [] rfl rfl rfl rfl ?_ | refine rk rfl rfl ?_ | refine rgoh [] rfl rfl ?_ | refine rgeta (hi := rfl) (kk := ?_) | refine rialda (hi := rfl) (kk := ?_))
    (first | refine rif rfl rfl (fun c1 => ?_) (fun c1 => ?_) | refine ric rfl rfl (fun c1 => ?_) (fun c1 => ?_))
    · exfalso
      rw [nI_leI (by omega) (by omega)] at c1
      omega
    · repeat (first | refine rs [] rfl rfl rfl rfl ?_ | refine rk rfl rfl ?_ | refine rgoh [] rfl rfl ?_ | refine rgeta (hi := rfl) (kk := ?_) | refine rialda (hi := rfl) (kk := ?_))
      (first | refine rcvs rfl rfl rfl rfl rfl (by first | assumption | (simp (disch := omega) only [am_set_ne, am_set_eq]; first | assumption | rfl)) rfl (c_letterAt hT2 rfl (by omega)) ?_ | refine rcvn rfl rfl rfl rfl rfl (by first | assumption | (simp (disch := omega) only [am_set_ne, am_set_eq]; first | assumption | rfl)) rfl (c_letterAt hT2 rfl (by omega)) ?_)
      repeat (first | refine rs [] rfl rfl rfl rfl ?_ | refine rk rfl rfl ?_ | refine rgoh [] rfl rfl ?_ | refine rgeta (hi := rfl) (kk := ?_) | refine rialda (hi := rfl) (kk := ?_))
      have el : ltr len tx i = tx i := by
        unfold ltr
        rw [if_pos (by omega)]
      rw [el]
      (first | refine rif rfl rfl (fun c2 => ?_) (fun c2 => ?_) | refine ric rfl rfl (fun c2 => ?_) (fun c2 => ?_))
      · repeat (first | refine rs [0] rfl rfl rfl rfl ?_ | refine rk rfl rfl ?_ | refine rgoh [0] rfl rfl ?_ | refine rgeta (hi := rfl) (kk := ?_) | refine rialda (hi := rfl) (kk := ?_))
        rw [sk_bl (by omega) c2, am_set_set]
        have := ih (i + 1) (by omega) (by omega)
        rw [nI_succ] at this
        exact this
      · refine rret rfl rfl ?_
        rw [sk_no (by omega) c2]
        exact ⟨rfl, rfl⟩
/-- where reading stands: a fault, or the place -/
def rdS (len : Nat) (pl : Int32) (o : (Nat × Nat) ⊕ Nat) (nu : Int32) (c : am_C) : Prop := match o with
  | .inr i => i ≤ len ∧ c = rdc 0 pl (nI i) nu
  | .inl (k, j) => (0 < k ∧ k < 100) ∧ ∃ i, i ≤ len ∧ c = rdc (nI k) (nI j) (nI i) nu
def bnN (len : Nat) (tx : Nat → Int32) (o : (Nat × Nat) ⊕ Nat) (lo hi : Int32) : (Nat × Nat) ⊕ Nat := match o with
  | .inl e => .inl e
  | .inr i => (match numS len tx i lo hi with | .inl e => .inl e | .inr q => .inr q.1)
def bnS (len : Nat) (tx : Nat → Int32) (o : (Nat × Nat) ⊕ Nat) (c : Int32) : (Nat × Nat) ⊕ Nat := match o with
  | .inl e => .inl e
  | .inr i => sgS len tx i c
def bnB (o : (Nat × Nat) ⊕ Nat) (b : Bool) (k j : Nat) : (Nat × Nat) ⊕ Nat := match o, b with
  | .inr _, true => .inl (k, j)
  | o, _ => o
theorem rdS_raw {o : (Nat × Nat) ⊕ Nat} {c : am_C} (q : rdS len pl o nu c) : ∃ (kd pl' : Int32) (i : Nat), i ≤ len ∧ c = rdc kd pl' (nI i) nu ∧ ((∃ i, o = .inr i ∧ kd = 0 ∧ c = rdc 0 pl (nI i) nu) ∨ (∃ k j, o = .inl (k, j) ∧ (0 < k ∧ k < 100) ∧ kd = nI k ∧ pl' = nI j)) := by
  cases o with
  | inl e =>
    obtain ⟨k, j⟩ := e
    obtain ⟨q1, i, q2, q3⟩ := q
    exact ⟨nI k, nI j, i, q2, q3, Or.inr ⟨k, j, rfl, q1, rfl, rfl⟩⟩
  | inr i =>
    obtain ⟨q1, q2⟩ := q
    exact ⟨0, pl, i, q1, q2, Or.inl ⟨i, rfl, rfl, q2⟩⟩
/-- blame: only the first fault counts -/
theorem c_blame {o : (Nat × Nat) ⊕ Nat} {k w : Nat} {x y : Int32} (hx : x = nI k) (hy : y = nI w) (hk : 0 < k ∧ k < 100) (hr : rdS len pl o nu (h.1 4)) : am_T M_Reader_blame [.ref 4, .int x, .int y] h (fun r h' => r = none ∧ ∃ c, h' = am_set h 4 c ∧ rdS len pl (bnB o true k w) nu c) := by
  subst hx hy
  cases o with
  | inl e =>
    obtain ⟨k', j⟩ := e
    obtain ⟨q1, i, q2, q3⟩ := hr
    refine am_R.imp (c_blame1 (fun z => ?_) q3) ?_
    · exact nI_ne0 q1.1 (by omega) z
    · rintro r h' ⟨rfl, rfl⟩
      exact ⟨rfl, _, (am_set_self q3).symm, q1, i, q2, rfl⟩
  | inr i =>
    obtain ⟨q1, q2⟩ := hr
    refine am_R.imp (c_blame0 q2) ?_
    rintro r h' ⟨rfl, rfl⟩
    exact ⟨rfl, _, rfl, hk, i, q1, rfl⟩
end CRead
end
section
/-! the class's Reader: numbers, ends -/
theorem nd0 {len : Nat} {tx : Nat → Int32} {j : Nat} : nd len tx j = 0 ↔ ¬ fig (ltr len tx j) := by
  unfold ltr
  by_cases hj : j < len
  · rw [if_pos hj]
    constructor
    · intro h q
      rw [nd_fig hj q] at h
      omega
    · intro h
      exact nd_no hj h
  · rw [if_neg hj]
    constructor
    · intro _
      decide
    · intro _
      exact nd_end (by omega)
theorem i3 : (3 : Int32) = nI 3 := by decide
theorem i2 : (2 : Int32) = nI 2 := by decide
abbrev badN (len : Nat) (tx : Nat → Int32) (j : Nat) (lo hi : Int32) : Prop := 3 < nd len tx j ∨ val3 tx j (nd len tx j) < lo ∨ hi < val3 tx j (nd len tx j)
section CNum
variable {h : am_H} {len : Nat} {tx : Nat → Int32} {kd pl nu : Int32}
theorem c_blameR {i k w : Int32} (hr : h.1 4 = rdc kd pl i nu) : am_E M_Reader_blame [.ref 4, .int k, .int w] h none (am_set h 4 (if kd = 0 then rdc k w i nu else rdc kd pl i nu)) := by
  by_cases hk : kd = 0
  · subst hk
    rw [if_pos rfl]
    exact c_blame0 hr
  · rw [if_neg hk, am_set_self hr]
    exact c_blame1 hk hr
set_option maxHeartbeats 1000000 in
theorem c_rn {i : Nat} {lo up : Int32} (hT : cTx len tx h) (hi : i ≤ len) (hr : h.1 4 = rdc kd pl (nI i) nu) : am_T M_Reader_readNumber [.ref 4, .ref 2, .int lo, .int up] h (fun r h' =>
    (nd len tx (sk len tx i) = 0 ∧ r = some (.int 0) ∧ h' = am_set h 4 (if kd = 0 then rdc 1 (nI (sk len tx i)) (nI (sk len tx i)) nu else rdc kd pl (nI (sk len tx i)) nu)) ∨
    (¬ nd len tx (sk len tx i) = 0 ∧ r = some (.int (val3 tx (sk len tx i) (nd len tx (sk len tx i)))) ∧ h' = am_set h 4 (if badN len tx (sk len tx i) lo up ∧ kd = 0 then rdc 2 (nI (sk len tx i)) (nI (sk len tx i + nd len tx (sk len tx i))) (nI (sk len tx i)) else rdc kd pl (nI (sk len tx i + nd len tx (sk len tx i))) (nI (sk len tx i))))) := by
  have hsk := sk_le (tx := tx) hi
  (try unfold am_E); unfold am_T
  repeat (first | refine rs [] rfl rfl rfl rfl ?_ | refine rk rfl rfl ?_ | refine rgoh [] rfl rfl ?_ | refine rgeta (hi := rfl) (kk := ?_) | refine rialda (hi := rfl) (kk := ?_))
  (first | refine rcvs rfl rfl rfl rfl rfl (by first | assumption | (simp (disch := omega) only [am_set_ne, am_set_eq]; first | assumption | rfl)) rfl (c_skipBlanks hT hi rfl hr) ?_ | refine rcvn rfl rfl rfl rfl rfl (by first | assumption | (simp (disch := omega) only [am_set_ne, am_set_eq]; first | assumption | rfl)) rfl (c_skipBlanks hT hi rfl hr) ?_)
  generalize hj : sk len tx i = j at *
  have hT1 := hT.set (a := 4) (c := rdc kd pl (nI j) nu) (by omega)
  obtain ⟨t1, t2, t3⟩ := id hT1
  repeat (first | refine rs [] rfl rfl rfl rfl ?_ | refine rk rfl rfl ?_ | refine rgoh [] rfl rfl ?_ | refine rgeta (hi := rfl) (kk := ?_) | refine rialda (hi := rfl) (kk := ?_))
  (first | refine rcvs rfl rfl rfl rfl rfl (by first | assumption | (simp (disch := omega) only [am_set_ne, am_set_eq]; first | assumption | rfl)) rfl (c_letterAt hT1 rfl (by omega)) ?_ | refine rcvn rfl rfl rfl rfl rfl (by first | assumption | (simp (disch := omega) only [am_set_ne, am_set_eq]; first | assumption | rfl)) rfl (c_letterAt hT1 rfl (by omega)) ?_)
  refine rcss rfl rfl rfl rfl rfl (c_isFigure) ?_
  by_cases hf : fig (ltr len tx j)
  · rw [if_pos hf]
    have hnd : ¬ nd len tx j = 0 := fun q => nd0.mp q hf
    (first | refine rift rfl rfl ?_ | refine riff rfl rfl ?_ | refine rict rfl rfl ?_ | refine ricf rfl rfl ?_)
    repeat (first | refine rs [24] rfl rfl rfl rfl ?_ | refine rk rfl rfl ?_ | refine rgoh [24] rfl rfl ?_ | refine rgeta (hi := rfl) (kk := ?_) | refine rialda (hi := rfl) (kk := ?_))
    suffices hs : ∀ d q, d = len - (j + q) → j + q ≤ len → q + nd len tx (j + q) = nd len tx j → am_R M_Reader_readNumber (24, [.ref 4, .ref 2, .int lo, .int up, .int (val3 tx j q), .int (nI q)], []) (am_set h 4 (rdc kd pl (nI (j + q)) (nI j))) (fun r h' => r = some (.int (val3 tx j (nd len tx j))) ∧ h' = am_set h 4 (if badN len tx j lo up ∧ kd = 0 then rdc 2 (nI j) (nI (j + nd len tx j)) (nI j) else rdc kd pl (nI (j + nd len tx j)) (nI j))) by
      rw [am_set_set]
      exact am_R.imp (hs _ 0 rfl (by omega) (by rw [Nat.add_zero]; omega)) (fun r h' q => Or.inr ⟨hnd, q⟩)
    have fin : ∀ q, j + q ≤ len → nd len tx j = q → am_R M_Reader_readNumber (57, [.ref 4, .ref 2, .int lo, .int up, .int (val3 tx j q), .int (nI q)], []) (am_set h 4 (rdc kd pl (nI (j + q)) (nI j))) (fun r h' => r = some (.int (val3 tx j (nd len tx j))) ∧ h' = am_set h 4 (if badN len tx j lo up ∧ kd = 0 then rdc 2 (nI j) (nI (j + nd len tx j)) (nI j) else rdc kd pl (nI (j + nd len tx j)) (nI j))) := by
      intro q hq e
      subst e
      have bad : badN len tx j lo up → am_R M_Reader_readNumber (66, [.ref 4, .ref 2, .int lo, .int up, .int (val3 tx j (nd len tx j)), .int (nI (nd len tx j))], []) (am_set h 4 (rdc kd pl (nI (j + nd len tx j)) (nI j))) (fun r h' => r = some (.int (val3 tx j (nd len tx j))) ∧ h' = am_set h 4 (if badN len tx j lo up ∧ kd = 0 then rdc 2 (nI j) (nI (j + nd len tx j)) (nI j) else rdc kd pl (nI (j + nd len tx j)) (nI j))) := by
        intro hb
        repeat (first | refine rs [] rfl rfl rfl rfl ?_ | refine rk rfl rfl ?_ | refine rgoh [] rfl rfl ?_ | refine rgeta (hi := rfl) (kk := ?_) | refine rialda (hi := rfl) (kk := ?_))
        (first | refine rcvs rfl rfl rfl rfl rfl (by first | assumption | (simp (disch := omega) only [am_set_ne, am_set_eq]; first | assumption | rfl)) rfl (c_blameR am_set_eq) ?_ | refine rcvn rfl rfl rfl rfl rfl (by first | assumption | (simp (disch := omega) only [am_set_ne, am_set_eq]; first | assumption | rfl)) rfl (c_blameR am_set_eq) ?_)
        repeat (first | refine rs [] rfl rfl rfl rfl ?_ | refine rk rfl rfl ?_ | refine rgoh [] rfl rfl ?_ | refine rgeta (hi := rfl) (kk := ?_) | refine rialda (hi := rfl) (kk := ?_))
        refine rret rfl rfl ?_
        rw [am_set_set]
        refine ⟨rfl, ?_⟩
        by_cases hk : kd = 0
        · rw [if_pos hk, if_pos ⟨hb, hk⟩]
        · rw [if_neg hk, if_neg (fun z => hk z.2)]
      repeat (first | refine rs [] rfl rfl rfl rfl ?_ | refine rk rfl rfl ?_ | refine rgoh [] rfl rfl ?_ | refine rgeta (hi := rfl) (kk := ?_) | refine rialda (hi := rfl) (kk := ?_))
      (first | refine rif rfl rfl (fun c1 => ?_) (fun c1 => ?_) | refine ric rfl rfl (fun c1 => ?_) (fun c1 => ?_))
      · refine bad (Or.inl ?_)
        rw [i3, nI_ltI (by omega) (by omega)] at c1
        omega
      · repeat (first | refine rs [] rfl rfl rfl rfl ?_ | refine rk rfl rfl ?_ | refine rgoh [] rfl rfl ?_ | refine rgeta (hi := rfl) (kk := ?_) | refine rialda (hi := rfl) (kk := ?_))
        (first | refine rif rfl rfl (fun c2 => ?_) (fun c2 => ?_) | refine ric rfl rfl (fun c2 => ?_) (fun c2 => ?_))
        · refine bad (Or.inr (Or.inl ?_))
          exact c2
        · repeat (first | refine rs [] rfl rfl rfl rfl ?_ | refine rk rfl rfl ?_ | refine rgoh [] rfl rfl ?_ | refine rgeta (hi := rfl) (kk := ?_) | refine rialda (hi := rfl) (kk := ?_))
          (first | refine rif rfl rfl (fun c3 => ?_) (fun c3 => ?_) | refine ric rfl rfl (fun c3 => ?_) (fun c3 => ?_))
          · repeat (first | refine rs [] rfl rfl rfl rfl ?_ | refine rk rfl rfl ?_ | refine rgoh [] rfl rfl ?_ | refine rgeta (hi := rfl) (kk := ?_) | refine rialda (hi := rfl) (kk := ?_))
            refine rret rfl rfl ?_
            refine ⟨rfl, ?_⟩
            rw [if_neg]
            rintro ⟨z | z | z, -⟩
            · rw [i3, nI_ltI (by omega) (by omega)] at c1
              omega
            · exact c2 z
            · exact Int32.not_lt.mpr c3 z
          · refine bad (Or.inr (Or.inr ?_))
            exact Int32.not_le.mp c3
    intro d
    induction d with
    | zero =>
      intro q hd hq e
      have hT2 := hT.set (a := 4) (c := rdc kd pl (nI (j + q)) (nI j)) (by omega)
      obtain ⟨t1, t2, t3⟩ := id hT2
      rw [nd_end (by omega)] at e
      repeat (first | refine rs [] rfl rfl rfl rfl ?_ | refine rk rfl rfl ?_ | refine rgoh [] rfl rfl ?_ | refine rgeta (hi := rfl) (kk := ?_) | refine rialda (hi := rfl) (kk := ?_))
      (first | refine rif rfl rfl (fun c1 => ?_) (fun c1 => ?_) | refine ric rfl rfl (fun c1 => ?_) (fun c1 => ?_))
      · exact fin q hq (by omega)
      · exfalso
        rw [nI_leI (by omega) (by omega)] at c1
        omega
    | succ d ih =>
      intro q hd hq e
      have hT2 := hT.set (a := 4) (c := rdc kd pl (nI (j + q)) (nI j)) (by omega)
      obtain ⟨t1, t2, t3⟩ := id hT2
      have el : ltr len tx (j + q) = tx (j + q) := by
        unfold ltr
        rw [if_pos (by omega)]
      repeat (first | refine rs [] rfl rfl rfl rfl ?_ | refine rk rfl rfl ?_ | refine rgoh [] rfl rfl ?_ | refine rgeta (hi := rfl) (kk := ?_) | refine rialda (hi := rfl) (kk := ?_))
      (first | refine rif rfl rfl (fun c1 => ?_) (fun c1 => ?_) | refine ric rfl rfl (fun c1 => ?_) (fun c1 => ?_))
      · exfalso
        rw [nI_leI (by omega) (by omega)] at c1
        omega
      · repeat (first | refine rs [] rfl rfl rfl rfl ?_ | refine rk rfl rfl ?_ | refine rgoh [] rfl rfl ?_ | refine rgeta (hi := rfl) (kk := ?_) | refine rialda (hi := rfl) (kk := ?_))
        (first | refine rcvs rfl rfl rfl rfl rfl (by first | assumption | (simp (disch := omega) only [am_set_ne, am_set_eq]; first | assumption | rfl)) rfl (c_letterAt hT2 rfl (by omega)) ?_ | refine rcvn rfl rfl rfl rfl rfl (by first | assumption | (simp (disch := omega) only [am_set_ne, am_set_eq]; first | assumption | rfl)) rfl (c_letterAt hT2 rfl (by omega)) ?_)
        refine rcss rfl rfl rfl rfl rfl (c_isFigure) ?_
        rw [el]
        by_cases hf2 : fig (tx (j + q))
        · rw [if_pos hf2]
          rw [nd_fig (by omega) hf2] at e
          have ih := ih (q + 1) (by omega) (by omega) (by rw [show j + (q + 1) = j + q + 1 by omega]; omega)
          have ev : val3 tx j (q + 1) = if q < 3 then val3 tx j q * 10 + tx (j + q) - 48 else val3 tx j q := rfl
          rw [show j + (q + 1) = j + q + 1 by omega, nI_succ (j + q), nI_succ q, ev] at ih
          (first | refine rift rfl rfl ?_ | refine riff rfl rfl ?_ | refine rict rfl rfl ?_ | refine ricf rfl rfl ?_)
          repeat (first | refine rs [] rfl rfl rfl rfl ?_ | refine rk rfl rfl ?_ | refine rgoh [] rfl rfl ?_ | refine rgeta (hi := rfl) (kk := ?_) | refine rialda (hi := rfl) (kk := ?_))
          (first | refine rif rfl rfl (fun c2 => ?_) (fun c2 => ?_) | refine ric rfl rfl (fun c2 => ?_) (fun c2 => ?_))
          · have hq3 : ¬ q < 3 := by
              rw [nI_1, i3, nI_ltI (by omega) (by omega)] at c2
              omega
            rw [if_neg hq3] at ih
            repeat (first | refine rs [24] rfl rfl rfl rfl ?_ | refine rk rfl rfl ?_ | refine rgoh [24] rfl rfl ?_ | refine rgeta (hi := rfl) (kk := ?_) | refine rialda (hi := rfl) (kk := ?_))
            rw [am_set_set]
            exact ih
          · have hq3 : q < 3 := by
              rw [nI_1, i3, nI_ltI (by omega) (by omega)] at c2
              omega
            rw [if_pos hq3] at ih
            repeat (first | refine rs [24] rfl rfl rfl rfl ?_ | refine rk rfl rfl ?_ | refine rgoh [24] rfl rfl ?_ | refine rgeta (hi := rfl) (kk := ?_) | refine rialda (hi := rfl) (kk := ?_))
            (first | refine rcvs rfl rfl rfl rfl rfl (by first | assumption | (simp (disch := omega) only [am_set_ne, am_set_eq]; first | assumption | rfl)) rfl (c_letterAt hT2 rfl (by omega)) ?_ | refine rcvn rfl rfl rfl rfl rfl (by first | assumption | (simp (disch := omega) only [am_set_ne, am_set_eq]; first | assumption | rfl)) rfl (c_letterAt hT2 rfl (by omega)) ?_)
            rw [el]
            repeat (first | refine rs [24] rfl rfl rfl rfl ?_ | refine rk rfl rfl ?_ | refine rgoh [24] rfl rfl ?_ | refine rgeta (hi := rfl) (kk := ?_) | refine rialda (hi := rfl) (kk := ?_))
            rw [am_set_set]
            exact ih
        · rw [if_neg hf2]
          rw [nd_no (by omega) hf2] at e
          (first | refine rift rfl rfl ?_ | refine riff rfl rfl ?_ | refine rict rfl rfl ?_ | refine ricf rfl rfl ?_)
          exact fin q hq (by omega)
  · rw [if_neg hf]
    (first | refine rift rfl rfl ?_ | refine riff rfl rfl ?_ | refine rict rfl rfl ?_ | refine ricf rfl rfl ?_)
    repeat (first | refine rs [] rfl rfl rfl rfl ?_ | refine rk rfl rfl ?_ | refine rgoh [] rfl rfl ?_ | refine rgeta (hi := rfl) (kk := ?_) | refine rialda (hi := rfl) (kk := ?_))
    (first | refine rcvs rfl rfl rfl rfl rfl (by first | assumption | (simp (disch := omega) only [am_set_ne, am_set_eq]; first | assumption | rfl)) rfl (c_blameR am_set_eq) ?_ | refine rcvn rfl rfl rfl rfl rfl (by first | assumption | (simp (disch := omega) only [am_set_ne, am_set_eq]; first | assumption | rfl)) rfl (c_blameR am_set_eq) ?_)
    repeat (first | refine rs [] rfl rfl rfl rfl ?_ | refine rk rfl rfl ?_ | refine rgoh [] rfl rfl ?_ | refine rgeta (hi := rfl) (kk := ?_) | refine rialda (hi := rfl) (kk := ?_))
    refine rret rfl rfl ?_
    rw [am_set_set]
    exact Or.inl ⟨nd0.mpr hf, rfl, rfl⟩
theorem c_readNumber {o : (Nat × Nat) ⊕ Nat} {lo hi : Int32} (hT : cTx len tx h) (hr : rdS len pl o nu (h.1 4)) : am_T M_Reader_readNumber [.ref 4, .ref 2, .int lo, .int hi] h (fun r h' => ∃ v nu' c, r = some (.int v) ∧ h' = am_set h 4 c ∧ rdS len pl (bnN len tx o lo hi) nu' c ∧ ∀ i q, o = .inr i → numS len tx i lo hi = .inr q → v = q.2 ∧ nu' = nI (sk len tx i)) := by
  cases o with
  | inl e =>
    obtain ⟨k, j⟩ := e
    obtain ⟨q1, i, q2, q3⟩ := hr
    have hk : ¬ nI k = 0 := nI_ne0 q1.1 (by omega)
    have hsk := sk_le (tx := tx) q2
    have hnl := nd_le (tx := tx) hsk.2
    refine am_R.imp (c_rn hT q2 q3) ?_
    rintro r h' (⟨-, rfl, rfl⟩ | ⟨-, rfl, rfl⟩)
    · rw [if_neg hk]
      exact ⟨_, _, _, rfl, rfl, ⟨q1, _, hsk.2, rfl⟩, fun i q z => by cases z⟩
    · rw [if_neg (fun z => hk z.2)]
      exact ⟨_, _, _, rfl, rfl, ⟨q1, _, hnl, rfl⟩, fun i q z => by cases z⟩
  | inr i =>
    obtain ⟨q2, q3⟩ := hr
    have hsk := sk_le (tx := tx) q2
    have hnl := nd_le (tx := tx) hsk.2
    refine am_R.imp (c_rn hT q2 q3) ?_
    rintro r h' (⟨z1, rfl, rfl⟩ | ⟨z1, rfl, rfl⟩)
    · rw [if_pos rfl]
      have e : numS len tx i lo hi = .inl (1, sk len tx i) := by
        unfold numS
        rw [if_pos z1]
      have eb : bnN len tx (.inr i) lo hi = .inl (1, sk len tx i) := by
        show (match numS len tx i lo hi with | .inl e => Sum.inl e | .inr q => .inr q.1) = _
        rw [e]
      rw [eb]
      refine ⟨_, _, _, rfl, rfl, ⟨by omega, _, hsk.2, rfl⟩, fun i' q z1 z2 => ?_⟩
      cases z1
      rw [e] at z2
      cases z2
    · by_cases hb : badN len tx (sk len tx i) lo hi
      · rw [if_pos ⟨hb, rfl⟩]
        have e : numS len tx i lo hi = .inl (2, sk len tx i) := by
          unfold numS
          rw [if_neg z1, if_pos hb]
        have eb : bnN len tx (.inr i) lo hi = .inl (2, sk len tx i) := by
          show (match numS len tx i lo hi with | .inl e => Sum.inl e | .inr q => .inr q.1) = _
          rw [e]
        rw [eb]
        refine ⟨_, _, _, rfl, rfl, ⟨by omega, _, hnl, rfl⟩, fun i' q z1 z2 => ?_⟩
        cases z1
        rw [e] at z2
        cases z2
      · rw [if_neg (fun z => hb z.1)]
        have e : numS len tx i lo hi = .inr (sk len tx i + nd len tx (sk len tx i), val3 tx (sk len tx i) (nd len tx (sk len tx i))) := by
          unfold numS
          rw [if_neg z1, if_neg hb]
        have eb : bnN len tx (.inr i) lo hi = .inr (sk len tx i + nd len tx (sk len tx i)) := by
          show (match numS len tx i lo hi with | .inl e => Sum.inl e | .inr q => .inr q.1) = _
          rw [e]
        rw [eb]
        refine ⟨_, _, _, rfl, rfl, ⟨hnl, rfl⟩, fun i' q z1 z2 => ?_⟩
        cases z1
        rw [e] at z2
        cases z2
        exact ⟨rfl, rfl⟩
theorem c_re {i : Nat} (hT : cTx len tx h) (hi : i ≤ len) (hr : h.1 4 = rdc kd pl (nI i) nu) : am_E M_Reader_readEnd [.ref 4, .ref 2] h none (am_set h 4 (if ltr len tx (sk len tx i) = 59 then rdc kd pl (nI (sk len tx i + 1)) nu else if kd = 0 then rdc 1 (nI (sk len tx i)) (nI (sk len tx i)) nu else rdc kd pl (nI (sk len tx i)) nu)) := by
  have hsk := sk_le (tx := tx) hi
  (try unfold am_E); unfold am_T
  repeat (first | refine rs [] rfl rfl rfl rfl ?_ | refine rk rfl rfl ?_ | refine rgoh [] rfl rfl ?_ | refine rgeta (hi := rfl) (kk := ?_) | refine rialda (hi := rfl) (kk := ?_))
  (first | refine rcvs rfl rfl rfl rfl rfl (by first | assumption | (simp (disch := omega) only [am_set_ne, am_set_eq]; first | assumption | rfl)) rfl (c_skipBlanks hT hi rfl hr) ?_ | refine rcvn rfl rfl rfl rfl rfl (by first | assumption | (simp (disch := omega) only [am_set_ne, am_set_eq]; first | assumption | rfl)) rfl (c_skipBlanks hT hi rfl hr) ?_)
  have hT1 := hT.set (a := 4) (c := rdc kd pl (nI (sk len tx i)) nu) (by omega)
  obtain ⟨t1, t2, t3⟩ := id hT1
  repeat (first | refine rs [] rfl rfl rfl rfl ?_ | refine rk rfl rfl ?_ | refine rgoh [] rfl rfl ?_ | refine rgeta (hi := rfl) (kk := ?_) | refine rialda (hi := rfl) (kk := ?_))
  (first | refine rcvs rfl rfl rfl rfl rfl (by first | assumption | (simp (disch := omega) only [am_set_ne, am_set_eq]; first | assumption | rfl)) rfl (c_letterAt hT1 rfl (by omega)) ?_ | refine rcvn rfl rfl rfl rfl rfl (by first | assumption | (simp (disch := omega) only [am_set_ne, am_set_eq]; first | assumption | rfl)) rfl (c_letterAt hT1 rfl (by omega)) ?_)
  repeat (first | refine rs [] rfl rfl rfl rfl ?_ | refine rk rfl rfl ?_ | refine rgoh [] rfl rfl ?_ | refine rgeta (hi := rfl) (kk := ?_) | refine rialda (hi := rfl) (kk := ?_))
  (first | refine rif rfl rfl (fun c1 => ?_) (fun c1 => ?_) | refine ric rfl rfl (fun c1 => ?_) (fun c1 => ?_))
  · repeat (first | refine rs [] rfl rfl rfl rfl ?_ | refine rk rfl rfl ?_ | refine rgoh [] rfl rfl ?_ | refine rgeta (hi := rfl) (kk := ?_) | refine rialda (hi := rfl) (kk := ?_))
    refine rret rfl rfl ?_
    rw [am_set_set, if_pos c1, nI_succ]
    exact ⟨rfl, rfl⟩
  · repeat (first | refine rs [] rfl rfl rfl rfl ?_ | refine rk rfl rfl ?_ | refine rgoh [] rfl rfl ?_ | refine rgeta (hi := rfl) (kk := ?_) | refine rialda (hi := rfl) (kk := ?_))
    (first | refine rcvs rfl rfl rfl rfl rfl (by first | assumption | (simp (disch := omega) only [am_set_ne, am_set_eq]; first | assumption | rfl)) rfl (c_blameR am_set_eq) ?_ | refine rcvn rfl rfl rfl rfl rfl (by first | assumption | (simp (disch := omega) only [am_set_ne, am_set_eq]; first | assumption | rfl)) rfl (c_blameR am_set_eq) ?_)
    refine rret rfl rfl ?_
    rw [am_set_set, if_neg c1]
    exact ⟨rfl, rfl⟩
theorem ltr_lt {i : Nat} {c : Int32} (h : ltr len tx i = c) (hc : c ≠ -1) : i < len := by
  unfold ltr at h
  split at h
  · assumption
  · exact absurd h.symm hc
theorem c_readEnd {o : (Nat × Nat) ⊕ Nat} (hT : cTx len tx h) (hr : rdS len pl o nu (h.1 4)) : am_T M_Reader_readEnd [.ref 4, .ref 2] h (fun r h' => ∃ c, r = none ∧ h' = am_set h 4 c ∧ rdS len pl (bnS len tx o 59) nu c) := by
  cases o with
  | inl e =>
    obtain ⟨k, j⟩ := e
    obtain ⟨q1, i, q2, q3⟩ := hr
    have hk : ¬ nI k = 0 := nI_ne0 q1.1 (by omega)
    have hsk := sk_le (tx := tx) q2
    refine am_R.imp (c_re hT q2 q3) ?_
    rintro r h' ⟨rfl, rfl⟩
    rw [if_neg hk]
    refine ⟨_, rfl, rfl, q1, ?_⟩
    by_cases c1 : ltr len tx (sk len tx i) = 59
    · have := ltr_lt c1 (by decide)
      exact ⟨sk len tx i + 1, by omega, by rw [if_pos c1]⟩
    · exact ⟨sk len tx i, by omega, by rw [if_neg c1]⟩
  | inr i =>
    obtain ⟨q2, q3⟩ := hr
    have hsk := sk_le (tx := tx) q2
    refine am_R.imp (c_re hT q2 q3) ?_
    rintro r h' ⟨rfl, rfl⟩
    rw [if_pos rfl]
    refine ⟨_, rfl, rfl, ?_⟩
    show rdS len pl (sgS len tx i 59) nu _
    unfold sgS
    by_cases c1 : ltr len tx (sk len tx i) = 59
    · have := ltr_lt c1 (by decide)
      rw [if_pos c1, if_pos c1]
      exact ⟨by omega, rfl⟩
    · rw [if_neg c1, if_neg c1]
      exact ⟨by omega, _, hsk.2, rfl⟩
end CNum
end
section
/-! the class's Reader: clauses -/
abbrev Pn : Type := Int32 × Int32 × Int32 × Int32 × Int32
def stS (len : Nat) (tx : Nat → Int32) (i : Nat) : (Nat × Nat) ⊕ (Nat × Int32 × Int32 × Int32) :=
  match numS len tx i 2 8 with
  | .inl e => .inl e
  | .inr q1 => (match numS len tx q1.1 1 15 with
    | .inl e => .inl e
    | .inr q2 => (match numS len tx q2.1 0 9 with
      | .inl e => .inl e
      | .inr q3 => (match sgS len tx q3.1 59 with
        | .inl e => .inl e
        | .inr i4 => .inr (i4, q1.2, q2.2, q3.2))))
def psS (len : Nat) (tx : Nat → Int32) (N : Int32) (P : Nat) (i : Nat) : (Nat × Nat) ⊕ (Nat × Pn) :=
  match numS len tx i 0 (N - 1) with
  | .inl e => .inl e
  | .inr q1 => (match numS len tx q1.1 0 (N - 1) with
    | .inl e => .inl e
    | .inr q2 => if q2.2 = q1.2 then .inl (4, sk len tx q1.1) else (match numS len tx q2.1 0 9 with
      | .inl e => .inl e
      | .inr q3 => if ¬ q3.2 = 9 ∧ ¬ q3.2 < nI P then .inl (2, sk len tx q2.1) else (match numS len tx q3.1 0 9 with
        | .inl e => .inl e
        | .inr q4 => (match numS len tx q4.1 0 3 with
          | .inl e => .inl e
          | .inr q5 => (match sgS len tx q5.1 59 with
            | .inl e => .inl e
            | .inr i6 => .inr (i6, q1.2, q2.2, if q3.2 = 9 then -1 else q3.2, q4.2, q5.2))))))
/-- the reader holds a line of N stations and the persons ps -/
def pRd (N G F : Int32) (ps : List Pn) (h : am_H) : Prop := ∃ (wa me wh mi : Nat → Int32) (fe fl : Int32), h.1 5 = .inr (4, [.int N, .int G, .int (nI ps.length), .ref 6, .ref 7]) ∧ h.1 6 = iar wa ∧ h.1 7 = iar me ∧ h.1 8 = .inr (6, [.ref 9, .ref 10, .int fe, .int fl, .int F, .int 0, .int 0]) ∧ h.1 9 = iar wh ∧ h.1 10 = iar mi ∧ ∀ p q, ps[p]? = some q → wh p = q.1 ∧ wa p = q.2.1 ∧ me p = q.2.2.1 ∧ mi p = q.2.2.2.1 ∧ bitv fe (nI p) = bitv q.2.2.2.2 0 ∧ bitv fl (nI p) = bitv q.2.2.2.2 1
theorem pRd.set4 {N G F : Int32} {ps : List Pn} {h : am_H} {c : am_C} (q : pRd N G F ps h) : pRd N G F ps (am_set h 4 c) := by
  obtain ⟨wa, me, wh, mi, fe, fl, q1, q2, q3, q4, q5, q6, q7⟩ := q
  exact ⟨wa, me, wh, mi, fe, fl, by rw [am_set_ne (by omega)]; exact q1, by rw [am_set_ne (by omega)]; exact q2, by rw [am_set_ne (by omega)]; exact q3, by rw [am_set_ne (by omega)]; exact q4, by rw [am_set_ne (by omega)]; exact q5, by rw [am_set_ne (by omega)]; exact q6, q7⟩
/-- reading has come to o: nothing but the reader's cells has changed -/
def atO (len : Nat) (pl : Int32) (o : (Nat × Nat) ⊕ Nat) (c : am_C) : Prop := ∃ nu, rdS len pl o nu c
theorem rd4 {len : Nat} {pl : Int32} {o : (Nat × Nat) ⊕ Nat} {c : am_C} (q : atO len pl o c) : ∃ z, c = .inr (5, .ref 5 :: .ref 8 :: z) := by
  obtain ⟨nu, q⟩ := q
  cases o with
  | inl e => obtain ⟨k, j⟩ := e; obtain ⟨-, i, -, rfl⟩ := q; exact ⟨_, rfl⟩
  | inr i => obtain ⟨-, rfl⟩ := q; exact ⟨_, rfl⟩
section CStat
variable {h : am_H} {len : Nat} {tx : Nat → Int32} {pl : Int32}
/-- a number, with the reader's cell set -/
theorem c_rdN {o : (Nat × Nat) ⊕ Nat} {c : am_C} {lo up : Int32} (hT : cTx len tx h) (hr : atO len pl o c) : am_T M_Reader_readNumber [.ref 4, .ref 2, .int lo, .int up] (am_set h 4 c) (fun r h' => ∃ v c', r = some (.int v) ∧ h' = am_set h 4 c' ∧ atO len pl (bnN len tx o lo up) c' ∧ ∀ i q, o = .inr i → numS len tx i lo up = .inr q → v = q.2 ∧ c' = rdc 0 pl (nI q.1) (nI (sk len tx i)) ∧ q.1 ≤ len) := by
  obtain ⟨nu, hr⟩ := hr
  refine am_R.imp (c_readNumber (hT.set (by omega)) (by rw [am_set_eq]; exact hr)) ?_
  rintro r h' ⟨v, nu', c', rfl, rfl, q3, q4⟩
  rw [am_set_set]
  refine ⟨v, c', rfl, rfl, ⟨nu', q3⟩, fun i q e1 e2 => ?_⟩
  obtain ⟨z1, z2⟩ := q4 i q e1 e2
  subst e1
  have eb : bnN len tx (.inr i) lo up = .inr q.1 := by
    show (match numS len tx i lo up with | .inl e => Sum.inl e | .inr q => .inr q.1) = _
    rw [e2]
  rw [eb] at q3
  obtain ⟨q5, q6⟩ := q3
  exact ⟨z1, by rw [q6, z2], q5⟩
theorem c_rdE {o : (Nat × Nat) ⊕ Nat} {c : am_C} (hT : cTx len tx h) (hr : atO len pl o c) : am_T M_Reader_readEnd [.ref 4, .ref 2] (am_set h 4 c) (fun r h' => ∃ c', r = none ∧ h' = am_set h 4 c' ∧ atO len pl (bnS len tx o 59) c') := by
  obtain ⟨nu, hr⟩ := hr
  refine am_R.imp (c_readEnd (hT.set (by omega)) (by rw [am_set_eq]; exact hr)) ?_
  rintro r h' ⟨c', rfl, rfl, q3⟩
  rw [am_set_set]
  exact ⟨c', rfl, rfl, nu, q3⟩
theorem atO_inr {i : Nat} {c : am_C} (q : atO len pl (.inr i) c) : i ≤ len ∧ ∃ nu, c = rdc 0 pl (nI i) nu := by
  obtain ⟨nu, q1, q2⟩ := q
  exact ⟨q1, nu, q2⟩
theorem atO_inl {k j : Nat} {c : am_C} (q : atO len pl (.inl (k, j)) c) : (0 < k ∧ k < 100) ∧ ∃ nu i, i ≤ len ∧ c = rdc (nI k) (nI j) (nI i) nu := by
  obtain ⟨nu, q1, i, q2, q3⟩ := q
  exact ⟨q1, nu, i, q2, q3⟩
set_option maxHeartbeats 1000000 in
theorem c_readStations {i : Nat} {c : am_C} {N G F : Int32} {ps : List Pn} (hT : cTx len tx h) (hr : atO len pl (.inr i) c) (hp : pRd N G F ps h) : am_T M_Reader_readStations [.ref 4, .ref 2] (am_set h 4 c) (fun r h' => r = none ∧ ∃ c' h1, h' = am_set h1 4 c' ∧ am_fr 4 11 h h1 ∧ match stS len tx i with | .inl e => atO len pl (.inl e) c' ∧ h1 = h | .inr q => atO len pl (.inr q.1) c' ∧ pRd q.2.1 q.2.2.1 q.2.2.2 ps h1) := by
  obtain ⟨z, ec⟩ := rd4 hr
  have r4 : (am_set h 4 c).1 4 = .inr (5, .ref 5 :: .ref 8 :: z) := by rw [am_set_eq]; exact ec
  (try unfold am_E); unfold am_T
  repeat (first | refine rs [] rfl rfl rfl rfl ?_ | refine rk rfl rfl ?_ | refine rgoh [] rfl rfl ?_ | refine rgeta (hi := rfl) (kk := ?_) | refine rialda (hi := rfl) (kk := ?_))
  refine rcvt rfl rfl rfl rfl rfl r4 rfl (c_rdN hT hr) ?_
  rintro r h1 ⟨v1, c1, rfl, rfl, a1, b1⟩
  obtain ⟨z1, ec1⟩ := rd4 a1
  have r41 : (am_set h 4 c1).1 4 = .inr (5, .ref 5 :: .ref 8 :: z1) := by rw [am_set_eq]; exact ec1
  show am_R M_Reader_readStations (5, _, [.int v1]) _ _
  repeat (first | refine rs [] rfl rfl rfl rfl ?_ | refine rk rfl rfl ?_ | refine rgoh [] rfl rfl ?_ | refine rgeta (hi := rfl) (kk := ?_) | refine rialda (hi := rfl) (kk := ?_))
  refine rcvt rfl rfl rfl rfl rfl r41 rfl (c_rdN hT a1) ?_
  rintro r h1 ⟨v2, c2, rfl, rfl, a2, b2⟩
  obtain ⟨z2, ec2⟩ := rd4 a2
  have r42 : (am_set h 4 c2).1 4 = .inr (5, .ref 5 :: .ref 8 :: z2) := by rw [am_set_eq]; exact ec2
  show am_R M_Reader_readStations (11, _, [.int v2]) _ _
  repeat (first | refine rs [] rfl rfl rfl rfl ?_ | refine rk rfl rfl ?_ | refine rgoh [] rfl rfl ?_ | refine rgeta (hi := rfl) (kk := ?_) | refine rialda (hi := rfl) (kk := ?_))
  refine rcvt rfl rfl rfl rfl rfl r42 rfl (c_rdN hT a2) ?_
  rintro r h1 ⟨v3, c3, rfl, rfl, a3, b3⟩
  obtain ⟨z3, ec3⟩ := rd4 a3
  have r43 : (am_set h 4 c3).1 4 = .inr (5, .ref 5 :: .ref 8 :: z3) := by rw [am_set_eq]; exact ec3
  show am_R M_Reader_readStations (17, _, [.int v3]) _ _
  repeat (first | refine rs [] rfl rfl rfl rfl ?_ | refine rk rfl rfl ?_ | refine rgoh [] rfl rfl ?_ | refine rgeta (hi := rfl) (kk := ?_) | refine rialda (hi := rfl) (kk := ?_))
  refine rcvt rfl rfl rfl rfl rfl r43 rfl (c_rdE hT a3) ?_
  rintro r h1 ⟨c4, rfl, rfl, a4⟩
  show am_R M_Reader_readStations (21, [.ref 4, .ref 2, .int v1, .int v2, .int v3], []) _ _
  have flt : ∀ e, bnS len tx (bnN len tx (bnN len tx (bnN len tx (.inr i) 2 8) 1 15) 0 9) 59 = .inl e → stS len tx i = .inl e → am_R M_Reader_readStations (21, [.ref 4, .ref 2, .int v1, .int v2, .int v3], []) (am_set h 4 c4) (fun r h' => r = none ∧ ∃ c' h1, h' = am_set h1 4 c' ∧ am_fr 4 11 h h1 ∧ match stS len tx i with | .inl e => atO len pl (.inl e) c' ∧ h1 = h | .inr q => atO len pl (.inr q.1) c' ∧ pRd q.2.1 q.2.2.1 q.2.2.2 ps h1) := by
    intro e e1 e2
    rw [e1] at a4
    obtain ⟨k, j⟩ := e
    obtain ⟨hk, nu, i', hi', rfl⟩ := atO_inl a4
    have hk0 : ¬ nI k = 0 := nI_ne0 hk.1 (by omega)
    repeat (first | refine rs [] rfl rfl rfl rfl ?_ | refine rk rfl rfl ?_ | refine rgoh [] rfl rfl ?_ | refine rgeta (hi := rfl) (kk := ?_) | refine rialda (hi := rfl) (kk := ?_))
    (first | refine rif rfl rfl (fun c1 => ?_) (fun c1 => ?_) | refine ric rfl rfl (fun c1 => ?_) (fun c1 => ?_))
    · exact absurd c1 hk0
    · repeat (first | refine rs [] rfl rfl rfl rfl ?_ | refine rk rfl rfl ?_ | refine rgoh [] rfl rfl ?_ | refine rgeta (hi := rfl) (kk := ?_) | refine rialda (hi := rfl) (kk := ?_))
      refine rret rfl rfl ?_
      rw [e2]
      exact ⟨rfl, _, h, rfl, fr_rf, a4, rfl⟩
  cases e1 : numS len tx i 2 8 with
  | inl e => exact flt e (by simp only [bnN, bnS, e1]) (by unfold stS; rw [e1])
  | inr q1 =>
    cases e2 : numS len tx q1.1 1 15 with
    | inl e => exact flt e (by simp only [bnN, bnS, e1, e2]) (by unfold stS; rw [e1]; dsimp only; rw [e2])
    | inr q2 =>
      cases e3 : numS len tx q2.1 0 9 with
      | inl e => exact flt e (by simp only [bnN, bnS, e1, e2, e3]) (by unfold stS; rw [e1]; dsimp only; rw [e2]; dsimp only; rw [e3])
      | inr q3 =>
        cases e4 : sgS len tx q3.1 59 with
        | inl e => exact flt e (by simp only [bnN, bnS, e1, e2, e3, e4]) (by unfold stS; rw [e1]; dsimp only; rw [e2]; dsimp only; rw [e3]; dsimp only; rw [e4])
        | inr i4 =>
          have es : stS len tx i = .inr (i4, q1.2, q2.2, q3.2) := by unfold stS; rw [e1]; dsimp only; rw [e2]; dsimp only; rw [e3]; dsimp only; rw [e4]
          have w1 := (b1 i q1 rfl e1).1
          have w2 := (b2 q1.1 q2 (by simp only [bnN, e1]) e2).1
          have w3 := (b3 q2.1 q3 (by simp only [bnN, e1, e2]) e3).1
          have a5 : atO len pl (.inr i4) c4 := by
            have : bnS len tx (bnN len tx (bnN len tx (bnN len tx (.inr i) 2 8) 1 15) 0 9) 59 = .inr i4 := by simp only [bnN, bnS, e1, e2, e3, e4]
            rw [this] at a4
            exact a4
          obtain ⟨hi4, nu, rfl⟩ := atO_inr a5
          obtain ⟨wa, me, wh, mi, fe, fl, p1, p2, p3, p4, p5, p6, p7⟩ := hp
          repeat (first | refine rs [] rfl rfl rfl rfl ?_ | refine rk rfl rfl ?_ | refine rgoh [] rfl rfl ?_ | refine rgeta (hi := rfl) (kk := ?_) | refine rialda (hi := rfl) (kk := ?_))
          (first | refine rift rfl rfl ?_ | refine riff rfl rfl ?_ | refine rict rfl rfl ?_ | refine ricf rfl rfl ?_)
          repeat (first | refine rs [] rfl rfl rfl rfl ?_ | refine rk rfl rfl ?_ | refine rgoh [] rfl rfl ?_ | refine rgeta (hi := rfl) (kk := ?_) | refine rialda (hi := rfl) (kk := ?_))
          refine rputa (hi := rfl) (kk := ?_)
          repeat (first | refine rs [] rfl rfl rfl rfl ?_ | refine rk rfl rfl ?_ | refine rgoh [] rfl rfl ?_ | refine rgeta (hi := rfl) (kk := ?_) | refine rialda (hi := rfl) (kk := ?_))
          refine rputa (hi := rfl) (kk := ?_)
          repeat (first | refine rs [] rfl rfl rfl rfl ?_ | refine rk rfl rfl ?_ | refine rgoh [] rfl rfl ?_ | refine rgeta (hi := rfl) (kk := ?_) | refine rialda (hi := rfl) (kk := ?_))
          refine rret rfl rfl ?_
          rw [es]
          refine ⟨rfl, rdc 0 pl (nI i4) nu, am_set (am_set h 5 (.inr (4, [.int v1, .int v2, .int (nI ps.length), .ref 6, .ref 7]))) 8 (.inr (6, [.ref 9, .ref 10, .int fe, .int fl, .int v3, .int 0, .int 0])), ?_, fr_set (fr_set fr_rf (by omega) (by omega)) (by omega) (by omega), a5, ?_⟩
          · rw [am_set_set, am_set_comm (a := 8) (b := 4) (by omega), am_set_comm (a := 5) (b := 4) (by omega)]
            rfl
          · subst w1 w2 w3
            refine ⟨wa, me, wh, mi, fe, fl, ?_, ?_, ?_, ?_, ?_, ?_, p7⟩ <;> simp (disch := omega) only [am_set_ne, am_set_eq] <;> assumption
end CStat
end
section
/-! the class's Reader: a person's clause -/
theorem nI_tn (x : Int32) : nI x.toBitVec.toNat = x := by
  apply Int32.toBitVec_inj.1
  show BitVec.ofNat 32 x.toBitVec.toNat = x.toBitVec
  simp
theorem bnB_f {o : (Nat × Nat) ⊕ Nat} {k j : Nat} : bnB o false k j = o := by cases o <;> rfl
theorem i4 : (4 : Int32) = nI 4 := by decide
theorem i9 : (9 : Int32) = nI 9 := by decide
section CPers
variable {h : am_H} {len : Nat} {tx : Nat → Int32} {pl : Int32}
theorem atO_raw {o : (Nat × Nat) ⊕ Nat} {c : am_C} (q : atO len pl o c) : ∃ kd pl' i nu, c = rdc kd pl' i nu := by
  obtain ⟨nu, q⟩ := q
  cases o with
  | inl e => obtain ⟨k, j⟩ := e; obtain ⟨-, i, -, rfl⟩ := q; exact ⟨_, _, _, _, rfl⟩
  | inr i => obtain ⟨-, rfl⟩ := q; exact ⟨_, _, _, _, rfl⟩
theorem c_rdB {o : (Nat × Nat) ⊕ Nat} {c : am_C} {k w : Nat} {x y : Int32} (hx : x = nI k) (hy : y = nI w) (hk : 0 < k ∧ k < 100) (hr : atO len pl o c) : am_T M_Reader_blame [.ref 4, .int x, .int y] (am_set h 4 c) (fun r h' => ∃ c', r = none ∧ h' = am_set h 4 c' ∧ atO len pl (bnB o true k w) c') := by
  obtain ⟨nu, hr⟩ := hr
  refine am_R.imp (c_blame hx hy hk (by rw [am_set_eq]; exact hr)) ?_
  rintro r h' ⟨rfl, c', rfl, q3⟩
  rw [am_set_set]
  exact ⟨c', rfl, rfl, nu, q3⟩
set_option maxHeartbeats 2000000 in
theorem c_readPerson {i : Nat} {c : am_C} {N G F : Int32} {ps : List Pn} (hT : cTx len tx h) (hr : atO len pl (.inr i) c) (hp : pRd N G F ps h) (hps : ps.length < 8) : am_T M_Reader_readPerson [.ref 4, .ref 2] (am_set h 4 c) (fun r h' => r = none ∧ ∃ c' h1, h' = am_set h1 4 c' ∧ am_fr 4 11 h h1 ∧ match psS len tx N ps.length i with | .inl e => atO len pl (.inl e) c' ∧ h1 = h | .inr q => atO len pl (.inr q.1) c' ∧ pRd N G F (ps ++ [q.2]) h1) := by
  obtain ⟨wa, me, wh, mi, fe, fl, p1, p2, p3, p4, p5, p6, p7⟩ := id hp
  obtain ⟨z, ec⟩ := rd4 hr
  have r4 : (am_set h 4 c).1 4 = .inr (5, .ref 5 :: .ref 8 :: z) := by rw [am_set_eq]; exact ec
  have hi : i ≤ len := (atO_inr hr).1
  have hl2 : len ≤ 200 := hT.1
  (try unfold am_E); unfold am_T
  repeat (first | refine rs [] rfl rfl rfl rfl ?_ | refine rk rfl rfl ?_ | refine rgoh [] rfl rfl ?_ | refine rgeta (hi := rfl) (kk := ?_) | refine rialda (hi := rfl) (kk := ?_))
  refine rcvt rfl rfl rfl rfl rfl r4 rfl (c_rdN hT hr) ?_
  rintro r h1 ⟨v1, c1, rfl, rfl, a1, b1⟩
  obtain ⟨z1, ec1⟩ := rd4 a1
  have r41 : (am_set h 4 c1).1 4 = .inr (5, .ref 5 :: .ref 8 :: z1) := by rw [am_set_eq]; exact ec1
  show am_R M_Reader_readPerson (9, _, [.int v1]) _ _
  repeat (first | refine rs [] rfl rfl rfl rfl ?_ | refine rk rfl rfl ?_ | refine rgoh [] rfl rfl ?_ | refine rgeta (hi := rfl) (kk := ?_) | refine rialda (hi := rfl) (kk := ?_))
  refine rcvt rfl rfl rfl rfl rfl r41 rfl (c_rdN hT a1) ?_
  rintro r h1 ⟨v2, c2, rfl, rfl, a2, b2⟩
  obtain ⟨kd2, pl2, ia2, nu2, ec2⟩ := atO_raw a2
  have r42 : (am_set h 4 c2).1 4 = rdc kd2 pl2 ia2 nu2 := by rw [am_set_eq]; exact ec2
  show am_R M_Reader_readPerson (19, _, [.int v2]) _ _
  suffices h28 : ∀ c', atO len pl (bnB (bnN len tx (bnN len tx (.inr i) 0 (N - 1)) 0 (N - 1)) (decide (v2 = v1)) 4 nu2.toBitVec.toNat) c' → am_R M_Reader_readPerson (28, [.ref 4, .ref 2, .int v1, .int v2, .null, .null, .null, .null], []) (am_set h 4 c') (fun r h' => r = none ∧ ∃ c' h1, h' = am_set h1 4 c' ∧ am_fr 4 11 h h1 ∧ match psS len tx N ps.length i with | .inl e => atO len pl (.inl e) c' ∧ h1 = h | .inr q => atO len pl (.inr q.1) c' ∧ pRd N G F (ps ++ [q.2]) h1) by
    repeat (first | refine rs [] rfl rfl rfl rfl ?_ | refine rk rfl rfl ?_ | refine rgoh [] rfl rfl ?_ | refine rgeta (hi := rfl) (kk := ?_) | refine rialda (hi := rfl) (kk := ?_))
    (first | refine rif rfl rfl (fun c1 => ?_) (fun c1 => ?_) | refine ric rfl rfl (fun c1 => ?_) (fun c1 => ?_))
    · repeat (first | refine rs [] rfl rfl rfl rfl ?_ | refine rk rfl rfl ?_ | refine rgoh [] rfl rfl ?_ | refine rgeta (hi := rfl) (kk := ?_) | refine rialda (hi := rfl) (kk := ?_))
      refine rcvt rfl rfl rfl rfl rfl r42 rfl (c_rdB i4 (nI_tn nu2).symm (by omega) a2) ?_
      rintro r h1 ⟨c', rfl, rfl, a3⟩
      refine h28 c' ?_
      rw [decide_eq_true c1]
      exact a3
    · refine h28 c2 ?_
      rw [decide_eq_false c1, bnB_f]
      exact a2
  intro c2' a2'
  obtain ⟨z2, ec2'⟩ := rd4 a2'
  have r42' : (am_set h 4 c2').1 4 = .inr (5, .ref 5 :: .ref 8 :: z2) := by rw [am_set_eq]; exact ec2'
  repeat (first | refine rs [] rfl rfl rfl rfl ?_ | refine rk rfl rfl ?_ | refine rgoh [] rfl rfl ?_ | refine rgeta (hi := rfl) (kk := ?_) | refine rialda (hi := rfl) (kk := ?_))
  refine rcvt rfl rfl rfl rfl rfl r42' rfl (c_rdN hT a2') ?_
  rintro r h1 ⟨v3, c3, rfl, rfl, a3, b3⟩
  obtain ⟨kd3, pl3, i3', nu3, ec3⟩ := atO_raw a3
  have r43 : (am_set h 4 c3).1 4 = rdc kd3 pl3 i3' nu3 := by rw [am_set_eq]; exact ec3
  show am_R M_Reader_readPerson (33, _, [.int v3]) _ _
  suffices h47 : ∀ c', atO len pl (bnB (bnN len tx (bnB (bnN len tx (bnN len tx (.inr i) 0 (N - 1)) 0 (N - 1)) (decide (v2 = v1)) 4 nu2.toBitVec.toNat) 0 9) (decide (¬ v3 = 9 ∧ ¬ v3 < nI ps.length)) 2 nu3.toBitVec.toNat) c' → am_R M_Reader_readPerson (47, [.ref 4, .ref 2, .int v1, .int v2, .int v3, .null, .null, .null], []) (am_set h 4 c') (fun r h' => r = none ∧ ∃ c' h1, h' = am_set h1 4 c' ∧ am_fr 4 11 h h1 ∧ match psS len tx N ps.length i with | .inl e => atO len pl (.inl e) c' ∧ h1 = h | .inr q => atO len pl (.inr q.1) c' ∧ pRd N G F (ps ++ [q.2]) h1) by
    repeat (first | refine rs [] rfl rfl rfl rfl ?_ | refine rk rfl rfl ?_ | refine rgoh [] rfl rfl ?_ | refine rgeta (hi := rfl) (kk := ?_) | refine rialda (hi := rfl) (kk := ?_))
    (first | refine rif rfl rfl (fun c1 => ?_) (fun c1 => ?_) | refine ric rfl rfl (fun c1 => ?_) (fun c1 => ?_))
    · refine h47 c3 ?_
      rw [decide_eq_false (p := ¬ v3 = 9 ∧ ¬ v3 < nI ps.length) (fun q => q.1 c1), bnB_f]
      exact a3
    · repeat (first | refine rs [] rfl rfl rfl rfl ?_ | refine rk rfl rfl ?_ | refine rgoh [] rfl rfl ?_ | refine rgeta (hi := rfl) (kk := ?_) | refine rialda (hi := rfl) (kk := ?_))
      (first | refine rif rfl rfl (fun c2 => ?_) (fun c2 => ?_) | refine ric rfl rfl (fun c2 => ?_) (fun c2 => ?_))
      · refine h47 c3 ?_
        rw [decide_eq_false (p := ¬ v3 = 9 ∧ ¬ v3 < nI ps.length) (fun q => q.2 c2), bnB_f]
        exact a3
      · repeat (first | refine rs [] rfl rfl rfl rfl ?_ | refine rk rfl rfl ?_ | refine rgoh [] rfl rfl ?_ | refine rgeta (hi := rfl) (kk := ?_) | refine rialda (hi := rfl) (kk := ?_))
        refine rcvt rfl rfl rfl rfl rfl r43 rfl (c_rdB i2 (nI_tn nu3).symm (by omega) a3) ?_
        rintro r h1 ⟨c', rfl, rfl, a3'⟩
        refine h47 c' ?_
        rw [decide_eq_true (p := ¬ v3 = 9 ∧ ¬ v3 < nI ps.length) ⟨c1, c2⟩]
        exact a3'
  intro c3' a3'
  obtain ⟨z3, ec3'⟩ := rd4 a3'
  have r43' : (am_set h 4 c3').1 4 = .inr (5, .ref 5 :: .ref 8 :: z3) := by rw [am_set_eq]; exact ec3'
  repeat (first | refine rs [] rfl rfl rfl rfl ?_ | refine rk rfl rfl ?_ | refine rgoh [] rfl rfl ?_ | refine rgeta (hi := rfl) (kk := ?_) | refine rialda (hi := rfl) (kk := ?_))
  refine rcvt rfl rfl rfl rfl rfl r43' rfl (c_rdN hT a3') ?_
  rintro r h1 ⟨v4, c4, rfl, rfl, a4, b4⟩
  obtain ⟨z4, ec4⟩ := rd4 a4
  have r44 : (am_set h 4 c4).1 4 = .inr (5, .ref 5 :: .ref 8 :: z4) := by rw [am_set_eq]; exact ec4
  show am_R M_Reader_readPerson (52, _, [.int v4]) _ _
  repeat (first | refine rs [] rfl rfl rfl rfl ?_ | refine rk rfl rfl ?_ | refine rgoh [] rfl rfl ?_ | refine rgeta (hi := rfl) (kk := ?_) | refine rialda (hi := rfl) (kk := ?_))
  refine rcvt rfl rfl rfl rfl rfl r44 rfl (c_rdN hT a4) ?_
  rintro r h1 ⟨v5, c5, rfl, rfl, a5, b5⟩
  obtain ⟨z5, ec5⟩ := rd4 a5
  have r45 : (am_set h 4 c5).1 4 = .inr (5, .ref 5 :: .ref 8 :: z5) := by rw [am_set_eq]; exact ec5
  show am_R M_Reader_readPerson (58, _, [.int v5]) _ _
  repeat (first | refine rs [] rfl rfl rfl rfl ?_ | refine rk rfl rfl ?_ | refine rgoh [] rfl rfl ?_ | refine rgeta (hi := rfl) (kk := ?_) | refine rialda (hi := rfl) (kk := ?_))
  refine rcvt rfl rfl rfl rfl rfl r45 rfl (c_rdE hT a5) ?_
  rintro r h1 ⟨c6, rfl, rfl, a6⟩
  show am_R M_Reader_readPerson (62, [.ref 4, .ref 2, .int v1, .int v2, .int v3, .int v4, .int v5, .null], []) _ _
  have flt : ∀ e, bnS len tx (bnN len tx (bnN len tx (bnB (bnN len tx (bnB (bnN len tx (bnN len tx (.inr i) 0 (N - 1)) 0 (N - 1)) (decide (v2 = v1)) 4 nu2.toBitVec.toNat) 0 9) (decide (¬ v3 = 9 ∧ ¬ v3 < nI ps.length)) 2 nu3.toBitVec.toNat) 0 9) 0 3) 59 = .inl e → psS len tx N ps.length i = .inl e → am_R M_Reader_readPerson (62, [.ref 4, .ref 2, .int v1, .int v2, .int v3, .int v4, .int v5, .null], []) (am_set h 4 c6) (fun r h' => r = none ∧ ∃ c' h1, h' = am_set h1 4 c' ∧ am_fr 4 11 h h1 ∧ match psS len tx N ps.length i with | .inl e => atO len pl (.inl e) c' ∧ h1 = h | .inr q => atO len pl (.inr q.1) c' ∧ pRd N G F (ps ++ [q.2]) h1) := by
    intro e e1 e2
    rw [e1] at a6
    obtain ⟨k, j⟩ := e
    obtain ⟨hk, nu, i', hi', rfl⟩ := atO_inl a6
    have hk0 : ¬ nI k = 0 := nI_ne0 hk.1 (by omega)
    repeat (first | refine rs [] rfl rfl rfl rfl ?_ | refine rk rfl rfl ?_ | refine rgoh [] rfl rfl ?_ | refine rgeta (hi := rfl) (kk := ?_) | refine rialda (hi := rfl) (kk := ?_))
    (first | refine rif rfl rfl (fun c1 => ?_) (fun c1 => ?_) | refine ric rfl rfl (fun c1 => ?_) (fun c1 => ?_))
    · exact absurd c1 hk0
    · repeat (first | refine rs [] rfl rfl rfl rfl ?_ | refine rk rfl rfl ?_ | refine rgoh [] rfl rfl ?_ | refine rgeta (hi := rfl) (kk := ?_) | refine rialda (hi := rfl) (kk := ?_))
      refine rret rfl rfl ?_
      rw [e2]
      exact ⟨rfl, _, h, rfl, fr_rf, a6, rfl⟩
  cases e1 : numS len tx i 0 (N - 1) with
  | inl e => exact flt e (by simp only [bnN, bnS, bnB, e1]) (by unfold psS; rw [e1])
  | inr q1 =>
    obtain ⟨w1, d1, l1⟩ := b1 i q1 rfl e1
    cases e2 : numS len tx q1.1 0 (N - 1) with
    | inl e => exact flt e (by simp only [bnN, bnS, bnB, e1, e2]) (by unfold psS; rw [e1]; dsimp only; rw [e2])
    | inr q2 =>
      obtain ⟨w2, d2, l2⟩ := b2 q1.1 q2 (by simp only [bnN, e1]) e2
      have hsk1 := sk_le (tx := tx) l1
      have n2 : nu2.toBitVec.toNat = sk len tx q1.1 := by
        rw [ec2] at d2
        have : nu2 = nI (sk len tx q1.1) := by
          have := (Prod.mk.inj (Sum.inr.inj d2)).2
          simp only [List.cons.injEq, Value.int.injEq, and_true, true_and] at this
          exact this.2.2.2
        rw [this, pk_tn (by omega)]
      by_cases e3 : v2 = v1
      · have e3' : q2.2 = q1.2 := by rw [← w1, ← w2]; exact e3
        refine flt (4, sk len tx q1.1) ?_ ?_
        · rw [decide_eq_true e3, n2]
          simp only [bnN, bnS, bnB, e1, e2]
        · unfold psS; rw [e1]; dsimp only; rw [e2]; dsimp only; rw [if_pos e3']
      · have e3' : ¬ q2.2 = q1.2 := by rw [← w1, ← w2]; exact e3
        rw [decide_eq_false e3, bnB_f] at *
        cases e4 : numS len tx q2.1 0 9 with
        | inl e =>
          refine flt e ?_ ?_
          · simp only [bnN, bnS, bnB, e1, e2, e4]
          · unfold psS; rw [e1]; dsimp only; rw [e2]; dsimp only; rw [if_neg e3', e4]
        | inr q3 =>
          obtain ⟨w3, d3, l3⟩ := b3 q2.1 q3 (by simp only [bnN, e1, e2]) e4
          have hsk2 := sk_le (tx := tx) l2
          have n3 : nu3.toBitVec.toNat = sk len tx q2.1 := by
            rw [ec3] at d3
            have : nu3 = nI (sk len tx q2.1) := by
              have := (Prod.mk.inj (Sum.inr.inj d3)).2
              simp only [List.cons.injEq, Value.int.injEq, and_true, true_and] at this
              exact this.2.2.2
            rw [this, pk_tn (by omega)]
          by_cases e5 : ¬ v3 = 9 ∧ ¬ v3 < nI ps.length
          · have e5' : ¬ q3.2 = 9 ∧ ¬ q3.2 < nI ps.length := by rw [← w3]; exact e5
            refine flt (2, sk len tx q2.1) ?_ ?_
            · rw [decide_eq_true e5, n3]
              simp only [bnN, bnS, bnB, e1, e2, e4]
            · unfold psS; rw [e1]; dsimp only; rw [e2]; dsimp only; rw [if_neg e3', e4]; dsimp only; rw [if_pos e5']
          · have e5' : ¬ (¬ q3.2 = 9 ∧ ¬ q3.2 < nI ps.length) := by rw [← w3]; exact e5
            rw [decide_eq_false e5, bnB_f] at *
            cases e6 : numS len tx q3.1 0 9 with
            | inl e =>
              refine flt e ?_ ?_
              · simp only [bnN, bnS, e1, e2, e4, e6]
              · unfold psS; rw [e1]; dsimp only; rw [e2]; dsimp only; rw [if_neg e3', e4]; dsimp only; rw [if_neg e5', e6]
            | inr q4 =>
              have w4 := (b4 q3.1 q4 (by simp only [bnN, e1, e2, e4]) e6).1
              cases e7 : numS len tx q4.1 0 3 with
              | inl e =>
                refine flt e ?_ ?_
                · simp only [bnN, bnS, e1, e2, e4, e6, e7]
                · unfold psS; rw [e1]; dsimp only; rw [e2]; dsimp only; rw [if_neg e3', e4]; dsimp only; rw [if_neg e5', e6]; dsimp only; rw [e7]
              | inr q5 =>
                have w5 := (b5 q4.1 q5 (by simp only [bnN, e1, e2, e4, e6]) e7).1
                cases e8 : sgS len tx q5.1 59 with
                | inl e =>
                  refine flt e ?_ ?_
                  · simp only [bnN, bnS, e1, e2, e4, e6, e7, e8]
                  · unfold psS; rw [e1]; dsimp only; rw [e2]; dsimp only; rw [if_neg e3', e4]; dsimp only; rw [if_neg e5', e6]; dsimp only; rw [e7]; dsimp only; rw [e8]
                | inr i6 =>
                  have es : psS len tx N ps.length i = .inr (i6, q1.2, q2.2, if q3.2 = 9 then -1 else q3.2, q4.2, q5.2) := by unfold psS; rw [e1]; dsimp only; rw [e2]; dsimp only; rw [if_neg e3', e4]; dsimp only; rw [if_neg e5', e6]; dsimp only; rw [e7]; dsimp only; rw [e8]
                  have a7 : atO len pl (.inr i6) c6 := by
                    have : bnS len tx (bnN len tx (bnN len tx (bnN len tx (bnN len tx (bnN len tx (.inr i) 0 (N - 1)) 0 (N - 1)) 0 9) 0 9) 0 3) 59 = .inr i6 := by simp only [bnN, bnS, e1, e2, e4, e6, e7, e8]
                    rw [this] at a6
                    exact a6
                  obtain ⟨hi6, nu, rfl⟩ := atO_inr a7
                  have hP : ∀ q : Pn × Nat, q.2 = ps.length → True := fun _ _ => trivial
                  clear flt a6 b1 b2 b3 b4 b5
                  generalize hPl : ps.length = P at *
                  repeat (first | refine rs [] rfl rfl rfl rfl ?_ | refine rk rfl rfl ?_ | refine rgoh [] rfl rfl ?_ | refine rgeta (hi := rfl) (kk := ?_) | refine rialda (hi := rfl) (kk := ?_))
                  (first | refine rift rfl rfl ?_ | refine riff rfl rfl ?_ | refine rict rfl rfl ?_ | refine ricf rfl rfl ?_)
                  repeat (first | refine rs [] rfl rfl rfl rfl ?_ | refine rk rfl rfl ?_ | refine rgoh [] rfl rfl ?_ | refine rgeta (hi := rfl) (kk := ?_) | refine rialda (hi := rfl) (kk := ?_))
                  (first | refine rif rfl rfl (fun c8 => ?_) (fun c8 => ?_) | refine ric rfl rfl (fun c8 => ?_) (fun c8 => ?_))
                  · exfalso
                    rw [i8, nI_leI (by omega) (by omega)] at c8
                    omega
                  · repeat (first | refine rs [] rfl rfl rfl rfl ?_ | refine rk rfl rfl ?_ | refine rgoh [] rfl rfl ?_ | refine rgeta (hi := rfl) (kk := ?_) | refine rialda (hi := rfl) (kk := ?_))
                    refine riasta (hi := rfl) (kk := ?_)
                    repeat (first | refine rs [] rfl rfl rfl rfl ?_ | refine rk rfl rfl ?_ | refine rgoh [] rfl rfl ?_ | refine rgeta (hi := rfl) (kk := ?_) | refine rialda (hi := rfl) (kk := ?_))
                    suffices h88 : ∀ m', m' = (if v3 = 9 then -1 else v3) → am_R M_Reader_readPerson (88, [.ref 4, .ref 2, .int v1, .int v2, .int v3, .int v4, .int v5, .int (nI P)], [.int m', .int (nI P), .ref 7]) (am_set (am_set h 4 (rdc 0 pl (nI i6) nu)) 6 (iar (upd wa P v2))) (fun r h' => r = none ∧ ∃ c' h1, h' = am_set h1 4 c' ∧ am_fr 4 11 h h1 ∧ match psS len tx N P i with | .inl e => atO len pl (.inl e) c' ∧ h1 = h | .inr q => atO len pl (.inr q.1) c' ∧ pRd N G F (ps ++ [q.2]) h1) by
                      (first | refine rif rfl rfl (fun c9 => ?_) (fun c9 => ?_) | refine ric rfl rfl (fun c9 => ?_) (fun c9 => ?_))
                      · repeat (first | refine rs [] rfl rfl rfl rfl ?_ | refine rk rfl rfl ?_ | refine rgoh [] rfl rfl ?_ | refine rgeta (hi := rfl) (kk := ?_) | refine rialda (hi := rfl) (kk := ?_))
                        exact h88 _ (by rw [if_pos c9])
                      · repeat (first | refine rs [] rfl rfl rfl rfl ?_ | refine rk rfl rfl ?_ | refine rgoh [] rfl rfl ?_ | refine rgeta (hi := rfl) (kk := ?_) | refine rialda (hi := rfl) (kk := ?_))
                        exact h88 _ (by rw [if_neg c9])
                    intro m' hm'
                    refine riasta (hi := rfl) (kk := ?_)
                    repeat (first | refine rs [] rfl rfl rfl rfl ?_ | refine rk rfl rfl ?_ | refine rgoh [] rfl rfl ?_ | refine rgeta (hi := rfl) (kk := ?_) | refine rialda (hi := rfl) (kk := ?_))
                    refine riasta (hi := rfl) (kk := ?_)
                    repeat (first | refine rs [] rfl rfl rfl rfl ?_ | refine rk rfl rfl ?_ | refine rgoh [] rfl rfl ?_ | refine rgeta (hi := rfl) (kk := ?_) | refine rialda (hi := rfl) (kk := ?_))
                    refine riasta (hi := rfl) (kk := ?_)
                    repeat (first | refine rs [] rfl rfl rfl rfl ?_ | refine rk rfl rfl ?_ | refine rgoh [] rfl rfl ?_ | refine rgeta (hi := rfl) (kk := ?_) | refine rialda (hi := rfl) (kk := ?_))
                    refine rcss rfl rfl rfl rfl rfl (c_bit) ?_
                    repeat (first | refine rs [] rfl rfl rfl rfl ?_ | refine rk rfl rfl ?_ | refine rgoh [] rfl rfl ?_ | refine rgeta (hi := rfl) (kk := ?_) | refine rialda (hi := rfl) (kk := ?_))
                    suffices h115 : ∀ za : Int32, (if za = 0 then 0 else 1) = bitv v5 0 → am_R M_Reader_readPerson (115, [.ref 4, .ref 2, .int v1, .int v2, .int v3, .int v4, .int v5, .int (nI P)], [.int za, .int (nI P), .int fe, .ref 8]) (am_set (am_set (am_set (am_set (am_set h 4 (rdc 0 pl (nI i6) nu)) 6 (iar (upd wa P v2))) 7 (iar (upd me P m'))) 9 (iar (upd wh P v1))) 10 (iar (upd mi P v4))) (fun r h' => r = none ∧ ∃ c' h1, h' = am_set h1 4 c' ∧ am_fr 4 11 h h1 ∧ match psS len tx N P i with | .inl e => atO len pl (.inl e) c' ∧ h1 = h | .inr q => atO len pl (.inr q.1) c' ∧ pRd N G F (ps ++ [q.2]) h1) by
                      (first | refine rif rfl rfl (fun c9 => ?_) (fun c9 => ?_) | refine ric rfl rfl (fun c9 => ?_) (fun c9 => ?_))
                      · repeat (first | refine rs [] rfl rfl rfl rfl ?_ | refine rk rfl rfl ?_ | refine rgoh [] rfl rfl ?_ | refine rgeta (hi := rfl) (kk := ?_) | refine rialda (hi := rfl) (kk := ?_))
                        exact h115 1 (by rw [c9]; decide)
                      · repeat (first | refine rs [] rfl rfl rfl rfl ?_ | refine rk rfl rfl ?_ | refine rgoh [] rfl rfl ?_ | refine rgeta (hi := rfl) (kk := ?_) | refine rialda (hi := rfl) (kk := ?_))
                        refine h115 0 ?_
                        rcases bitv_01 (x := v5) (k := 0) (by omega) with g | g
                        · rw [nI_0] at g
                          rw [g]
                          decide
                        · rw [nI_0] at g
                          exact absurd g c9
                    intro za hza
                    refine rcss rfl rfl rfl rfl rfl (c_withBit) ?_
                    refine rputa (hi := rfl) (kk := ?_)
                    repeat (first | refine rs [] rfl rfl rfl rfl ?_ | refine rk rfl rfl ?_ | refine rgoh [] rfl rfl ?_ | refine rgeta (hi := rfl) (kk := ?_) | refine rialda (hi := rfl) (kk := ?_))
                    refine rcss rfl rfl rfl rfl rfl (c_bit) ?_
                    repeat (first | refine rs [] rfl rfl rfl rfl ?_ | refine rk rfl rfl ?_ | refine rgoh [] rfl rfl ?_ | refine rgeta (hi := rfl) (kk := ?_) | refine rialda (hi := rfl) (kk := ?_))
                    suffices h131 : ∀ zb : Int32, (if zb = 0 then 0 else 1) = bitv v5 1 → am_R M_Reader_readPerson (131, [.ref 4, .ref 2, .int v1, .int v2, .int v3, .int v4, .int v5, .int (nI P)], [.int zb, .int (nI P), .int fl, .ref 8]) (am_set (am_set (am_set (am_set (am_set (am_set h 4 (rdc 0 pl (nI i6) nu)) 6 (iar (upd wa P v2))) 7 (iar (upd me P m'))) 9 (iar (upd wh P v1))) 10 (iar (upd mi P v4))) 8 (.inr (6, [.ref 9, .ref 10, .int (if za = 0 then fe &&& (sh1 (nI P) ^^^ (-1)) else fe ||| sh1 (nI P)), .int fl, .int F, .int 0, .int 0]))) (fun r h' => r = none ∧ ∃ c' h1, h' = am_set h1 4 c' ∧ am_fr 4 11 h h1 ∧ match psS len tx N P i with | .inl e => atO len pl (.inl e) c' ∧ h1 = h | .inr q => atO len pl (.inr q.1) c' ∧ pRd N G F (ps ++ [q.2]) h1) by
                      (first | refine rif rfl rfl (fun c9 => ?_) (fun c9 => ?_) | refine ric rfl rfl (fun c9 => ?_) (fun c9 => ?_))
                      · repeat (first | refine rs [] rfl rfl rfl rfl ?_ | refine rk rfl rfl ?_ | refine rgoh [] rfl rfl ?_ | refine rgeta (hi := rfl) (kk := ?_) | refine rialda (hi := rfl) (kk := ?_))
                        exact h131 1 (by rw [c9]; decide)
                      · repeat (first | refine rs [] rfl rfl rfl rfl ?_ | refine rk rfl rfl ?_ | refine rgoh [] rfl rfl ?_ | refine rgeta (hi := rfl) (kk := ?_) | refine rialda (hi := rfl) (kk := ?_))
                        refine h131 0 ?_
                        rcases bitv_01 (x := v5) (k := 1) (by omega) with g | g
                        · rw [← i1] at g
                          rw [g]
                          decide
                        · rw [← i1] at g
                          exact absurd g c9
                    intro zb hzb
                    refine rcss rfl rfl rfl rfl rfl (c_withBit) ?_
                    repeat (first | refine rs [] rfl rfl rfl rfl ?_ | refine rk rfl rfl ?_ | refine rgoh [] rfl rfl ?_ | refine rgeta (hi := rfl) (kk := ?_) | refine rialda (hi := rfl) (kk := ?_))
                    refine rputa (hi := rfl) (kk := ?_)
                    refine rret rfl rfl ?_
                    rw [es]
                    refine ⟨rfl, rdc 0 pl (nI i6) nu, am_set (am_set (am_set (am_set (am_set (am_set h 6 (iar (upd wa P v2))) 7 (iar (upd me P m'))) 9 (iar (upd wh P v1))) 10 (iar (upd mi P v4))) 8 (.inr (6, [.ref 9, .ref 10, .int (if za = 0 then fe &&& (sh1 (nI P) ^^^ (-1)) else fe ||| sh1 (nI P)), .int (if zb = 0 then fl &&& (sh1 (nI P) ^^^ (-1)) else fl ||| sh1 (nI P)), .int F, .int 0, .int 0]))) 5 (.inr (4, [.int N, .int G, .int (nI (P + 1)), .ref 6, .ref 7])), ?_, ?_, a7, ?_⟩
                    · rw [am_set_set, am_set_comm (a := 5) (b := 4) (by omega), am_set_comm (a := 8) (b := 4) (by omega), am_set_comm (a := 10) (b := 4) (by omega), am_set_comm (a := 9) (b := 4) (by omega), am_set_comm (a := 7) (b := 4) (by omega), am_set_comm (a := 6) (b := 4) (by omega), nI_succ]
                      rfl
                    · exact fr_set (fr_set (fr_set (fr_set (fr_set (fr_set fr_rf (by omega) (by omega)) (by omega) (by omega)) (by omega) (by omega)) (by omega) (by omega)) (by omega) (by omega)) (by omega) (by omega)
                    · refine ⟨upd wa P v2, upd me P m', upd wh P v1, upd mi P v4, (if za = 0 then fe &&& (sh1 (nI P) ^^^ (-1)) else fe ||| sh1 (nI P)), (if zb = 0 then fl &&& (sh1 (nI P) ^^^ (-1)) else fl ||| sh1 (nI P)), ?_, ?_, ?_, ?_, ?_, ?_, fun p q hq => ?_⟩
                      · rw [am_set_eq, List.length_append, hPl]
                        rfl
                      · simp (disch := omega) only [am_set_ne, am_set_eq]
                      · simp (disch := omega) only [am_set_ne, am_set_eq]
                      · simp (disch := omega) only [am_set_ne, am_set_eq]
                      · simp (disch := omega) only [am_set_ne, am_set_eq]
                      · simp (disch := omega) only [am_set_ne, am_set_eq]
                      · have hpl : p < (ps ++ [((q1.2, q2.2, if q3.2 = 9 then -1 else q3.2, q4.2, q5.2) : Pn)]).length := (List.getElem?_eq_some_iff.mp hq).1
                        rw [List.length_append, hPl] at hpl
                        have hpl : p < P + 1 := hpl
                        rw [bitv_wb (by omega) (by omega), bitv_wb (by omega) (by omega)]
                        by_cases hpp : p = P
                        · subst hpp
                          rw [List.getElem?_append_right (by omega), hPl, Nat.sub_self] at hq
                          cases hq
                          rw [pk_us, pk_us, pk_us, pk_us, if_pos rfl, if_pos rfl, hza, hzb, hm']
                          exact ⟨w1, w2, by rw [w3], w4, by rw [w5], by rw [w5]⟩
                        · rw [List.getElem?_append_left (by omega)] at hq
                          rw [pk_un hpp, pk_un hpp, pk_un hpp, pk_un hpp, if_neg hpp, if_neg hpp]
                          exact p7 p q hq
end CPers
end
section
/-! the class's Reader: clauses, the whole text -/
section CCl
variable {h : am_H} {len : Nat} {tx : Nat → Int32} {pl : Int32}
theorem ltr_at {i : Nat} (hi : i < len) : ltr len tx i = tx i := by
  unfold ltr
  rw [if_pos hi]
set_option maxHeartbeats 1000000 in
theorem c_rcF {i : Nat} {c : am_C} {G F : Int32} (hT : cTx len tx h) (hr : atO len pl (.inr i) c) (hp : pRd 0 G F [] h) (hi : i < len) : am_T M_Reader_readClause [.ref 4, .ref 2] (am_set h 4 c) (fun r h' => r = none ∧ ∃ c' h1, h' = am_set h1 4 c' ∧ am_fr 4 11 h h1 ∧ if tx i = 115 then (match stS len tx (i + 1) with | .inl e => atO len pl (.inl e) c' ∧ h1 = h | .inr q => atO len pl (.inr q.1) c' ∧ pRd q.2.1 q.2.2.1 q.2.2.2 [] h1) else atO len pl (.inl (1, i)) c' ∧ h1 = h) := by
  obtain ⟨wa, me, wh, mi, fe, fl, p1, p2, p3, p4, p5, p6, p7⟩ := id hp
  obtain ⟨hil, nu, rfl⟩ := atO_inr hr
  have hl2 : len ≤ 200 := hT.1
  have hT1 := hT.set (a := 4) (c := rdc 0 pl (nI i) nu) (by omega)
  obtain ⟨t1, t2, t3⟩ := id hT1
  have p1' : (am_set h 4 (rdc 0 pl (nI i) nu)).1 5 = .inr (4, [.int 0, .int G, .int (nI ([] : List Pn).length), .ref 6, .ref 7]) := p1
  (try unfold am_E); unfold am_T
  repeat (first | refine rs [] rfl rfl rfl rfl ?_ | refine rk rfl rfl ?_ | refine rgoh [] rfl rfl ?_ | refine rgeta (hi := rfl) (kk := ?_) | refine rialda (hi := rfl) (kk := ?_))
  (first | refine rcvs rfl rfl rfl rfl rfl (by first | assumption | (simp (disch := omega) only [am_set_ne, am_set_eq]; first | assumption | rfl)) rfl (c_letterAt hT1 rfl (by omega)) ?_ | refine rcvn rfl rfl rfl rfl rfl (by first | assumption | (simp (disch := omega) only [am_set_ne, am_set_eq]; first | assumption | rfl)) rfl (c_letterAt hT1 rfl (by omega)) ?_)
  rw [ltr_at hi]
  repeat (first | refine rs [] rfl rfl rfl rfl ?_ | refine rk rfl rfl ?_ | refine rgoh [] rfl rfl ?_ | refine rgeta (hi := rfl) (kk := ?_) | refine rialda (hi := rfl) (kk := ?_))
  (first | refine rif rfl rfl (fun c1 => ?_) (fun c1 => ?_) | refine ric rfl rfl (fun c1 => ?_) (fun c1 => ?_))
  · repeat (first | refine rs [] rfl rfl rfl rfl ?_ | refine rk rfl rfl ?_ | refine rgoh [] rfl rfl ?_ | refine rgeta (hi := rfl) (kk := ?_) | refine rialda (hi := rfl) (kk := ?_))
    (first | refine rcvs rfl rfl rfl rfl rfl (by first | assumption | (simp (disch := omega) only [am_set_ne, am_set_eq]; first | assumption | rfl)) rfl (c_isTold p1') ?_ | refine rcvn rfl rfl rfl rfl rfl (by first | assumption | (simp (disch := omega) only [am_set_ne, am_set_eq]; first | assumption | rfl)) rfl (c_isTold p1') ?_)
    rw [if_neg (by decide)]
    (first | refine rift rfl rfl ?_ | refine riff rfl rfl ?_ | refine rict rfl rfl ?_ | refine ricf rfl rfl ?_)
    repeat (first | refine rs [] rfl rfl rfl rfl ?_ | refine rk rfl rfl ?_ | refine rgoh [] rfl rfl ?_ | refine rgeta (hi := rfl) (kk := ?_) | refine rialda (hi := rfl) (kk := ?_))
    (first | refine rif rfl rfl (fun c2 => ?_) (fun c2 => ?_) | refine ric rfl rfl (fun c2 => ?_) (fun c2 => ?_))
    · exact absurd (c1.symm.trans c2) (by decide)
    · repeat (first | refine rs [] rfl rfl rfl rfl ?_ | refine rk rfl rfl ?_ | refine rgoh [] rfl rfl ?_ | refine rgeta (hi := rfl) (kk := ?_) | refine rialda (hi := rfl) (kk := ?_))
      (first | refine rift rfl rfl ?_ | refine riff rfl rfl ?_ | refine rict rfl rfl ?_ | refine ricf rfl rfl ?_)
      repeat (first | refine rs [] rfl rfl rfl rfl ?_ | refine rk rfl rfl ?_ | refine rgoh [] rfl rfl ?_ | refine rgeta (hi := rfl) (kk := ?_) | refine rialda (hi := rfl) (kk := ?_))
      (first | refine rift rfl rfl ?_ | refine riff rfl rfl ?_ | refine rict rfl rfl ?_ | refine ricf rfl rfl ?_)
      repeat (first | refine rs [] rfl rfl rfl rfl ?_ | refine rk rfl rfl ?_ | refine rgoh [] rfl rfl ?_ | refine rgeta (hi := rfl) (kk := ?_) | refine rialda (hi := rfl) (kk := ?_))
      (first | refine rif rfl rfl (fun c3 => ?_) (fun c3 => ?_) | refine ric rfl rfl (fun c3 => ?_) (fun c3 => ?_))
      · repeat (first | refine rs [] rfl rfl rfl rfl ?_ | refine rk rfl rfl ?_ | refine rgoh [] rfl rfl ?_ | refine rgeta (hi := rfl) (kk := ?_) | refine rialda (hi := rfl) (kk := ?_))
        have a2 : atO len pl (.inr (i + 1)) (rdc 0 pl (nI i + 1) nu) := ⟨nu, by omega, by rw [nI_succ]⟩
        rw [am_set_set]
        refine rcvt rfl rfl rfl rfl rfl am_set_eq rfl (c_readStations hT a2 hp) ?_
        rintro r h' ⟨rfl, c', h1, rfl, f1, q⟩
        show am_R M_Reader_readClause (50, _, []) _ _
        repeat (first | refine rs [] rfl rfl rfl rfl ?_ | refine rk rfl rfl ?_ | refine rgoh [] rfl rfl ?_ | refine rgeta (hi := rfl) (kk := ?_) | refine rialda (hi := rfl) (kk := ?_))
        refine rret rfl rfl ?_
        refine ⟨rfl, c', h1, rfl, f1, ?_⟩
        rw [if_pos c1]
        exact q
      · exact absurd c1 c3
  · repeat (first | refine rs [] rfl rfl rfl rfl ?_ | refine rk rfl rfl ?_ | refine rgoh [] rfl rfl ?_ | refine rgeta (hi := rfl) (kk := ?_) | refine rialda (hi := rfl) (kk := ?_))
    have fin : am_R M_Reader_readClause (68, [.ref 4, .ref 2, .int (tx i), .int 0, .int 0], []) (am_set h 4 (rdc 0 pl (nI i) nu)) (fun r h' => r = none ∧ ∃ c' h1, h' = am_set h1 4 c' ∧ am_fr 4 11 h h1 ∧ if tx i = 115 then (match stS len tx (i + 1) with | .inl e => atO len pl (.inl e) c' ∧ h1 = h | .inr q => atO len pl (.inr q.1) c' ∧ pRd q.2.1 q.2.2.1 q.2.2.2 [] h1) else atO len pl (.inl (1, i)) c' ∧ h1 = h) := by
      repeat (first | refine rs [] rfl rfl rfl rfl ?_ | refine rk rfl rfl ?_ | refine rgoh [] rfl rfl ?_ | refine rgeta (hi := rfl) (kk := ?_) | refine rialda (hi := rfl) (kk := ?_))
      refine rcvt rfl rfl rfl rfl rfl am_set_eq rfl (c_rdB i1 rfl (by omega) hr) ?_
      rintro r h' ⟨c', rfl, rfl, q⟩
      show am_R M_Reader_readClause (73, _, []) _ _
      refine rret rfl rfl ?_
      refine ⟨rfl, c', h, rfl, fr_rf, ?_⟩
      rw [if_neg c1]
      exact ⟨q, rfl⟩
    (first | refine rif rfl rfl (fun c2 => ?_) (fun c2 => ?_) | refine ric rfl rfl (fun c2 => ?_) (fun c2 => ?_))
    · repeat (first | refine rs [] rfl rfl rfl rfl ?_ | refine rk rfl rfl ?_ | refine rgoh [] rfl rfl ?_ | refine rgeta (hi := rfl) (kk := ?_) | refine rialda (hi := rfl) (kk := ?_))
      (first | refine rift rfl rfl ?_ | refine riff rfl rfl ?_ | refine rict rfl rfl ?_ | refine ricf rfl rfl ?_)
      repeat (first | refine rs [] rfl rfl rfl rfl ?_ | refine rk rfl rfl ?_ | refine rgoh [] rfl rfl ?_ | refine rgeta (hi := rfl) (kk := ?_) | refine rialda (hi := rfl) (kk := ?_))
      (first | refine rift rfl rfl ?_ | refine riff rfl rfl ?_ | refine rict rfl rfl ?_ | refine ricf rfl rfl ?_)
      repeat (first | refine rs [] rfl rfl rfl rfl ?_ | refine rk rfl rfl ?_ | refine rgoh [] rfl rfl ?_ | refine rgeta (hi := rfl) (kk := ?_) | refine rialda (hi := rfl) (kk := ?_))
      (first | refine rift rfl rfl ?_ | refine riff rfl rfl ?_ | refine rict rfl rfl ?_ | refine ricf rfl rfl ?_)
      repeat (first | refine rs [] rfl rfl rfl rfl ?_ | refine rk rfl rfl ?_ | refine rgoh [] rfl rfl ?_ | refine rgeta (hi := rfl) (kk := ?_) | refine rialda (hi := rfl) (kk := ?_))
      (first | refine rif rfl rfl (fun c3 => ?_) (fun c3 => ?_) | refine ric rfl rfl (fun c3 => ?_) (fun c3 => ?_))
      · exact absurd c3 c1
      · repeat (first | refine rs [] rfl rfl rfl rfl ?_ | refine rk rfl rfl ?_ | refine rgoh [] rfl rfl ?_ | refine rgeta (hi := rfl) (kk := ?_) | refine rialda (hi := rfl) (kk := ?_))
        (first | refine rif rfl rfl (fun c4 => ?_) (fun c4 => ?_) | refine ric rfl rfl (fun c4 => ?_) (fun c4 => ?_))
        · repeat (first | refine rs [] rfl rfl rfl rfl ?_ | refine rk rfl rfl ?_ | refine rgoh [] rfl rfl ?_ | refine rgeta (hi := rfl) (kk := ?_) | refine rialda (hi := rfl) (kk := ?_))
          (first | refine rcvs rfl rfl rfl rfl rfl (by first | assumption | (simp (disch := omega) only [am_set_ne, am_set_eq]; first | assumption | rfl)) rfl (c_isTold p1') ?_ | refine rcvn rfl rfl rfl rfl rfl (by first | assumption | (simp (disch := omega) only [am_set_ne, am_set_eq]; first | assumption | rfl)) rfl (c_isTold p1') ?_)
          rw [if_neg (by decide)]
          (first | refine rift rfl rfl ?_ | refine riff rfl rfl ?_ | refine rict rfl rfl ?_ | refine ricf rfl rfl ?_)
          exact fin
        · exact absurd c2 c4
    · repeat (first | refine rs [] rfl rfl rfl rfl ?_ | refine rk rfl rfl ?_ | refine rgoh [] rfl rfl ?_ | refine rgeta (hi := rfl) (kk := ?_) | refine rialda (hi := rfl) (kk := ?_))
      (first | refine rift rfl rfl ?_ | refine riff rfl rfl ?_ | refine rict rfl rfl ?_ | refine ricf rfl rfl ?_)
      repeat (first | refine rs [] rfl rfl rfl rfl ?_ | refine rk rfl rfl ?_ | refine rgoh [] rfl rfl ?_ | refine rgeta (hi := rfl) (kk := ?_) | refine rialda (hi := rfl) (kk := ?_))
      (first | refine rift rfl rfl ?_ | refine riff rfl rfl ?_ | refine rict rfl rfl ?_ | refine ricf rfl rfl ?_)
      repeat (first | refine rs [] rfl rfl rfl rfl ?_ | refine rk rfl rfl ?_ | refine rgoh [] rfl rfl ?_ | refine rgeta (hi := rfl) (kk := ?_) | refine rialda (hi := rfl) (kk := ?_))
      (first | refine rif rfl rfl (fun c3 => ?_) (fun c3 => ?_) | refine ric rfl rfl (fun c3 => ?_) (fun c3 => ?_))
      · exact absurd c3 c1
      · repeat (first | refine rs [] rfl rfl rfl rfl ?_ | refine rk rfl rfl ?_ | refine rgoh [] rfl rfl ?_ | refine rgeta (hi := rfl) (kk := ?_) | refine rialda (hi := rfl) (kk := ?_))
        (first | refine rif rfl rfl (fun c4 => ?_) (fun c4 => ?_) | refine ric rfl rfl (fun c4 => ?_) (fun c4 => ?_))
        · exact absurd c4 c2
        · exact fin
set_option maxHeartbeats 1000000 in
theorem c_rcT {i : Nat} {c : am_C} {N G F : Int32} {ps : List Pn} (hN : 0 < N) (hps : ps.length ≤ 8) (hT : cTx len tx h) (hr : atO len pl (.inr i) c) (hp : pRd N G F ps h) (hi : i < len) : am_T M_Reader_readClause [.ref 4, .ref 2] (am_set h 4 c) (fun r h' => r = none ∧ ∃ c' h1, h' = am_set h1 4 c' ∧ am_fr 4 11 h h1 ∧ if tx i = 115 ∨ (tx i = 112 ∧ ps.length = 8) then atO len pl (.inl (3, i)) c' ∧ h1 = h else if tx i = 112 then (match psS len tx N ps.length (i + 1) with | .inl e => atO len pl (.inl e) c' ∧ h1 = h | .inr q => atO len pl (.inr q.1) c' ∧ pRd N G F (ps ++ [q.2]) h1) else atO len pl (.inl (1, i)) c' ∧ h1 = h) := by
  obtain ⟨wa, me, wh, mi, fe, fl, p1, p2, p3, p4, p5, p6, p7⟩ := id hp
  obtain ⟨hil, nu, rfl⟩ := atO_inr hr
  have hl2 : len ≤ 200 := hT.1
  have hT1 := hT.set (a := 4) (c := rdc 0 pl (nI i) nu) (by omega)
  obtain ⟨t1, t2, t3⟩ := id hT1
  have p1' : (am_set h 4 (rdc 0 pl (nI i) nu)).1 5 = .inr (4, [.int N, .int G, .int (nI ps.length), .ref 6, .ref 7]) := p1
  (try unfold am_E); unfold am_T
  repeat (first | refine rs [] rfl rfl rfl rfl ?_ | refine rk rfl rfl ?_ | refine rgoh [] rfl rfl ?_ | refine rgeta (hi := rfl) (kk := ?_) | refine rialda (hi := rfl) (kk := ?_))
  (first | refine rcvs rfl rfl rfl rfl rfl (by first | assumption | (simp (disch := omega) only [am_set_ne, am_set_eq]; first | assumption | rfl)) rfl (c_letterAt hT1 rfl (by omega)) ?_ | refine rcvn rfl rfl rfl rfl rfl (by first | assumption | (simp (disch := omega) only [am_set_ne, am_set_eq]; first | assumption | rfl)) rfl (c_letterAt hT1 rfl (by omega)) ?_)
  rw [ltr_at hi]
  have f3 : ∀ z3 z4, (tx i = 115 ∨ (tx i = 112 ∧ ps.length = 8)) → am_R M_Reader_readClause (32, [.ref 4, .ref 2, .int (tx i), .int z3, .int z4], []) (am_set h 4 (rdc 0 pl (nI i) nu)) (fun r h' => r = none ∧ ∃ c' h1, h' = am_set h1 4 c' ∧ am_fr 4 11 h h1 ∧ if tx i = 115 ∨ (tx i = 112 ∧ ps.length = 8) then atO len pl (.inl (3, i)) c' ∧ h1 = h else if tx i = 112 then (match psS len tx N ps.length (i + 1) with | .inl e => atO len pl (.inl e) c' ∧ h1 = h | .inr q => atO len pl (.inr q.1) c' ∧ pRd N G F (ps ++ [q.2]) h1) else atO len pl (.inl (1, i)) c' ∧ h1 = h) := by
    intro z3 z4 hq
    repeat (first | refine rs [] rfl rfl rfl rfl ?_ | refine rk rfl rfl ?_ | refine rgoh [] rfl rfl ?_ | refine rgeta (hi := rfl) (kk := ?_) | refine rialda (hi := rfl) (kk := ?_))
    refine rcvt rfl rfl rfl rfl rfl am_set_eq rfl (c_rdB i3 rfl (by omega) hr) ?_
    rintro r h' ⟨c', rfl, rfl, q⟩
    show am_R M_Reader_readClause (37, _, []) _ _
    repeat (first | refine rs [] rfl rfl rfl rfl ?_ | refine rk rfl rfl ?_ | refine rgoh [] rfl rfl ?_ | refine rgeta (hi := rfl) (kk := ?_) | refine rialda (hi := rfl) (kk := ?_))
    refine rret rfl rfl ?_
    refine ⟨rfl, c', h, rfl, fr_rf, ?_⟩
    rw [if_pos hq]
    exact ⟨q, rfl⟩
  repeat (first | refine rs [] rfl rfl rfl rfl ?_ | refine rk rfl rfl ?_ | refine rgoh [] rfl rfl ?_ | refine rgeta (hi := rfl) (kk := ?_) | refine rialda (hi := rfl) (kk := ?_))
  (first | refine rif rfl rfl (fun c1 => ?_) (fun c1 => ?_) | refine ric rfl rfl (fun c1 => ?_) (fun c1 => ?_))
  · repeat (first | refine rs [] rfl rfl rfl rfl ?_ | refine rk rfl rfl ?_ | refine rgoh [] rfl rfl ?_ | refine rgeta (hi := rfl) (kk := ?_) | refine rialda (hi := rfl) (kk := ?_))
    (first | refine rcvs rfl rfl rfl rfl rfl (by first | assumption | (simp (disch := omega) only [am_set_ne, am_set_eq]; first | assumption | rfl)) rfl (c_isTold p1') ?_ | refine rcvn rfl rfl rfl rfl rfl (by first | assumption | (simp (disch := omega) only [am_set_ne, am_set_eq]; first | assumption | rfl)) rfl (c_isTold p1') ?_)
    rw [if_pos hN]
    (first | refine rift rfl rfl ?_ | refine riff rfl rfl ?_ | refine rict rfl rfl ?_ | refine ricf rfl rfl ?_)
    repeat (first | refine rs [] rfl rfl rfl rfl ?_ | refine rk rfl rfl ?_ | refine rgoh [] rfl rfl ?_ | refine rgeta (hi := rfl) (kk := ?_) | refine rialda (hi := rfl) (kk := ?_))
    (first | refine rif rfl rfl (fun c2 => ?_) (fun c2 => ?_) | refine ric rfl rfl (fun c2 => ?_) (fun c2 => ?_))
    · exact absurd (c1.symm.trans c2) (by decide)
    · repeat (first | refine rs [] rfl rfl rfl rfl ?_ | refine rk rfl rfl ?_ | refine rgoh [] rfl rfl ?_ | refine rgeta (hi := rfl) (kk := ?_) | refine rialda (hi := rfl) (kk := ?_))
      (first | refine rift rfl rfl ?_ | refine riff rfl rfl ?_ | refine rict rfl rfl ?_ | refine ricf rfl rfl ?_)
      exact f3 _ _ (Or.inl c1)
  · repeat (first | refine rs [] rfl rfl rfl rfl ?_ | refine rk rfl rfl ?_ | refine rgoh [] rfl rfl ?_ | refine rgeta (hi := rfl) (kk := ?_) | refine rialda (hi := rfl) (kk := ?_))
    (first | refine rif rfl rfl (fun c2 => ?_) (fun c2 => ?_) | refine ric rfl rfl (fun c2 => ?_) (fun c2 => ?_))
    · repeat (first | refine rs [] rfl rfl rfl rfl ?_ | refine rk rfl rfl ?_ | refine rgoh [] rfl rfl ?_ | refine rgeta (hi := rfl) (kk := ?_) | refine rialda (hi := rfl) (kk := ?_))
      (first | refine rif rfl rfl (fun c3 => ?_) (fun c3 => ?_) | refine ric rfl rfl (fun c3 => ?_) (fun c3 => ?_))
      · have h8 : ps.length < 8 := by
          rw [i8, nI_ltI (by omega) (by omega)] at c3
          exact c3
        repeat (first | refine rs [] rfl rfl rfl rfl ?_ | refine rk rfl rfl ?_ | refine rgoh [] rfl rfl ?_ | refine rgeta (hi := rfl) (kk := ?_) | refine rialda (hi := rfl) (kk := ?_))
        (first | refine rift rfl rfl ?_ | refine riff rfl rfl ?_ | refine rict rfl rfl ?_ | refine ricf rfl rfl ?_)
        repeat (first | refine rs [] rfl rfl rfl rfl ?_ | refine rk rfl rfl ?_ | refine rgoh [] rfl rfl ?_ | refine rgeta (hi := rfl) (kk := ?_) | refine rialda (hi := rfl) (kk := ?_))
        (first | refine rift rfl rfl ?_ | refine riff rfl rfl ?_ | refine rict rfl rfl ?_ | refine ricf rfl rfl ?_)
        repeat (first | refine rs [] rfl rfl rfl rfl ?_ | refine rk rfl rfl ?_ | refine rgoh [] rfl rfl ?_ | refine rgeta (hi := rfl) (kk := ?_) | refine rialda (hi := rfl) (kk := ?_))
        (first | refine rif rfl rfl (fun c4 => ?_) (fun c4 => ?_) | refine ric rfl rfl (fun c4 => ?_) (fun c4 => ?_))
        · exact absurd c4 c1
        · repeat (first | refine rs [] rfl rfl rfl rfl ?_ | refine rk rfl rfl ?_ | refine rgoh [] rfl rfl ?_ | refine rgeta (hi := rfl) (kk := ?_) | refine rialda (hi := rfl) (kk := ?_))
          (first | refine rif rfl rfl (fun c5 => ?_) (fun c5 => ?_) | refine ric rfl rfl (fun c5 => ?_) (fun c5 => ?_))
          · repeat (first | refine rs [] rfl rfl rfl rfl ?_ | refine rk rfl rfl ?_ | refine rgoh [] rfl rfl ?_ | refine rgeta (hi := rfl) (kk := ?_) | refine rialda (hi := rfl) (kk := ?_))
            (first | refine rcvs rfl rfl rfl rfl rfl (by first | assumption | (simp (disch := omega) only [am_set_ne, am_set_eq]; first | assumption | rfl)) rfl (c_isTold p1') ?_ | refine rcvn rfl rfl rfl rfl rfl (by first | assumption | (simp (disch := omega) only [am_set_ne, am_set_eq]; first | assumption | rfl)) rfl (c_isTold p1') ?_)
            rw [if_pos hN]
            (first | refine rift rfl rfl ?_ | refine riff rfl rfl ?_ | refine rict rfl rfl ?_ | refine ricf rfl rfl ?_)
            repeat (first | refine rs [] rfl rfl rfl rfl ?_ | refine rk rfl rfl ?_ | refine rgoh [] rfl rfl ?_ | refine rgeta (hi := rfl) (kk := ?_) | refine rialda (hi := rfl) (kk := ?_))
            have a2 : atO len pl (.inr (i + 1)) (rdc 0 pl (nI i + 1) nu) := ⟨nu, by omega, by rw [nI_succ]⟩
            rw [am_set_set]
            refine rcvt rfl rfl rfl rfl rfl am_set_eq rfl (c_readPerson hT a2 hp h8) ?_
            rintro r h' ⟨rfl, c', h1, rfl, f1, q⟩
            show am_R M_Reader_readClause (67, _, []) _ _
            repeat (first | refine rs [] rfl rfl rfl rfl ?_ | refine rk rfl rfl ?_ | refine rgoh [] rfl rfl ?_ | refine rgeta (hi := rfl) (kk := ?_) | refine rialda (hi := rfl) (kk := ?_))
            refine rret rfl rfl ?_
            refine ⟨rfl, c', h1, rfl, f1, ?_⟩
            rw [if_neg (by rintro (z | z); exact c1 z; omega), if_pos c2]
            exact q
          · exact absurd c2 c5
      · have h8 : ps.length = 8 := by
          rw [i8, nI_ltI (by omega) (by omega)] at c3
          omega
        repeat (first | refine rs [] rfl rfl rfl rfl ?_ | refine rk rfl rfl ?_ | refine rgoh [] rfl rfl ?_ | refine rgeta (hi := rfl) (kk := ?_) | refine rialda (hi := rfl) (kk := ?_))
        (first | refine rift rfl rfl ?_ | refine riff rfl rfl ?_ | refine rict rfl rfl ?_ | refine ricf rfl rfl ?_)
        repeat (first | refine rs [] rfl rfl rfl rfl ?_ | refine rk rfl rfl ?_ | refine rgoh [] rfl rfl ?_ | refine rgeta (hi := rfl) (kk := ?_) | refine rialda (hi := rfl) (kk := ?_))
        (first | refine rift rfl rfl ?_ | refine riff rfl rfl ?_ | refine rict rfl rfl ?_ | refine ricf rfl rfl ?_)
        exact f3 _ _ (Or.inr ⟨c2, h8⟩)
    · repeat (first | refine rs [] rfl rfl rfl rfl ?_ | refine rk rfl rfl ?_ | refine rgoh [] rfl rfl ?_ | refine rgeta (hi := rfl) (kk := ?_) | refine rialda (hi := rfl) (kk := ?_))
      (first | refine rift rfl rfl ?_ | refine riff rfl rfl ?_ | refine rict rfl rfl ?_ | refine ricf rfl rfl ?_)
      repeat (first | refine rs [] rfl rfl rfl rfl ?_ | refine rk rfl rfl ?_ | refine rgoh [] rfl rfl ?_ | refine rgeta (hi := rfl) (kk := ?_) | refine rialda (hi := rfl) (kk := ?_))
      (first | refine rift rfl rfl ?_ | refine riff rfl rfl ?_ | refine rict rfl rfl ?_ | refine ricf rfl rfl ?_)
      repeat (first | refine rs [] rfl rfl rfl rfl ?_ | refine rk rfl rfl ?_ | refine rgoh [] rfl rfl ?_ | refine rgeta (hi := rfl) (kk := ?_) | refine rialda (hi := rfl) (kk := ?_))
      (first | refine rif rfl rfl (fun c3 => ?_) (fun c3 => ?_) | refine ric rfl rfl (fun c3 => ?_) (fun c3 => ?_))
      · exact absurd c3 c1
      · repeat (first | refine rs [] rfl rfl rfl rfl ?_ | refine rk rfl rfl ?_ | refine rgoh [] rfl rfl ?_ | refine rgeta (hi := rfl) (kk := ?_) | refine rialda (hi := rfl) (kk := ?_))
        (first | refine rif rfl rfl (fun c4 => ?_) (fun c4 => ?_) | refine ric rfl rfl (fun c4 => ?_) (fun c4 => ?_))
        · exact absurd c4 c2
        · repeat (first | refine rs [] rfl rfl rfl rfl ?_ | refine rk rfl rfl ?_ | refine rgoh [] rfl rfl ?_ | refine rgeta (hi := rfl) (kk := ?_) | refine rialda (hi := rfl) (kk := ?_))
          refine rcvt rfl rfl rfl rfl rfl am_set_eq rfl (c_rdB i1 rfl (by omega) hr) ?_
          rintro r h' ⟨c', rfl, rfl, q⟩
          show am_R M_Reader_readClause (73, _, []) _ _
          refine rret rfl rfl ?_
          refine ⟨rfl, c', h, rfl, fr_rf, ?_⟩
          rw [if_neg (by rintro (z | z); exact c1 z; exact c2 z.1), if_neg c2]
          exact ⟨q, rfl⟩
end CCl
end
section
/-! the class's Reader: the whole text -/
def tlS (len : Nat) (tx : Nat → Int32) (N : Int32) : Nat → Nat → List Pn → (Nat × Nat) ⊕ List Pn
  | 0, _, ps => .inr ps
  | f + 1, i, ps => if i < len then (if tx i = 115 ∨ (tx i = 112 ∧ ps.length = 8) then .inl (3, i) else if tx i = 112 then (match psS len tx N ps.length (i + 1) with | .inl e => .inl e | .inr q => tlS len tx N f (sk len tx q.1) (ps ++ [q.2])) else .inl (1, i)) else .inr ps
/-- what a text says: a fault, or stations, limit, fog, persons -/
def prS (len : Nat) (tx : Nat → Int32) : (Nat × Nat) ⊕ (Int32 × Int32 × Int32 × List Pn) :=
  if sk len tx 0 < len then (if tx (sk len tx 0) = 115 then (match stS len tx (sk len tx 0 + 1) with | .inl e => .inl e | .inr q => (match tlS len tx q.2.1 200 (sk len tx q.1) [] with | .inl e => .inl e | .inr ps => .inr (q.2.1, q.2.2.1, q.2.2.2, ps))) else .inl (1, sk len tx 0)) else .inr (0, 0, 0, [])
section Pos
variable {len : Nat} {tx : Nat → Int32}
theorem numS_pos {i : Nat} {lo up : Int32} {q : Nat × Int32} (hi : i ≤ len) (h : numS len tx i lo up = .inr q) : i < q.1 ∧ q.1 ≤ len ∧ ¬ q.2 < lo ∧ ¬ up < q.2 := by
  have h1 := sk_le (tx := tx) hi
  have h2 := nd_le (tx := tx) h1.2
  unfold numS at h
  split at h
  · cases h
  · split at h
    · cases h
    · rename_i z1 z2
      cases h
      simp only [not_or] at z2
      exact ⟨by dsimp only; omega, by dsimp only; omega, z2.2.1, z2.2.2⟩
theorem sgS_pos {i j : Nat} {c : Int32} (hi : i ≤ len) (hc : c ≠ -1) (h : sgS len tx i c = .inr j) : i < j ∧ j ≤ len := by
  have h1 := sk_le (tx := tx) hi
  unfold sgS at h
  split at h
  · rename_i z
    have := ltr_lt z hc
    cases h
    omega
  · cases h
theorem stS_pos {i : Nat} {q : Nat × Int32 × Int32 × Int32} (hi : i ≤ len) (h : stS len tx i = .inr q) : i < q.1 ∧ q.1 ≤ len ∧ (¬ q.2.1 < 2 ∧ ¬ 8 < q.2.1) := by
  unfold stS at h
  split at h
  · cases h
  · rename_i q1 e1
    obtain ⟨a1, a2, a3, a4⟩ := numS_pos hi e1
    split at h
    · cases h
    · rename_i q2 e2
      obtain ⟨b1, b2, -⟩ := numS_pos a2 e2
      split at h
      · cases h
      · rename_i q3 e3
        obtain ⟨c1, c2, -⟩ := numS_pos b2 e3
        split at h
        · cases h
        · rename_i j e4
          have d := sgS_pos c2 (by decide) e4
          cases h
          exact ⟨by dsimp only; omega, by dsimp only; omega, a3, a4⟩
theorem psS_pos {i P : Nat} {N : Int32} {q : Nat × Pn} (hi : i ≤ len) (h : psS len tx N P i = .inr q) : i < q.1 ∧ q.1 ≤ len ∧ (¬ q.2.1 < 0 ∧ ¬ N - 1 < q.2.1) ∧ (¬ q.2.2.1 < 0 ∧ ¬ N - 1 < q.2.2.1) ∧ (q.2.2.2.1 = -1 ∨ (¬ q.2.2.2.1 < 0 ∧ q.2.2.2.1 < nI P)) ∧ (¬ q.2.2.2.2.2 < 0 ∧ ¬ 3 < q.2.2.2.2.2) := by
  unfold psS at h
  split at h
  · cases h
  · rename_i q1 e1
    obtain ⟨a1, a2, a3, a4⟩ := numS_pos hi e1
    split at h
    · cases h
    · rename_i q2 e2
      obtain ⟨b1, b2, b3, b4⟩ := numS_pos a2 e2
      split at h
      · cases h
      · split at h
        · cases h
        · rename_i q3 e3
          obtain ⟨c1, c2, c3, c4⟩ := numS_pos b2 e3
          split at h
          · cases h
          · rename_i z
            split at h
            · cases h
            · rename_i q4 e4
              obtain ⟨d1, d2, -⟩ := numS_pos c2 e4
              split at h
              · cases h
              · rename_i q5 e5
                obtain ⟨f1, f2, f3, f4⟩ := numS_pos d2 e5
                split at h
                · cases h
                · rename_i j e6
                  have g := sgS_pos f2 (by decide) e6
                  cases h
                  refine ⟨by dsimp only; omega, by dsimp only; omega, ⟨a3, a4⟩, ⟨b3, b4⟩, ?_, ⟨f3, f4⟩⟩
                  dsimp only
                  by_cases h9 : q3.2 = 9
                  · left
                    rw [if_pos h9]
                  · right
                    rw [if_neg h9]
                    refine ⟨c3, Classical.byContradiction (fun w => z ⟨h9, w⟩)⟩
end Pos
section CText
variable {h : am_H} {len : Nat} {tx : Nat → Int32} {pl : Int32}
theorem c_Sclear {a w mi : Nat} {fe fl fog tr sp : Int32} (ha : a = 8) (hs : h.1 a = .inr (6, [.ref w, .ref mi, .int fe, .int fl, .int fog, .int tr, .int sp])) : am_E M_Scene_clear [.ref a] h none (am_set h a (.inr (6, [.ref w, .ref mi, .int 0, .int 0, .int 0, .int 0, .int 0]))) := by
  subst ha
  (try unfold am_E); unfold am_T
  repeat (first | refine rs [] rfl rfl rfl rfl ?_ | refine rk rfl rfl ?_ | refine rgoh [] rfl rfl ?_ | refine rgeta (hi := rfl) (kk := ?_) | refine rialda (hi := rfl) (kk := ?_))
  refine rputa (hi := rfl) (kk := ?_)
  repeat (first | refine rs [] rfl rfl rfl rfl ?_ | refine rk rfl rfl ?_ | refine rgoh [] rfl rfl ?_ | refine rgeta (hi := rfl) (kk := ?_) | refine rialda (hi := rfl) (kk := ?_))
  refine rret rfl rfl ?_
  refine ⟨rfl, ?_⟩
  simp only [am_set_set]
  rfl
/-- the reader's cells, whatever stands in them -/
def pRw (h : am_H) : Prop := ∃ (wa me wh mi : Nat → Int32) (N G P fe fl F tr sp : Int32), h.1 5 = .inr (4, [.int N, .int G, .int P, .ref 6, .ref 7]) ∧ h.1 6 = iar wa ∧ h.1 7 = iar me ∧ h.1 8 = .inr (6, [.ref 9, .ref 10, .int fe, .int fl, .int F, .int tr, .int sp]) ∧ h.1 9 = iar wh ∧ h.1 10 = iar mi
theorem pRd.raw {N G F : Int32} {ps : List Pn} {h : am_H} (q : pRd N G F ps h) : pRw h := by
  obtain ⟨wa, me, wh, mi, fe, fl, q1, q2, q3, q4, q5, q6, q7⟩ := q
  exact ⟨wa, me, wh, mi, N, G, _, fe, fl, F, 0, 0, q1, q2, q3, q4, q5, q6⟩
theorem pRw.set4 {h : am_H} {c : am_C} (q : pRw h) : pRw (am_set h 4 c) := by
  obtain ⟨wa, me, wh, mi, N, G, P, fe, fl, F, tr, sp, q1, q2, q3, q4, q5, q6⟩ := q
  exact ⟨wa, me, wh, mi, N, G, P, fe, fl, F, tr, sp, by rw [am_set_ne (by omega)]; exact q1, by rw [am_set_ne (by omega)]; exact q2, by rw [am_set_ne (by omega)]; exact q3, by rw [am_set_ne (by omega)]; exact q4, by rw [am_set_ne (by omega)]; exact q5, by rw [am_set_ne (by omega)]; exact q6⟩
/-- behind reading: the reader's verdict -/
def rdV (len : Nat) (pl : Int32) (v : (Nat × Nat) ⊕ (Int32 × Int32 × Int32 × List Pn)) (h : am_H) : Prop := match v with
  | .inl (k, j) => (0 < k ∧ k < 100) ∧ (∃ i nu, h.1 4 = rdc (nI k) (nI j) i nu) ∧ pRw h
  | .inr q => (∃ i nu, h.1 4 = rdc 0 pl i nu) ∧ pRd q.1 q.2.1 q.2.2.1 q.2.2.2 h
theorem c_skO {o : (Nat × Nat) ⊕ Nat} {c : am_C} (hT : cTx len tx h) (hr : atO len pl o c) : am_T M_Reader_skipBlanks [.ref 4, .ref 2] (am_set h 4 c) (fun r h' => ∃ c', r = none ∧ h' = am_set h 4 c' ∧ atO len pl (match o with | .inl e => .inl e | .inr i => .inr (sk len tx i)) c') := by
  cases o with
  | inl e =>
    obtain ⟨k, j⟩ := e
    obtain ⟨hk, nu, i, hi, rfl⟩ := atO_inl hr
    refine am_R.imp (c_skipBlanks (hT.set (by omega)) hi rfl am_set_eq) ?_
    rintro r h' ⟨rfl, rfl⟩
    rw [am_set_set]
    exact ⟨_, rfl, rfl, nu, hk, _, (sk_le hi).2, rfl⟩
  | inr i =>
    obtain ⟨hi, nu, rfl⟩ := atO_inr hr
    refine am_R.imp (c_skipBlanks (hT.set (by omega)) hi rfl am_set_eq) ?_
    rintro r h' ⟨rfl, rfl⟩
    rw [am_set_set]
    exact ⟨_, rfl, rfl, nu, (sk_le hi).2, rfl⟩
set_option maxHeartbeats 1000000 in
/-- the clauses behind the first -/
theorem c_readT {N G F : Int32} (hN : 0 < N) : ∀ (f i : Nat) (ps : List Pn) (c : am_C) (h : am_H) (x : Int32), f ≤ 200 → 201 - f ≤ i → ps.length ≤ 8 → x = nI (201 - f) → cTx len tx h → atO len pl (.inr i) c → pRd N G F ps h → am_R M_Reader_read (20, [.ref 4, .ref 2, .int x], []) (am_set h 4 c) (fun r h' => r = none ∧ am_fr 4 11 h h' ∧ rdV len pl (match tlS len tx N f i ps with | .inl e => .inl e | .inr ps => .inr (N, G, F, ps)) h')
  | f, i, ps, c, h, x, hf, hfi, hps, hx, hT, hr, hp => by
    have hl2 : len ≤ 200 := hT.1
    obtain ⟨hil, nu, rfl⟩ := atO_inr hr
    have hT1 := hT.set (a := 4) (c := rdc 0 pl (nI i) nu) (by omega)
    obtain ⟨t1, t2, t3⟩ := id hT1
    match f, hf, hfi, hx with
    | 0, hf, hfi, hx => exfalso; omega
    | f + 1, hf, hfi, hx =>
      subst hx
      repeat (first | refine rs [] rfl rfl rfl rfl ?_ | refine rk rfl rfl ?_ | refine rgoh [] rfl rfl ?_ | refine rgeta (hi := rfl) (kk := ?_) | refine rialda (hi := rfl) (kk := ?_))
      (first | refine rif rfl rfl (fun c1 => ?_) (fun c1 => ?_) | refine ric rfl rfl (fun c1 => ?_) (fun c1 => ?_))
      · exfalso
        rw [i200, nI_ltI (by omega) (by omega)] at c1
        omega
      · repeat (first | refine rs [] rfl rfl rfl rfl ?_ | refine rk rfl rfl ?_ | refine rgoh [] rfl rfl ?_ | refine rgeta (hi := rfl) (kk := ?_) | refine rialda (hi := rfl) (kk := ?_))
        (first | refine rift rfl rfl ?_ | refine riff rfl rfl ?_ | refine rict rfl rfl ?_ | refine ricf rfl rfl ?_)
        repeat (first | refine rs [] rfl rfl rfl rfl ?_ | refine rk rfl rfl ?_ | refine rgoh [] rfl rfl ?_ | refine rgeta (hi := rfl) (kk := ?_) | refine rialda (hi := rfl) (kk := ?_))
        (first | refine rif rfl rfl (fun c2 => ?_) (fun c2 => ?_) | refine ric rfl rfl (fun c2 => ?_) (fun c2 => ?_))
        · have hi : ¬ i < len := (nI_lt_iff (by omega) (by omega)).mp c2
          refine rret rfl rfl ?_
          refine ⟨rfl, fr_set fr_rf (by omega) (by omega), ?_⟩
          show rdV len pl (match (if i < len then _ else Sum.inr ps) with | .inl e => .inl e | .inr ps => .inr (N, G, F, ps)) _
          rw [if_neg hi]
          exact ⟨⟨_, _, am_set_eq⟩, hp.set4⟩
        · have hi : i < len := by
            rw [nI_leI (by omega) (by omega)] at c2
            omega
          have hst : ∀ (b : Bool), True := fun _ => trivial
          repeat (first | refine rs [] rfl rfl rfl rfl ?_ | refine rk rfl rfl ?_ | refine rgoh [] rfl rfl ?_ | refine rgeta (hi := rfl) (kk := ?_) | refine rialda (hi := rfl) (kk := ?_))
          refine rcvt rfl rfl rfl rfl rfl am_set_eq rfl (c_rcT hN hps hT hr hp hi) ?_
          rintro r h' ⟨rfl, c', h1, rfl, f1, q⟩
          show am_R M_Reader_read (34, [.ref 4, .ref 2, .int (nI (201 - (f + 1)))], []) _ _
          have hT2 : cTx len tx h1 := hT.fr f1 (by omega)
          have flt : ∀ e, atO len pl (.inl e) c' → h1 = h → tlS len tx N (f + 1) i ps = .inl e → am_R M_Reader_read (34, [.ref 4, .ref 2, .int (nI (201 - (f + 1)))], []) (am_set h1 4 c') (fun r h' => r = none ∧ am_fr 4 11 h h' ∧ rdV len pl (match tlS len tx N (f + 1) i ps with | .inl e => .inl e | .inr ps => .inr (N, G, F, ps)) h') := by
            intro e a1 eh e1
            obtain ⟨z1, ec1⟩ := rd4 a1
            repeat (first | refine rs [] rfl rfl rfl rfl ?_ | refine rk rfl rfl ?_ | refine rgoh [] rfl rfl ?_ | refine rgeta (hi := rfl) (kk := ?_) | refine rialda (hi := rfl) (kk := ?_))
            refine rcvt rfl rfl rfl rfl rfl (by rw [am_set_eq]; exact ec1) rfl (c_skO hT2 a1) ?_
            rintro r h' ⟨c2', rfl, rfl, a2⟩
            show am_R M_Reader_read (37, [.ref 4, .ref 2, .int (nI (201 - (f + 1)))], []) _ _
            obtain ⟨k, j⟩ := e
            obtain ⟨hk, nu, i2, hi2, rfl⟩ := atO_inl a2
            have hk0 : ¬ nI k = 0 := nI_ne0 hk.1 (by omega)
            have fin : am_R M_Reader_read (39, [.ref 4, .ref 2, .int (nI (201 - (f + 1)) + 1)], []) (am_set h1 4 (rdc (nI k) (nI j) (nI i2) nu)) (fun r h' => r = none ∧ am_fr 4 11 h h' ∧ rdV len pl (match tlS len tx N (f + 1) i ps with | .inl e => .inl e | .inr ps => .inr (N, G, F, ps)) h') := by
              refine rret rfl rfl ?_
              rw [e1]
              exact ⟨rfl, fr_tr f1 (fr_set (lo := 4) (hi := 11) fr_rf (by omega) (by omega)) (by omega) (by omega), hk, ⟨_, _, am_set_eq⟩, (eh ▸ hp).raw.set4⟩
            repeat (first | refine rs [] rfl rfl rfl rfl ?_ | refine rk rfl rfl ?_ | refine rgoh [] rfl rfl ?_ | refine rgeta (hi := rfl) (kk := ?_) | refine rialda (hi := rfl) (kk := ?_))
            (first | refine rif rfl rfl (fun c3 => ?_) (fun c3 => ?_) | refine ric rfl rfl (fun c3 => ?_) (fun c3 => ?_))
            · exact fin
            · repeat (first | refine rs [] rfl rfl rfl rfl ?_ | refine rk rfl rfl ?_ | refine rgoh [] rfl rfl ?_ | refine rgeta (hi := rfl) (kk := ?_) | refine rialda (hi := rfl) (kk := ?_))
              (first | refine rif rfl rfl (fun c4 => ?_) (fun c4 => ?_) | refine ric rfl rfl (fun c4 => ?_) (fun c4 => ?_))
              · exact absurd c4 hk0
              · exact fin
          have et : tlS len tx N (f + 1) i ps = if tx i = 115 ∨ (tx i = 112 ∧ ps.length = 8) then .inl (3, i) else if tx i = 112 then (match psS len tx N ps.length (i + 1) with | .inl e => .inl e | .inr q => tlS len tx N f (sk len tx q.1) (ps ++ [q.2])) else .inl (1, i) := by
            show (if i < len then _ else _) = _
            rw [if_pos hi]
          by_cases d1 : tx i = 115 ∨ (tx i = 112 ∧ ps.length = 8)
          · rw [if_pos d1] at q et
            exact flt _ q.1 q.2 et
          · rw [if_neg d1] at q et
            by_cases d2 : tx i = 112
            · rw [if_pos d2] at q et
              have h8 : ps.length < 8 := by
                rcases Nat.lt_or_ge ps.length 8 with g | g
                · exact g
                · exact absurd (Or.inr ⟨d2, by omega⟩) d1
              cases ep : psS len tx N ps.length (i + 1) with
              | inl e =>
                rw [ep] at q et
                exact flt _ q.1 q.2 et
              | inr qq =>
                rw [ep] at q et
                dsimp only at q et
                obtain ⟨a1, hp1⟩ := q
                obtain ⟨b1, b2, -⟩ := psS_pos (by omega) ep
                have hsk := sk_le (tx := tx) b2
                obtain ⟨z1, ec1⟩ := rd4 a1
                repeat (first | refine rs [] rfl rfl rfl rfl ?_ | refine rk rfl rfl ?_ | refine rgoh [] rfl rfl ?_ | refine rgeta (hi := rfl) (kk := ?_) | refine rialda (hi := rfl) (kk := ?_))
                refine rcvt rfl rfl rfl rfl rfl (by rw [am_set_eq]; exact ec1) rfl (c_skO hT2 a1) ?_
                rintro r h' ⟨c2', rfl, rfl, a2⟩
                show am_R M_Reader_read (37, [.ref 4, .ref 2, .int (nI (201 - (f + 1)))], []) _ _
                repeat (first | refine rs [20] rfl rfl rfl rfl ?_ | refine rk rfl rfl ?_ | refine rgoh [20] rfl rfl ?_ | refine rgeta (hi := rfl) (kk := ?_) | refine rialda (hi := rfl) (kk := ?_))
                have := c_readT hN f (sk len tx qq.1) (ps ++ [qq.2]) c2' h1 _ (by omega) (by omega) (by rw [List.length_append]; simp; omega) (show nI (201 - (f + 1)) + 1 = nI (201 - f) by rw [nI_1]; congr 1; omega) hT2 a2 hp1
                refine am_R.imp this ?_
                rintro r h' ⟨rfl, g1, g2⟩
                rw [et]
                exact ⟨rfl, fr_tr f1 g1 (by omega) (by omega), g2⟩
            · rw [if_neg d2] at q et
              exact flt _ q.1 q.2 et
theorem rdc_eq {k j i nu : Int32} : rdc k j i nu = .inr (5, [.ref 5, .ref 8, .int k, .int j, .int i, .int nu]) := rfl
set_option maxHeartbeats 1000000 in
/-- reading a text -/
theorem c_read {k j i nu : Int32} (hT : cTx len tx h) (h4 : h.1 4 = rdc k j i nu) (hw : pRw h) : am_T M_Reader_read [.ref 4, .ref 2] h (fun r h' => r = none ∧ am_fr 4 11 h h' ∧ rdV len (-1) (prS len tx) h') := by
  obtain ⟨wa, me, wh, mi, N, G, P, fe, fl, F, tr, sp, q1, q2, q3, q4, q5, q6⟩ := hw
  have hl2 : len ≤ 200 := hT.1
  rw [rdc_eq] at h4
  (try unfold am_E); unfold am_T
  repeat (first | refine rs [] rfl rfl rfl rfl ?_ | refine rk rfl rfl ?_ | refine rgoh [] rfl rfl ?_ | refine rgeta (hi := rfl) (kk := ?_) | refine rialda (hi := rfl) (kk := ?_))
  refine rcvt rfl rfl rfl rfl rfl q1 rfl (c_Lclear q1) ?_
  rintro r h' ⟨rfl, rfl⟩
  show am_R M_Reader_read (3, _, []) _ _
  generalize eh1 : am_set h 5 _ = h1
  have f1 : am_fr 4 11 h h1 := by rw [← eh1]; exact fr_set fr_rf (by omega) (by omega)
  have g4 : h1.1 4 = .inr (5, [.ref 5, .ref 8, .int k, .int j, .int i, .int nu]) := by rw [← eh1, am_set_ne (by omega)]; exact h4
  have g5 : h1.1 5 = .inr (4, [.int 0, .int 0, .int 0, .ref 6, .ref 7]) := by rw [← eh1]; exact am_set_eq
  have g6 : h1.1 6 = iar wa := by rw [← eh1, am_set_ne (by omega)]; exact q2
  have g7 : h1.1 7 = iar me := by rw [← eh1, am_set_ne (by omega)]; exact q3
  have g8 : h1.1 8 = .inr (6, [.ref 9, .ref 10, .int fe, .int fl, .int F, .int tr, .int sp]) := by rw [← eh1, am_set_ne (by omega)]; exact q4
  have g9 : h1.1 9 = iar wh := by rw [← eh1, am_set_ne (by omega)]; exact q5
  have g10 : h1.1 10 = iar mi := by rw [← eh1, am_set_ne (by omega)]; exact q6
  repeat (first | refine rs [] rfl rfl rfl rfl ?_ | refine rk rfl rfl ?_ | refine rgoh [] rfl rfl ?_ | refine rgeta (hi := rfl) (kk := ?_) | refine rialda (hi := rfl) (kk := ?_))
  (first | refine rcvs rfl rfl rfl rfl rfl (by first | assumption | (simp (disch := omega) only [am_set_ne, am_set_eq]; first | assumption | rfl)) rfl (c_Sclear rfl g8) ?_ | refine rcvn rfl rfl rfl rfl rfl (by first | assumption | (simp (disch := omega) only [am_set_ne, am_set_eq]; first | assumption | rfl)) rfl (c_Sclear rfl g8) ?_)
  generalize eh2 : am_set h1 8 _ = h2
  have f2 : am_fr 4 11 h h2 := by rw [← eh2]; exact fr_set f1 (by omega) (by omega)
  have p4 : h2.1 4 = .inr (5, [.ref 5, .ref 8, .int k, .int j, .int i, .int nu]) := by rw [← eh2, am_set_ne (by omega)]; exact g4
  have hp : pRd 0 0 0 [] h2 := by
    refine ⟨wa, me, wh, mi, 0, 0, ?_, ?_, ?_, ?_, ?_, ?_, fun p q e => by simp at e⟩ <;> rw [← eh2]
    · rw [am_set_ne (by omega)]; exact g5
    · rw [am_set_ne (by omega)]; exact g6
    · rw [am_set_ne (by omega)]; exact g7
    · exact am_set_eq
    · rw [am_set_ne (by omega)]; exact g9
    · rw [am_set_ne (by omega)]; exact g10
  have hT2 : cTx len tx h2 := hT.fr f2 (by omega)
  repeat (first | refine rs [] rfl rfl rfl rfl ?_ | refine rk rfl rfl ?_ | refine rgoh [] rfl rfl ?_ | refine rgeta (hi := rfl) (kk := ?_) | refine rialda (hi := rfl) (kk := ?_))
  refine rputa (hi := rfl) (kk := ?_)
  repeat (first | refine rs [] rfl rfl rfl rfl ?_ | refine rk rfl rfl ?_ | refine rgoh [] rfl rfl ?_ | refine rgeta (hi := rfl) (kk := ?_) | refine rialda (hi := rfl) (kk := ?_))
  have a0 : atO len (-1) (.inr 0) (rdc 0 (-1) 0 nu) := ⟨nu, by omega, rfl⟩
  simp only [am_set_set]
  refine rcvt rfl rfl rfl rfl rfl am_set_eq rfl (c_skO hT2 a0) ?_
  rintro r h' ⟨c1, rfl, rfl, a1⟩
  show am_R M_Reader_read (18, _, []) _ _
  have hsk := sk_le (tx := tx) (i := 0) (len := len) (by omega)
  obtain ⟨hil, nu1, rfl⟩ := atO_inr a1
  have hT3 := hT2.set (a := 4) (c := rdc 0 (-1) (nI (sk len tx 0)) nu1) (by omega)
  obtain ⟨t1, t2, t3⟩ := id hT3
  repeat (first | refine rs [20] rfl rfl rfl rfl ?_ | refine rk rfl rfl ?_ | refine rgoh [20] rfl rfl ?_ | refine rgeta (hi := rfl) (kk := ?_) | refine rialda (hi := rfl) (kk := ?_))
  repeat (first | refine rs [] rfl rfl rfl rfl ?_ | refine rk rfl rfl ?_ | refine rgoh [] rfl rfl ?_ | refine rgeta (hi := rfl) (kk := ?_) | refine rialda (hi := rfl) (kk := ?_))
  (first | refine rift rfl rfl ?_ | refine riff rfl rfl ?_ | refine rict rfl rfl ?_ | refine ricf rfl rfl ?_)
  · repeat (first | refine rs [] rfl rfl rfl rfl ?_ | refine rk rfl rfl ?_ | refine rgoh [] rfl rfl ?_ | refine rgeta (hi := rfl) (kk := ?_) | refine rialda (hi := rfl) (kk := ?_))
    (first | refine rift rfl rfl ?_ | refine riff rfl rfl ?_ | refine rict rfl rfl ?_ | refine ricf rfl rfl ?_)
    repeat (first | refine rs [] rfl rfl rfl rfl ?_ | refine rk rfl rfl ?_ | refine rgoh [] rfl rfl ?_ | refine rgeta (hi := rfl) (kk := ?_) | refine rialda (hi := rfl) (kk := ?_))
    (first | refine rif rfl rfl (fun c2 => ?_) (fun c2 => ?_) | refine ric rfl rfl (fun c2 => ?_) (fun c2 => ?_))
    · have hi : ¬ sk len tx 0 < len := (nI_lt_iff (by omega) (by omega)).mp c2
      refine rret rfl rfl ?_
      refine ⟨rfl, fr_set f2 (by omega) (by omega), ?_⟩
      unfold prS
      rw [if_neg hi]
      exact ⟨⟨_, _, am_set_eq⟩, hp.set4⟩
    · have hi : sk len tx 0 < len := by
        rw [nI_leI (by omega) (by omega)] at c2
        omega
      repeat (first | refine rs [] rfl rfl rfl rfl ?_ | refine rk rfl rfl ?_ | refine rgoh [] rfl rfl ?_ | refine rgeta (hi := rfl) (kk := ?_) | refine rialda (hi := rfl) (kk := ?_))
      refine rcvt rfl rfl rfl rfl rfl am_set_eq rfl (c_rcF hT2 a1 hp hi) ?_
      rintro r h' ⟨rfl, c', h3, rfl, f3, q⟩
      show am_R M_Reader_read (34, [.ref 4, .ref 2, .int 0], []) _ _
      have hT4 : cTx len tx h3 := hT2.fr f3 (by omega)
      have flt : ∀ e, atO len (-1) (.inl e) c' → h3 = h2 → prS len tx = .inl e → am_R M_Reader_read (34, [.ref 4, .ref 2, .int 0], []) (am_set h3 4 c') (fun r h' => r = none ∧ am_fr 4 11 h h' ∧ rdV len (-1) (prS len tx) h') := by
        intro e a1 eh e1
        obtain ⟨z1, ec1⟩ := rd4 a1
        repeat (first | refine rs [] rfl rfl rfl rfl ?_ | refine rk rfl rfl ?_ | refine rgoh [] rfl rfl ?_ | refine rgeta (hi := rfl) (kk := ?_) | refine rialda (hi := rfl) (kk := ?_))
        refine rcvt rfl rfl rfl rfl rfl (by rw [am_set_eq]; exact ec1) rfl (c_skO hT4 a1) ?_
        rintro r h' ⟨c2', rfl, rfl, a2⟩
        show am_R M_Reader_read (37, [.ref 4, .ref 2, .int 0], []) _ _
        obtain ⟨k, j⟩ := e
        obtain ⟨hk, nu, i2, hi2, rfl⟩ := atO_inl a2
        have hk0 : ¬ nI k = 0 := nI_ne0 hk.1 (by omega)
        repeat (first | refine rs [20] rfl rfl rfl rfl ?_ | refine rk rfl rfl ?_ | refine rgoh [20] rfl rfl ?_ | refine rgeta (hi := rfl) (kk := ?_) | refine rialda (hi := rfl) (kk := ?_))
        repeat (first | refine rs [] rfl rfl rfl rfl ?_ | refine rk rfl rfl ?_ | refine rgoh [] rfl rfl ?_ | refine rgeta (hi := rfl) (kk := ?_) | refine rialda (hi := rfl) (kk := ?_))
        (first | refine rift rfl rfl ?_ | refine riff rfl rfl ?_ | refine rict rfl rfl ?_ | refine ricf rfl rfl ?_)
        · repeat (first | refine rs [] rfl rfl rfl rfl ?_ | refine rk rfl rfl ?_ | refine rgoh [] rfl rfl ?_ | refine rgeta (hi := rfl) (kk := ?_) | refine rialda (hi := rfl) (kk := ?_))
          (first | refine rif rfl rfl (fun c4 => ?_) (fun c4 => ?_) | refine ric rfl rfl (fun c4 => ?_) (fun c4 => ?_))
          · exact absurd c4 hk0
          · refine rret rfl rfl ?_
            rw [e1]
            exact ⟨rfl, fr_tr f2 (fr_set (lo := 4) (hi := 11) f3 (by omega) (by omega)) (by omega) (by omega), hk, ⟨_, _, am_set_eq⟩, (eh ▸ hp).raw.set4⟩
      have et : prS len tx = (if tx (sk len tx 0) = 115 then (match stS len tx (sk len tx 0 + 1) with | .inl e => .inl e | .inr q => (match tlS len tx q.2.1 200 (sk len tx q.1) [] with | .inl e => .inl e | .inr ps => .inr (q.2.1, q.2.2.1, q.2.2.2, ps))) else .inl (1, sk len tx 0)) := by
        unfold prS
        rw [if_pos hi]
      by_cases d1 : tx (sk len tx 0) = 115
      · rw [if_pos d1] at q et
        cases ep : stS len tx (sk len tx 0 + 1) with
        | inl e =>
          rw [ep] at q et
          exact flt _ q.1 q.2 et
        | inr qq =>
          rw [ep] at q et
          dsimp only at q et
          obtain ⟨a3, hp1⟩ := q
          obtain ⟨b1, b2, b3⟩ := stS_pos (by omega) ep
          have hsk := sk_le (tx := tx) b2
          obtain ⟨z1, ec1⟩ := rd4 a3
          repeat (first | refine rs [] rfl rfl rfl rfl ?_ | refine rk rfl rfl ?_ | refine rgoh [] rfl rfl ?_ | refine rgeta (hi := rfl) (kk := ?_) | refine rialda (hi := rfl) (kk := ?_))
          refine rcvt rfl rfl rfl rfl rfl (by rw [am_set_eq]; exact ec1) rfl (c_skO hT4 a3) ?_
          rintro r h' ⟨c2', rfl, rfl, a2⟩
          show am_R M_Reader_read (37, [.ref 4, .ref 2, .int 0], []) _ _
          repeat (first | refine rs [20] rfl rfl rfl rfl ?_ | refine rk rfl rfl ?_ | refine rgoh [20] rfl rfl ?_ | refine rgeta (hi := rfl) (kk := ?_) | refine rialda (hi := rfl) (kk := ?_))
          have hN : 0 < qq.2.1 := by
            have := b3.1
            rw [Int32.not_lt] at this
            exact Int32.lt_of_lt_of_le (by decide) this
          refine am_R.imp (c_readT hN 200 (sk len tx qq.1) [] c2' h3 _ (by omega) (by omega) (by simp) rfl hT4 a2 hp1) ?_
          rintro r h' ⟨rfl, g1, g2⟩
          rw [et]
          exact ⟨rfl, fr_tr (fr_tr f2 f3 (by omega) (by omega)) g1 (by omega) (by omega), g2⟩
      · rw [if_neg d1] at q et
        exact flt _ q.1 q.2 et
end CText
end
section
/-! what a scene says, read off its parts alone -/
def shA (hope : Int32) (S : Sc) (p : Nat) : Int32 := (if bitv hope (nI p) = 1 then 9 else S.2.1 p) + 2 * S.2.2.1 p + 3 * S.2.2.2.1 p
def awA (hope G : Int32) (P : Nat) (S : Sc) : Int32 := fo (fun p s => if shA hope S p < G + S.2.2.2.2.1 then s else s ||| sh1 (S.1 p)) P 0
def stA (hope G : Int32) (N P : Nat) (S : Sc) : Int32 := (sh1 (nI N) - 1) &&& (awA hope G P S ^^^ (-1))
def moA (x : Int32) (P : Nat) (S : Sc) : Int32 := fo (fun p s => if S.1 p = x then mxI s (shA 0 S p) else s) P 0
def rnA (N P : Nat) (G : Int32) (wa me : Nat → Int32) (shut : Int32) (S : Sc) : Sc := (rtF N P wa me (stA 0 G N P S &&& (shut ^^^ (-1))) S.1, S.2.1, S.2.2.1, S.2.2.2.1, S.2.2.2.2.1, S.2.2.2.2.2.1 + 1, stA 0 G N P S &&& (shut ^^^ (-1)))
/-- alike for all persons below P -/
def eqP (P : Nat) (f g : Nat → Int32) : Prop := ∀ p, p < P → f p = g p
theorem eqP_upd {P k : Nat} {f g : Nat → Int32} {v : Int32} (q : eqP P f g) : eqP P (upd f k v) (upd g k v) := by
  intro p hp
  unfold upd
  split
  · rfl
  · exact q p hp
theorem fo_eqP {P n : Nat} {F F' : Nat → (Nat → Int32) → (Nat → Int32)} (hF : ∀ p f g, p < n → eqP P f g → eqP P (F p f) (F' p g)) {f g : Nat → Int32} (q : eqP P f g) : eqP P (fo F n f) (fo F' n g) := by
  induction n with
  | zero => exact q
  | succ n ih => exact hF n _ _ (by omega) (ih (fun p f g hp => hF p f g (by omega)))
section Congr
variable {P : Nat} {wa wa' me me' : Nat → Int32}
theorem loF_eqP {x : Int32} (hw : eqP P wa wa') (hm : eqP P me me') (hP : P ≤ 8) (p : Nat) (f g : Nat → Int32) (hp : p < P) (q : eqP P f g) : eqP P (loF P wa me x p f) (loF P wa' me' x p g) := by
  unfold loF
  rw [q p hp, hw p hp, hm p hp]
  have e : (inR (me' p) P ∧ f (me' p).toNatClampNeg = x) ↔ (inR (me' p) P ∧ g (me' p).toNatClampNeg = x) := by
    refine and_congr_right (fun a => ?_)
    obtain ⟨k, hk, ek⟩ := inR_of a (by omega)
    rw [ek, nI_clamp (by omega), q k hk]
  by_cases c : g p = -1 ∧ wa' p = x ∧ ¬ (inR (me' p) P ∧ g (me' p).toNatClampNeg = x)
  · rw [if_pos c, if_pos ⟨c.1, c.2.1, fun a => c.2.2 (e.mp a)⟩]
    exact eqP_upd q
  · rw [if_neg c, if_neg (fun a => c ⟨a.1, a.2.1, fun b => a.2.2 (e.mpr b)⟩)]
    exact q
theorem tiF_eqP {x : Int32} (hw : eqP P wa wa') (p : Nat) (f g : Nat → Int32) (hp : p < P) (q : eqP P f g) : eqP P (tiF wa x p f) (tiF wa' x p g) := by
  unfold tiF
  rw [q p hp, hw p hp]
  split
  · exact eqP_upd q
  · exact q
theorem emF_eqP {N : Nat} (p : Nat) (f g : Nat → Int32) (hp : p < P) (q : eqP P f g) : eqP P (emF N p f) (emF N p g) := by
  unfold emF
  rw [q p hp]
  split
  · exact eqP_upd q
  · exact q
theorem rtF_eqP {N : Nat} {halts : Int32} {f g : Nat → Int32} (hw : eqP P wa wa') (hm : eqP P me me') (hP : P ≤ 8) (q : eqP P f g) : eqP P (rtF N P wa me halts f) (rtF N P wa' me' halts g) := by
  unfold rtF
  refine fo_eqP (fun p f g hp q => emF_eqP p f g hp q) (fo_eqP (fun p f g _ q => ?_) q)
  unfold stF
  split
  · exact fo_eqP (fun p f g hp q => tiF_eqP hw p f g hp q) (fo_eqP (fun p f g hp q => loF_eqP hw hm hP p f g hp q) q)
  · exact q
theorem arv_eqP {f g : Nat → Int32} (hw : eqP P wa wa') (q : eqP P f g) : arv f wa P = arv g wa' P := by
  unfold arv
  refine fo_congr (fun p b hp => ?_)
  rw [q p hp, hw p hp]
theorem sta_eqP {f g : Nat → Int32} {x : Int32} (q : eqP P f g) : sta f x P = sta g x P := by
  unfold sta
  refine fo_congr (fun p b hp => ?_)
  rw [q p hp]
end Congr
/-- the line at 11 -/
def cLn (N P : Nat) (G : Int32) (wa me : Nat → Int32) (h : am_H) : Prop := N ≤ 8 ∧ P ≤ 8 ∧ ∃ waC meC, h.1 11 = .inr (4, [.int (nI N), .int G, .int (nI P), .ref 12, .ref 13]) ∧ h.1 12 = iar waC ∧ h.1 13 = iar meC ∧ eqP P waC wa ∧ eqP P meC me
theorem cLn.fr {N P lo hi : Nat} {G : Int32} {wa me : Nat → Int32} {h h' : am_H} (f : am_fr lo hi h h') (hd : 14 ≤ lo ∨ hi ≤ 11) (q : cLn N P G wa me h) : cLn N P G wa me h' := by
  obtain ⟨q1, q2, waC, meC, q3, q4, q5, q6, q7⟩ := q
  exact ⟨q1, q2, waC, meC, by rw [f.2 _ (by omega)]; exact q3, by rw [f.2 _ (by omega)]; exact q4, by rw [f.2 _ (by omega)]; exact q5, q6, q7⟩
section CAbs
variable {h : am_H} {N P a mt : Nat} {G : Int32} {wa me : Nat → Int32} {S : Sc}
theorem shw_A {hope fe fl : Int32} {mi : Nat → Int32} {p : Nat} (h2 : mi p = S.2.1 p) (h3 : bitv fe (nI p) = S.2.2.1 p) (h4 : bitv fl (nI p) = S.2.2.2.1 p) : shw hope mi fe fl p = shA hope S p := by
  unfold shw shA
  rw [h2, h3, h4]
theorem awv_A {hope fe fl : Int32} {mi wh : Nat → Int32} (hq : ∀ p, p < P → wh p = S.1 p ∧ mi p = S.2.1 p ∧ bitv fe (nI p) = S.2.2.1 p ∧ bitv fl (nI p) = S.2.2.2.1 p) : awv hope G S.2.2.2.2.1 fe fl mi wh P = awA hope G P S := by
  unfold awv awA
  refine fo_congr (fun p b hp => ?_)
  obtain ⟨q1, q2, q3, q4⟩ := hq p hp
  rw [shw_A q2 q3 q4, q1]
theorem stn_A {hope fe fl : Int32} {mi wh : Nat → Int32} (hq : ∀ p, p < P → wh p = S.1 p ∧ mi p = S.2.1 p ∧ bitv fe (nI p) = S.2.2.1 p ∧ bitv fl (nI p) = S.2.2.2.1 p) : stn hope G S.2.2.2.2.1 fe fl mi wh N P = stA hope G N P S := by
  unfold stn stA
  rw [awv_A hq]
/-- a scene at a over the line at 11, met by the array at mt -/
theorem to_scW {meC : Nat → Int32} (hL : cLn N P G wa me h) (hS : cSc P a S h) (ha : 14 ≤ a) (hm : h.1 mt = iar meC) (hmt : mt ≠ a + 1) : ∃ waC wh mi fe fl, scW a (a + 1) (a + 2) 11 12 13 mt N P G fe fl S.2.2.2.2.1 S.2.2.2.2.2.1 S.2.2.2.2.2.2 mi waC meC h wh ∧ eqP P waC wa ∧ (∀ p, p < P → wh p = S.1 p ∧ mi p = S.2.1 p ∧ bitv fe (nI p) = S.2.2.1 p ∧ bitv fl (nI p) = S.2.2.2.1 p) := by
  obtain ⟨q1, q2, waC, meC', q3, q4, q5, q6, q7⟩ := hL
  obtain ⟨wh, mi, fe, fl, s1, s2, s3, s4⟩ := hS
  exact ⟨waC, wh, mi, fe, fl, ⟨s1, s2, s3, q3, q4, hm, ⟨by omega, by omega, by omega, by omega, by omega, by omega⟩, q1, q2⟩, q6, s4⟩
theorem cLn_me (hL : cLn N P G wa me h) : ∃ meC, h.1 13 = iar meC ∧ eqP P meC me := by
  obtain ⟨q1, q2, waC, meC', q3, q4, q5, q6, q7⟩ := hL
  exact ⟨meC', q5, q7⟩
theorem a_awaited {hope : Int32} (hL : cLn N P G wa me h) (hS : cSc P a S h) (ha : 14 ≤ a) : am_E M_Scene_awaited [.ref a, .ref 11, .int hope] h (some (.int (awA hope G P S))) h := by
  obtain ⟨meC, hm, -⟩ := cLn_me hL
  obtain ⟨waC, wh, mi, fe, fl, H, e1, e2⟩ := to_scW hL hS ha hm (by omega)
  rw [← awv_A e2]
  exact c_awaited H
theorem a_stops {hope : Int32} (hL : cLn N P G wa me h) (hS : cSc P a S h) (ha : 14 ≤ a) : am_E M_Scene_stopsOfNext [.ref a, .ref 11, .int hope] h (some (.int (stA hope G N P S))) h := by
  obtain ⟨meC, hm, -⟩ := cLn_me hL
  obtain ⟨waC, wh, mi, fe, fl, H, e1, e2⟩ := to_scW hL hS ha hm (by omega)
  rw [← stn_A e2]
  exact c_stopsOfNext H
theorem a_hasArrived {p : Int32} {k : Nat} (hp : p = nI k) (hk : k < P) (hL : cLn N P G wa me h) (hS : cSc P a S h) (ha : 14 ≤ a) : am_E M_Scene_hasArrived [.ref a, .ref 11, .int p] h (some (.int (if S.1 k = wa k then 1 else 0))) h := by
  obtain ⟨meC, hm, -⟩ := cLn_me hL
  obtain ⟨waC, wh, mi, fe, fl, H, e1, e2⟩ := to_scW hL hS ha hm (by omega)
  rw [← (e2 k hk).1, ← e1 k hk]
  exact c_hasArrived hp (by have := hL.2.1; omega) H
theorem a_arrived (hL : cLn N P G wa me h) (hS : cSc P a S h) (ha : 14 ≤ a) : am_E M_Scene_arrived [.ref a, .ref 11] h (some (.int (arv S.1 wa P))) h := by
  obtain ⟨meC, hm, -⟩ := cLn_me hL
  obtain ⟨waC, wh, mi, fe, fl, H, e1, e2⟩ := to_scW hL hS ha hm (by omega)
  rw [← arv_eqP e1 (fun p hp => (e2 p hp).1)]
  exact c_arrived H
theorem a_standing {x : Int32} (hL : cLn N P G wa me h) (hS : cSc P a S h) (ha : 14 ≤ a) : am_E M_Scene_standing [.ref a, .ref 11, .int x] h (some (.int (sta S.1 x P))) h := by
  obtain ⟨meC, hm, -⟩ := cLn_me hL
  obtain ⟨waC, wh, mi, fe, fl, H, e1, e2⟩ := to_scW hL hS ha hm (by omega)
  rw [← sta_eqP (fun p hp => (e2 p hp).1)]
  exact c_standing H
theorem a_mostShown {x : Int32} (hL : cLn N P G wa me h) (hS : cSc P a S h) (ha : 14 ≤ a) : am_E M_Scene_mostShown [.ref a, .ref 11, .int x] h (some (.int (moA x P S))) h := by
  obtain ⟨meC, hm, -⟩ := cLn_me hL
  obtain ⟨waC, wh, mi, fe, fl, H, e1, e2⟩ := to_scW hL hS ha hm (by omega)
  have e : mos wh x mi fe fl P = moA x P S := by
    unfold mos moA
    refine fo_congr (fun p b hp => ?_)
    obtain ⟨q1, q2, q3, q4⟩ := e2 p hp
    rw [shw_A q2 q3 q4, q1]
  rw [← e]
  exact c_mostShown H
theorem a_shows {p hope : Int32} {k : Nat} (hp : p = nI k) (hk : k < P) (hP : P ≤ 8) (hS : cSc P a S h) : am_E M_Scene_shows [.ref a, .int p, .int hope] h (some (.int (shA hope S k))) h := by
  obtain ⟨wh, mi, fe, fl, s1, s2, s3, s4⟩ := hS
  obtain ⟨q1, q2, q3, q4⟩ := s4 k hk
  rw [← shw_A q2 q3 q4]
  exact c_shows hp (by omega) s1 s3
theorem a_alarm (hL : cLn N P G wa me h) (hS : cSc P a S h) (ha : 14 ≤ a) : am_E M_Scene_alarm [.ref a, .ref 11] h (some (.int (G + S.2.2.2.2.1))) h := by
  obtain ⟨meC, hm, -⟩ := cLn_me hL
  obtain ⟨waC, wh, mi, fe, fl, H, e1, e2⟩ := to_scW hL hS ha hm (by omega)
  exact c_alarm H.1 H.2.2.2.1
theorem a_run {shut : Int32} {meC me1 : Nat → Int32} (hL : cLn N P G wa me h) (hS : cSc P a S h) (ha : 14 ≤ a) (hm : h.1 mt = iar meC) (hmt : mt ≠ a + 1) (hme : eqP P meC me1) : am_T M_Scene_runTrain [.ref a, .ref 11, .ref mt, .int shut] h (fun r h' => r = none ∧ cSc P a (rnA N P G wa me1 shut S) h' ∧ am_fr a (a + 3) h h') := by
  have hP := hL.2.1
  obtain ⟨waC, wh, mi, fe, fl, H, e1, e2⟩ := to_scW hL hS ha hm hmt
  refine am_R.imp (c_runTrain (shut := shut) H) ?_
  rintro r h' ⟨rfl, rfl⟩
  refine ⟨rfl, ?_, fr_set (fr_set fr_rf (by omega) (by omega)) (by omega) (by omega)⟩
  rw [stn_A e2]
  refine ⟨rtF N P waC meC (stA 0 G N P S &&& (shut ^^^ (-1))) wh, mi, fe, fl, am_set_eq, ?_, ?_, ?_⟩
  · rw [am_set_ne (by omega)]
    exact am_set_eq
  · rw [am_set_ne (by omega), am_set_ne (by omega)]
    exact H.2.2.1
  · intro p hp
    obtain ⟨q1, q2, q3, q4⟩ := e2 p hp
    exact ⟨rtF_eqP e1 hme hP (fun p hp => (e2 p hp).1) p hp, q2, q3, q4⟩
end CAbs
end
section
/-! the whole state, and the class's part of the heap -/
abbrev Ln : Type := Nat × Nat × Int32 × (Nat → Int32) × (Nat → Int32)
abbrev Ls : Type := Nat × (Nat → Int32) × (Nat → Int32)
abbrev Im : Type := Option (Sc × Int32)
/-- text, fault, line, now, deeds, what ran, entries, seed, images -/
abbrev Q : Type := (Nat × (Nat → Int32)) × Int32 × Ln × Sc × List Sc × Ls × Ls × Int32 × Im × Im
def pTop (fa : Int32) (h : am_H) : Prop := h.1 1 = .inr (9, [.ref 2, .ref 4, .ref 11, .ref 14, .ref 17, .ref 20, .ref 21, .ref 113, .ref 117, .ref 120, .ref 121, .int fa])
def pRj (h : am_H) : Prop := (∃ k j i nu, h.1 4 = rdc k j i nu) ∧ pRw h
theorem pRj.fr {lo hi : Nat} {h h' : am_H} (f : am_fr lo hi h h') (hd : 11 ≤ lo ∨ hi ≤ 4) (q : pRj h) : pRj h' := by
  obtain ⟨⟨k, j, i, nu, q0⟩, wa, me, wh, mi, N, G, P, fe, fl, F, tr, sp, q1, q2, q3, q4, q5, q6⟩ := q
  exact ⟨⟨k, j, i, nu, by rw [f.2 _ (by omega)]; exact q0⟩, wa, me, wh, mi, N, G, P, fe, fl, F, tr, sp, by rw [f.2 _ (by omega)]; exact q1, by rw [f.2 _ (by omega)]; exact q2, by rw [f.2 _ (by omega)]; exact q3, by rw [f.2 _ (by omega)]; exact q4, by rw [f.2 _ (by omega)]; exact q5, by rw [f.2 _ (by omega)]; exact q6⟩
theorem cBk.fr {bc lo hi : Nat} {bw bs : Nat → Int32} {h h' : am_H} (f : am_fr lo hi h h') (hd : 120 ≤ lo ∨ hi ≤ 117) (q : cBk bc bw bs h) : cBk bc bw bs h' := by
  obtain ⟨q1, q2, q3, q4⟩ := q
  exact ⟨q1, by rw [f.2 _ (by omega)]; exact q2, by rw [f.2 _ (by omega)]; exact q3, by rw [f.2 _ (by omega)]; exact q4⟩
/-- an image at a -/
def cIm (P a : Nat) (o : Im) (h : am_H) : Prop := ∃ s k, h.1 a = .inr (3, [.ref (a + 1), .int s, .int k]) ∧ cRaw (a + 1) h ∧ match o with | none => k = 0 | some (S, sd) => k = 1 ∧ s = sd ∧ cSc P (a + 1) S h
theorem cIm.fr {P a lo hi : Nat} {o : Im} {h h' : am_H} (f : am_fr lo hi h h') (hd : a + 4 ≤ lo ∨ hi ≤ a) (q : cIm P a o h) : cIm P a o h' := by
  obtain ⟨s, k, q1, q2, q3⟩ := q
  refine ⟨s, k, by rw [f.2 _ (by omega)]; exact q1, q2.fr f (by omega), ?_⟩
  cases o with
  | none => exact q3
  | some z => exact ⟨q3.1, q3.2.1, q3.2.2.fr f (by omega)⟩
def cIms (P : Nat) (i0 i1 : Im) (h : am_H) : Prop := ∃ (f : Nat → Option Nat), h.1 121 = .inl (.object "SpiteLine$Image", 2, .inr (.inr (.inr (.inr f)))) ∧ f 0 = some 122 ∧ f 1 = some 126 ∧ cIm P 122 i0 h ∧ cIm P 126 i1 h
theorem cIms.fr {P lo hi : Nat} {i0 i1 : Im} {h h' : am_H} (f : am_fr lo hi h h') (hd : 130 ≤ lo ∨ hi ≤ 121) (q : cIms P i0 i1 h) : cIms P i0 i1 h' := by
  obtain ⟨g, q1, q2, q3, q4, q5⟩ := q
  exact ⟨g, by rw [f.2 _ (by omega)]; exact q1, q2, q3, q4.fr f (by omega), q5.fr f (by omega)⟩
def cRep : Q → am_H → Prop
  | ⟨⟨len, tx⟩, fa, ⟨N, P, G, wa, me⟩, S, dd, ⟨rc, rx, rh⟩, ⟨bc, bw, bs⟩, sd, i0, i1⟩, h => pTop fa h ∧ cTx len tx h ∧ pRj h ∧ cLn N P G wa me h ∧ cSc P 14 S h ∧ cRaw 17 h ∧ (∃ f, h.1 20 = iar f) ∧ cDd P dd h ∧ cWt rc rx rh h ∧ cBk bc bw bs h ∧ h.1 120 = .inr (2, [.int sd]) ∧ cIms P i0 i1 h
theorem cRep.fr {q : Q} {h h' : am_H} (f : am_fr 130 1000000 h h') (R : cRep q h) : cRep q h' := by
  obtain ⟨⟨len, tx⟩, fa, ⟨N, P, G, wa, me⟩, S, dd, ⟨rc, rx, rh⟩, ⟨bc, bw, bs⟩, sd, i0, i1⟩ := q
  obtain ⟨x1, x2, x3, x4, x5, x6, ⟨tm, x7⟩, x8, x9, x10, x11, x12⟩ := R
  exact ⟨by unfold pTop; rw [f.2 _ (by omega)]; exact x1, x2.fr f (by omega), x3.fr f (by omega), x4.fr f (by omega), x5.fr f (by omega), x6.fr f (by omega), ⟨tm, by rw [f.2 _ (by omega)]; exact x7⟩, x8.fr f (by omega), x9.fr f (by omega), x10.fr f (by omega), by rw [f.2 _ (by omega)]; exact x11, x12.fr f (by omega)⟩
/-- a call of the class does o -/
def am_O (K : am_M) (As : List Value) (o : Int32 × Q) (h : am_H) : Prop := am_T K As h (fun r h' => r = some (.int o.1) ∧ cRep o.2 h' ∧ am_fr 1 130 h h')
section CRep
variable {h h' : am_H} {len N P rc bc : Nat} {fa G sd : Int32} {tx wa me rx rh bw bs : Nat → Int32} {S S' : Sc} {dd dd' : List Sc} {i0 i1 : Im}
/-- only now and deeds have changed -/
theorem cRep_sd (R : cRep ⟨⟨len, tx⟩, fa, ⟨N, P, G, wa, me⟩, S, dd, ⟨rc, rx, rh⟩, ⟨bc, bw, bs⟩, sd, i0, i1⟩ h) (f : am_fr 14 113 h h') (g : ∀ k, 17 ≤ k → k < 21 → h'.1 k = h.1 k) (hS : cSc P 14 S' h') (hD : cDd P dd' h') : cRep ⟨⟨len, tx⟩, fa, ⟨N, P, G, wa, me⟩, S', dd', ⟨rc, rx, rh⟩, ⟨bc, bw, bs⟩, sd, i0, i1⟩ h' := by
  obtain ⟨x1, x2, x3, x4, x5, x6, ⟨tm, x7⟩, x8, x9, x10, x11, x12⟩ := R
  have x6' : cRaw 17 h' := by
    obtain ⟨wh, mi, fe, fl, fog, tr, sp, h1, h2, h3⟩ := x6
    exact ⟨wh, mi, fe, fl, fog, tr, sp, by rw [g _ (by omega) (by omega)]; exact h1, by rw [g _ (by omega) (by omega)]; exact h2, by rw [g _ (by omega) (by omega)]; exact h3⟩
  exact ⟨by unfold pTop; rw [f.2 _ (by omega)]; exact x1, x2.fr f (by omega), x3.fr f (by omega), x4.fr f (by omega), hS, x6', ⟨tm, by rw [g _ (by omega) (by omega)]; exact x7⟩, hD, x9.fr f (by omega), x10.fr f (by omega), by rw [f.2 _ (by omega)]; exact x11, x12.fr f (by omega)⟩
theorem cRep_now (R : cRep ⟨⟨len, tx⟩, fa, ⟨N, P, G, wa, me⟩, S, dd, ⟨rc, rx, rh⟩, ⟨bc, bw, bs⟩, sd, i0, i1⟩ h) (f : am_fr 14 17 h h') (hS : cSc P 14 S' h') : cRep ⟨⟨len, tx⟩, fa, ⟨N, P, G, wa, me⟩, S', dd, ⟨rc, rx, rh⟩, ⟨bc, bw, bs⟩, sd, i0, i1⟩ h' := by
  have D : cDd P dd h := R.2.2.2.2.2.2.2.1
  exact cRep_sd R (fr_wd f (by omega) (by omega)) (fun k h1 h2 => f.2 k (by omega)) hS (D.fr f (by omega))
theorem v_note (R : cRep ⟨⟨len, tx⟩, fa, ⟨N, P, G, wa, me⟩, S, dd, ⟨rc, rx, rh⟩, ⟨bc, bw, bs⟩, sd, i0, i1⟩ h) : am_T M_Deeds_note [.ref 21, .ref 14] h (fun r h' => r = none ∧ cRep ⟨⟨len, tx⟩, fa, ⟨N, P, G, wa, me⟩, S, dnote dd S, ⟨rc, rx, rh⟩, ⟨bc, bw, bs⟩, sd, i0, i1⟩ h' ∧ am_fr 14 113 h h') := by
  have D : cDd P dd h := R.2.2.2.2.2.2.2.1
  have hS : cSc P 14 S h := R.2.2.2.2.1
  have hP : P ≤ 8 := R.2.2.2.1.2.1
  refine am_R.imp (c_note D hS hP) ?_
  rintro r h' ⟨rfl, g1, g2⟩
  exact ⟨rfl, cRep_sd R (fr_wd g2 (by omega) (by omega)) (fun k h1 h2 => g2.2 k (by omega)) (hS.fr g2 (by omega)) g1, fr_wd g2 (by omega) (by omega)⟩
theorem v_run {shut : Int32} (R : cRep ⟨⟨len, tx⟩, fa, ⟨N, P, G, wa, me⟩, S, dd, ⟨rc, rx, rh⟩, ⟨bc, bw, bs⟩, sd, i0, i1⟩ h) : am_T M_Scene_runTrain [.ref 14, .ref 11, .ref 13, .int shut] h (fun r h' => r = none ∧ cRep ⟨⟨len, tx⟩, fa, ⟨N, P, G, wa, me⟩, rnA N P G wa me shut S, dd, ⟨rc, rx, rh⟩, ⟨bc, bw, bs⟩, sd, i0, i1⟩ h' ∧ am_fr 14 17 h h') := by
  have hS : cSc P 14 S h := R.2.2.2.2.1
  have hL : cLn N P G wa me h := R.2.2.2.1
  obtain ⟨meC, hm, hme⟩ := cLn_me hL
  refine am_R.imp (a_run (shut := shut) hL hS (by omega) hm (by omega) hme) ?_
  rintro r h' ⟨rfl, g1, g2⟩
  exact ⟨rfl, cRep_now R g2 g1, g2⟩
theorem v_fault (R : cRep ⟨⟨len, tx⟩, fa, ⟨N, P, G, wa, me⟩, S, dd, ⟨rc, rx, rh⟩, ⟨bc, bw, bs⟩, sd, i0, i1⟩ h) : am_O M_Sp_fault [.ref 1] (fa, ⟨⟨len, tx⟩, fa, ⟨N, P, G, wa, me⟩, S, dd, ⟨rc, rx, rh⟩, ⟨bc, bw, bs⟩, sd, i0, i1⟩) h := by
  obtain ⟨x1, ⟨x2, x3, x4⟩, x5, ⟨x6, x7, waC, meC, x8, x9, x10, x11, x12⟩, ⟨wh, mi, fe, fl, x13, x14, x15, x16⟩, x17, ⟨tm, x18⟩, ⟨fi, ff, x19, x20, x21, x22, x23, x24, x25⟩, ⟨x26, ss, fd, x27, x28, x29, x30⟩, ⟨x31, x32, x33, x34⟩, x35, ⟨fi2, x36, x37, x38, x39, x40⟩⟩ := id R
  have y13 : h.1 14 = .inr (6, [.ref 15, .ref 16, .int fe, .int fl, .int _, .int _, .int _]) := x13
  have y14 : h.1 15 = iar wh := x14
  have y15 : h.1 16 = iar mi := x15
  unfold pTop at x1
  unfold am_O
  (try unfold am_E); unfold am_T
  repeat (first | refine rs [] rfl rfl rfl rfl ?_ | refine rk rfl rfl ?_ | refine rgoh [] rfl rfl ?_ | refine rgeta (hi := rfl) (kk := ?_) | refine rialda (hi := rfl) (kk := ?_))
  refine rret rfl rfl ?_
  exact ⟨rfl, R, fr_rf⟩
def o_mien (p v : Int32) : Q → Int32 × Q
  | ⟨⟨len, tx⟩, fa, ⟨N, P, G, wa, me⟩, S, dd, ⟨rc, rx, rh⟩, ⟨bc, bw, bs⟩, sd, i0, i1⟩ => if inR p P then (if v < 0 ∨ 9 < v then (-1000000002, ⟨⟨len, tx⟩, fa, ⟨N, P, G, wa, me⟩, S, dd, ⟨rc, rx, rh⟩, ⟨bc, bw, bs⟩, sd, i0, i1⟩) else (S.2.1 p.toNatClampNeg, ⟨⟨len, tx⟩, fa, ⟨N, P, G, wa, me⟩, (S.1, upd S.2.1 p.toNatClampNeg v, S.2.2), dnote dd S, ⟨rc, rx, rh⟩, ⟨bc, bw, bs⟩, sd, i0, i1⟩)) else (-1000000001, ⟨⟨len, tx⟩, fa, ⟨N, P, G, wa, me⟩, S, dd, ⟨rc, rx, rh⟩, ⟨bc, bw, bs⟩, sd, i0, i1⟩)
theorem v_mien {p v : Int32} (R : cRep ⟨⟨len, tx⟩, fa, ⟨N, P, G, wa, me⟩, S, dd, ⟨rc, rx, rh⟩, ⟨bc, bw, bs⟩, sd, i0, i1⟩ h) : am_O M_Sp_mien [.ref 1, .int p, .int v] (o_mien p v ⟨⟨len, tx⟩, fa, ⟨N, P, G, wa, me⟩, S, dd, ⟨rc, rx, rh⟩, ⟨bc, bw, bs⟩, sd, i0, i1⟩) h := by
  obtain ⟨x1, ⟨x2, x3, x4⟩, x5, ⟨x6, x7, waC, meC, x8, x9, x10, x11, x12⟩, ⟨wh, mi, fe, fl, x13, x14, x15, x16⟩, x17, ⟨tm, x18⟩, ⟨fi, ff, x19, x20, x21, x22, x23, x24, x25⟩, ⟨x26, ss, fd, x27, x28, x29, x30⟩, ⟨x31, x32, x33, x34⟩, x35, ⟨fi2, x36, x37, x38, x39, x40⟩⟩ := id R
  have y13 : h.1 14 = .inr (6, [.ref 15, .ref 16, .int fe, .int fl, .int _, .int _, .int _]) := x13
  have y14 : h.1 15 = iar wh := x14
  have y15 : h.1 16 = iar mi := x15
  unfold pTop at x1
  unfold am_O o_mien
  (try unfold am_E); unfold am_T
  repeat (first | refine rs [] rfl rfl rfl rfl ?_ | refine rk rfl rfl ?_ | refine rgoh [] rfl rfl ?_ | refine rgeta (hi := rfl) (kk := ?_) | refine rialda (hi := rfl) (kk := ?_))
  (first | refine rcvs rfl rfl rfl rfl rfl (by first | assumption | (simp (disch := omega) only [am_set_ne, am_set_eq]; first | assumption | rfl)) rfl (c_hasPerson x7 x8) ?_ | refine rcvn rfl rfl rfl rfl rfl (by first | assumption | (simp (disch := omega) only [am_set_ne, am_set_eq]; first | assumption | rfl)) rfl (c_hasPerson x7 x8) ?_)
  by_cases c : inR p P
  · rw [if_pos c]
    dsimp only
    rw [if_pos c]
    (first | refine rift rfl rfl ?_ | refine riff rfl rfl ?_ | refine rict rfl rfl ?_ | refine ricf rfl rfl ?_)
    obtain ⟨k, hk, rfl⟩ := inR_of c (by omega)
    repeat (first | refine rs [] rfl rfl rfl rfl ?_ | refine rk rfl rfl ?_ | refine rgoh [] rfl rfl ?_ | refine rgeta (hi := rfl) (kk := ?_) | refine rialda (hi := rfl) (kk := ?_))
    (first | refine rif rfl rfl (fun c1 => ?_) (fun c1 => ?_) | refine ric rfl rfl (fun c1 => ?_) (fun c1 => ?_))
    · repeat (first | refine rs [] rfl rfl rfl rfl ?_ | refine rk rfl rfl ?_ | refine rgoh [] rfl rfl ?_ | refine rgeta (hi := rfl) (kk := ?_) | refine rialda (hi := rfl) (kk := ?_))
      refine rret rfl rfl ?_
      rw [if_pos (Or.inl c1)]
      exact ⟨rfl, R, fr_rf⟩
    · repeat (first | refine rs [] rfl rfl rfl rfl ?_ | refine rk rfl rfl ?_ | refine rgoh [] rfl rfl ?_ | refine rgeta (hi := rfl) (kk := ?_) | refine rialda (hi := rfl) (kk := ?_))
      (first | refine rif rfl rfl (fun c2 => ?_) (fun c2 => ?_) | refine ric rfl rfl (fun c2 => ?_) (fun c2 => ?_))
      · rw [if_neg (by rintro (a | a); exact c1 a; exact absurd c2 (Int32.not_le.mpr a))]
        repeat (first | refine rs [] rfl rfl rfl rfl ?_ | refine rk rfl rfl ?_ | refine rgoh [] rfl rfl ?_ | refine rgeta (hi := rfl) (kk := ?_) | refine rialda (hi := rfl) (kk := ?_))
        refine rcvt rfl rfl rfl rfl rfl x21 rfl (v_note R) ?_
        rintro r h1 ⟨rfl, R1, f1⟩
        show am_R M_Sp_mien (19, [.ref 1, .int (nI k), .int v, _], []) _ _
        obtain ⟨x1, ⟨x2, x3, x4⟩, x5, ⟨x6, x7, waC, meC, x8, x9, x10, x11, x12⟩, ⟨wh, mi, fe, fl, x13, x14, x15, x16⟩, x17, ⟨tm, x18⟩, ⟨fi, ff, x19, x20, x21, x22, x23, x24, x25⟩, ⟨x26, ss, fd, x27, x28, x29, x30⟩, ⟨x31, x32, x33, x34⟩, x35, ⟨fi2, x36, x37, x38, x39, x40⟩⟩ := id R1
        have y13 : h1.1 14 = .inr (6, [.ref 15, .ref 16, .int fe, .int fl, .int _, .int _, .int _]) := x13
        have y14 : h1.1 15 = iar wh := x14
        have y15 : h1.1 16 = iar mi := x15
        unfold pTop at x1
        repeat (first | refine rs [] rfl rfl rfl rfl ?_ | refine rk rfl rfl ?_ | refine rgoh [] rfl rfl ?_ | refine rgeta (hi := rfl) (kk := ?_) | refine rialda (hi := rfl) (kk := ?_))
        refine riasta (hi := rfl) (kk := ?_)
        repeat (first | refine rs [] rfl rfl rfl rfl ?_ | refine rk rfl rfl ?_ | refine rgoh [] rfl rfl ?_ | refine rgeta (hi := rfl) (kk := ?_) | refine rialda (hi := rfl) (kk := ?_))
        refine rret rfl rfl ?_
        rw [nI_clamp (by omega)]
        refine ⟨by rw [(x16 k hk).2.1], ?_, fr_tr (fr_wd f1 (by omega) (by omega)) (fr_set (lo := 14) (hi := 17) fr_rf (by omega) (by omega)) (by omega) (by omega)⟩
        refine cRep_now R1 (fr_set (lo := 14) (hi := 17) fr_rf (by omega) (by omega)) ⟨wh, upd mi k v, fe, fl, ?_, ?_, am_set_eq, ?_⟩
        · rw [am_set_ne (by omega)]; exact x13
        · rw [am_set_ne (by omega)]; exact x14
        · intro p hp
          obtain ⟨q1, q2, q3, q4⟩ := x16 p hp
          refine ⟨q1, ?_, q3, q4⟩
          show upd mi k v p = upd S.2.1 k v p
          exact eqP_upd (fun p hp => (x16 p hp).2.1) p hp
      · repeat (first | refine rs [] rfl rfl rfl rfl ?_ | refine rk rfl rfl ?_ | refine rgoh [] rfl rfl ?_ | refine rgeta (hi := rfl) (kk := ?_) | refine rialda (hi := rfl) (kk := ?_))
        refine rret rfl rfl ?_
        rw [if_pos (Or.inr (Int32.not_le.mp c2))]
        exact ⟨rfl, R, fr_rf⟩
  · rw [if_neg c]
    dsimp only
    rw [if_neg c]
    (first | refine rift rfl rfl ?_ | refine riff rfl rfl ?_ | refine rict rfl rfl ?_ | refine ricf rfl rfl ?_)
    repeat (first | refine rs [] rfl rfl rfl rfl ?_ | refine rk rfl rfl ?_ | refine rgoh [] rfl rfl ?_ | refine rgeta (hi := rfl) (kk := ?_) | refine rialda (hi := rfl) (kk := ?_))
    refine rret rfl rfl ?_
    exact ⟨rfl, R, fr_rf⟩
end CRep
end
section
/-! the class's calls: telling and deeds -/
theorem swc {M : am_M} {x k : Int32} {d t : Nat} {r : List (Int32 × Nat)} {ls st : List Value} {h : am_H} {Φ : Option Value → am_H → Prop} (a : x = k → am_R M (t, ls, st) h Φ) (b : ¬ x = k → am_R M (am_sw x d r, ls, st) h Φ) : am_R M (am_sw x d ((k, t) :: r), ls, st) h Φ := by
  show am_R M (if x = k then t else am_sw x d r, ls, st) h Φ
  split
  · rename_i c; exact a c
  · rename_i c; exact b c
section CCalls
variable {h h' : am_H} {len N P rc bc : Nat} {fa G sd : Int32} {tx wa me rx rh bw bs : Nat → Int32} {S S' : Sc} {dd dd' : List Sc} {i0 i1 : Im}
theorem cRep_tx {len' : Nat} {tx' : Nat → Int32} (R : cRep ⟨⟨len, tx⟩, fa, ⟨N, P, G, wa, me⟩, S, dd, ⟨rc, rx, rh⟩, ⟨bc, bw, bs⟩, sd, i0, i1⟩ h) (f : am_fr 2 4 h h') (q : cTx len' tx' h') : cRep ⟨⟨len', tx'⟩, fa, ⟨N, P, G, wa, me⟩, S, dd, ⟨rc, rx, rh⟩, ⟨bc, bw, bs⟩, sd, i0, i1⟩ h' := by
  obtain ⟨x1, x2, x3, x4, x5, x6, ⟨tm, x7⟩, x8, x9, x10, x11, x12⟩ := R
  exact ⟨by unfold pTop; rw [f.2 _ (by omega)]; exact x1, q, x3.fr f (by omega), x4.fr f (by omega), x5.fr f (by omega), x6.fr f (by omega), ⟨tm, by rw [f.2 _ (by omega)]; exact x7⟩, x8.fr f (by omega), x9.fr f (by omega), x10.fr f (by omega), by rw [f.2 _ (by omega)]; exact x11, x12.fr f (by omega)⟩
theorem cRep_wt {rc' : Nat} {rx' rh' : Nat → Int32} (R : cRep ⟨⟨len, tx⟩, fa, ⟨N, P, G, wa, me⟩, S, dd, ⟨rc, rx, rh⟩, ⟨bc, bw, bs⟩, sd, i0, i1⟩ h) (f : am_fr 113 117 h h') (q : cWt rc' rx' rh' h') : cRep ⟨⟨len, tx⟩, fa, ⟨N, P, G, wa, me⟩, S, dd, ⟨rc', rx', rh'⟩, ⟨bc, bw, bs⟩, sd, i0, i1⟩ h' := by
  obtain ⟨x1, x2, x3, x4, x5, x6, ⟨tm, x7⟩, x8, x9, x10, x11, x12⟩ := R
  exact ⟨by unfold pTop; rw [f.2 _ (by omega)]; exact x1, x2.fr f (by omega), x3.fr f (by omega), x4.fr f (by omega), x5.fr f (by omega), x6.fr f (by omega), ⟨tm, by rw [f.2 _ (by omega)]; exact x7⟩, x8.fr f (by omega), q, x10.fr f (by omega), by rw [f.2 _ (by omega)]; exact x11, x12.fr f (by omega)⟩
theorem cRep_bk {bc' : Nat} {bw' bs' : Nat → Int32} (R : cRep ⟨⟨len, tx⟩, fa, ⟨N, P, G, wa, me⟩, S, dd, ⟨rc, rx, rh⟩, ⟨bc, bw, bs⟩, sd, i0, i1⟩ h) (f : am_fr 117 120 h h') (q : cBk bc' bw' bs' h') : cRep ⟨⟨len, tx⟩, fa, ⟨N, P, G, wa, me⟩, S, dd, ⟨rc, rx, rh⟩, ⟨bc', bw', bs'⟩, sd, i0, i1⟩ h' := by
  obtain ⟨x1, x2, x3, x4, x5, x6, ⟨tm, x7⟩, x8, x9, x10, x11, x12⟩ := R
  exact ⟨by unfold pTop; rw [f.2 _ (by omega)]; exact x1, x2.fr f (by omega), x3.fr f (by omega), x4.fr f (by omega), x5.fr f (by omega), x6.fr f (by omega), ⟨tm, by rw [f.2 _ (by omega)]; exact x7⟩, x8.fr f (by omega), x9.fr f (by omega), q, by rw [f.2 _ (by omega)]; exact x11, x12.fr f (by omega)⟩
theorem cRep_seed {sd' : Int32} (R : cRep ⟨⟨len, tx⟩, fa, ⟨N, P, G, wa, me⟩, S, dd, ⟨rc, rx, rh⟩, ⟨bc, bw, bs⟩, sd, i0, i1⟩ h) (f : am_fr 120 121 h h') (q : h'.1 120 = .inr (2, [.int sd'])) : cRep ⟨⟨len, tx⟩, fa, ⟨N, P, G, wa, me⟩, S, dd, ⟨rc, rx, rh⟩, ⟨bc, bw, bs⟩, sd', i0, i1⟩ h' := by
  obtain ⟨x1, x2, x3, x4, x5, x6, ⟨tm, x7⟩, x8, x9, x10, x11, x12⟩ := R
  exact ⟨by unfold pTop; rw [f.2 _ (by omega)]; exact x1, x2.fr f (by omega), x3.fr f (by omega), x4.fr f (by omega), x5.fr f (by omega), x6.fr f (by omega), ⟨tm, by rw [f.2 _ (by omega)]; exact x7⟩, x8.fr f (by omega), x9.fr f (by omega), x10.fr f (by omega), q, x12.fr f (by omega)⟩
/-- only the trial has changed -/
theorem cRep_tr {f2 : Nat → Int32} (R : cRep ⟨⟨len, tx⟩, fa, ⟨N, P, G, wa, me⟩, S, dd, ⟨rc, rx, rh⟩, ⟨bc, bw, bs⟩, sd, i0, i1⟩ h) (f : am_fr 17 21 h h') (q : cRaw 17 h') (q2 : h'.1 20 = iar f2) : cRep ⟨⟨len, tx⟩, fa, ⟨N, P, G, wa, me⟩, S, dd, ⟨rc, rx, rh⟩, ⟨bc, bw, bs⟩, sd, i0, i1⟩ h' := by
  obtain ⟨x1, x2, x3, x4, x5, x6, ⟨tm, x7⟩, x8, x9, x10, x11, x12⟩ := R
  exact ⟨by unfold pTop; rw [f.2 _ (by omega)]; exact x1, x2.fr f (by omega), x3.fr f (by omega), x4.fr f (by omega), x5.fr f (by omega), q, ⟨_, q2⟩, x8.fr f (by omega), x9.fr f (by omega), x10.fr f (by omega), by rw [f.2 _ (by omega)]; exact x11, x12.fr f (by omega)⟩
def o_feed (c : Int32) : Q → Int32 × Q
  | ⟨⟨len, tx⟩, fa, ⟨N, P, G, wa, me⟩, S, dd, ⟨rc, rx, rh⟩, ⟨bc, bw, bs⟩, sd, i0, i1⟩ => if c < 0 ∨ 255 < c then (-1000000002, ⟨⟨len, tx⟩, fa, ⟨N, P, G, wa, me⟩, S, dd, ⟨rc, rx, rh⟩, ⟨bc, bw, bs⟩, sd, i0, i1⟩) else if len = 200 then (-1000000004, ⟨⟨len, tx⟩, fa, ⟨N, P, G, wa, me⟩, S, dd, ⟨rc, rx, rh⟩, ⟨bc, bw, bs⟩, sd, i0, i1⟩) else (nI (len + 1), ⟨⟨len + 1, upd tx len c⟩, fa, ⟨N, P, G, wa, me⟩, S, dd, ⟨rc, rx, rh⟩, ⟨bc, bw, bs⟩, sd, i0, i1⟩)
theorem v_feed {c : Int32} (R : cRep ⟨⟨len, tx⟩, fa, ⟨N, P, G, wa, me⟩, S, dd, ⟨rc, rx, rh⟩, ⟨bc, bw, bs⟩, sd, i0, i1⟩ h) : am_O M_Sp_feed [.ref 1, .int c] (o_feed c ⟨⟨len, tx⟩, fa, ⟨N, P, G, wa, me⟩, S, dd, ⟨rc, rx, rh⟩, ⟨bc, bw, bs⟩, sd, i0, i1⟩) h := by
  have hT : cTx len tx h := R.2.1
  obtain ⟨x1, ⟨x2, x3, x4⟩, x5, ⟨x6, x7, waC, meC, x8, x9, x10, x11, x12⟩, ⟨wh, mi, fe, fl, x13, x14, x15, x16⟩, x17, ⟨tm, x18⟩, ⟨fi, ff, x19, x20, x21, x22, x23, x24, x25⟩, ⟨x26, ss, fd, x27, x28, x29, x30⟩, ⟨x31, x32, x33, x34⟩, x35, ⟨fi2, x36, x37, x38, x39, x40⟩⟩ := id R
  have y13 : h.1 14 = .inr (6, [.ref 15, .ref 16, .int fe, .int fl, .int _, .int _, .int _]) := x13
  have y14 : h.1 15 = iar wh := x14
  have y15 : h.1 16 = iar mi := x15
  unfold pTop at x1
  unfold am_O o_feed
  (try unfold am_E); unfold am_T
  dsimp only
  repeat (first | refine rs [] rfl rfl rfl rfl ?_ | refine rk rfl rfl ?_ | refine rgoh [] rfl rfl ?_ | refine rgeta (hi := rfl) (kk := ?_) | refine rialda (hi := rfl) (kk := ?_))
  (first | refine rif rfl rfl (fun c1 => ?_) (fun c1 => ?_) | refine ric rfl rfl (fun c1 => ?_) (fun c1 => ?_))
  · repeat (first | refine rs [] rfl rfl rfl rfl ?_ | refine rk rfl rfl ?_ | refine rgoh [] rfl rfl ?_ | refine rgeta (hi := rfl) (kk := ?_) | refine rialda (hi := rfl) (kk := ?_))
    refine rret rfl rfl ?_
    rw [if_pos (Or.inl c1)]
    exact ⟨rfl, R, fr_rf⟩
  · repeat (first | refine rs [] rfl rfl rfl rfl ?_ | refine rk rfl rfl ?_ | refine rgoh [] rfl rfl ?_ | refine rgeta (hi := rfl) (kk := ?_) | refine rialda (hi := rfl) (kk := ?_))
    (first | refine rif rfl rfl (fun c2 => ?_) (fun c2 => ?_) | refine ric rfl rfl (fun c2 => ?_) (fun c2 => ?_))
    · rw [if_neg (by rintro (a | a); exact c1 a; exact absurd c2 (Int32.not_le.mpr a))]
      by_cases e : len = 200
      · rw [if_pos e]
        repeat (first | refine rs [] rfl rfl rfl rfl ?_ | refine rk rfl rfl ?_ | refine rgoh [] rfl rfl ?_ | refine rgeta (hi := rfl) (kk := ?_) | refine rialda (hi := rfl) (kk := ?_))
        (first | refine rcvs rfl rfl rfl rfl rfl (by first | assumption | (simp (disch := omega) only [am_set_ne, am_set_eq]; first | assumption | rfl)) rfl (c_TaddF hT e) ?_ | refine rcvn rfl rfl rfl rfl rfl (by first | assumption | (simp (disch := omega) only [am_set_ne, am_set_eq]; first | assumption | rfl)) rfl (c_TaddF hT e) ?_)
        (first | refine rift rfl rfl ?_ | refine riff rfl rfl ?_ | refine rict rfl rfl ?_ | refine ricf rfl rfl ?_)
        repeat (first | refine rs [] rfl rfl rfl rfl ?_ | refine rk rfl rfl ?_ | refine rgoh [] rfl rfl ?_ | refine rgeta (hi := rfl) (kk := ?_) | refine rialda (hi := rfl) (kk := ?_))
        refine rret rfl rfl ?_
        exact ⟨rfl, R, fr_rf⟩
      · rw [if_neg e]
        repeat (first | refine rs [] rfl rfl rfl rfl ?_ | refine rk rfl rfl ?_ | refine rgoh [] rfl rfl ?_ | refine rgeta (hi := rfl) (kk := ?_) | refine rialda (hi := rfl) (kk := ?_))
        (first | refine rcvs rfl rfl rfl rfl rfl (by first | assumption | (simp (disch := omega) only [am_set_ne, am_set_eq]; first | assumption | rfl)) rfl (c_Tadd hT (by omega)) ?_ | refine rcvn rfl rfl rfl rfl rfl (by first | assumption | (simp (disch := omega) only [am_set_ne, am_set_eq]; first | assumption | rfl)) rfl (c_Tadd hT (by omega)) ?_)
        (first | refine rift rfl rfl ?_ | refine riff rfl rfl ?_ | refine rict rfl rfl ?_ | refine ricf rfl rfl ?_)
        repeat (first | refine rs [] rfl rfl rfl rfl ?_ | refine rk rfl rfl ?_ | refine rgoh [] rfl rfl ?_ | refine rgeta (hi := rfl) (kk := ?_) | refine rialda (hi := rfl) (kk := ?_))
        refine rret rfl rfl ?_
        refine ⟨rfl, cRep_tx R (fr_set (fr_set fr_rf (by omega) (by omega)) (by omega) (by omega)) ⟨by omega, am_set_eq, ?_⟩, fr_set (fr_set fr_rf (by omega) (by omega)) (by omega) (by omega)⟩
        rw [am_set_ne (by omega)]
        exact am_set_eq
    · repeat (first | refine rs [] rfl rfl rfl rfl ?_ | refine rk rfl rfl ?_ | refine rgoh [] rfl rfl ?_ | refine rgeta (hi := rfl) (kk := ?_) | refine rialda (hi := rfl) (kk := ?_))
      refine rret rfl rfl ?_
      rw [if_pos (Or.inr (Int32.not_le.mp c2))]
      exact ⟨rfl, R, fr_rf⟩
def o_seed (v : Int32) : Q → Int32 × Q
  | ⟨⟨len, tx⟩, fa, ⟨N, P, G, wa, me⟩, S, dd, ⟨rc, rx, rh⟩, ⟨bc, bw, bs⟩, sd, i0, i1⟩ => if v < 0 then (-1000000002, ⟨⟨len, tx⟩, fa, ⟨N, P, G, wa, me⟩, S, dd, ⟨rc, rx, rh⟩, ⟨bc, bw, bs⟩, sd, i0, i1⟩) else (sd, ⟨⟨len, tx⟩, fa, ⟨N, P, G, wa, me⟩, S, dd, ⟨rc, rx, rh⟩, ⟨bc, bw, bs⟩, v, i0, i1⟩)
theorem v_seed {v : Int32} (R : cRep ⟨⟨len, tx⟩, fa, ⟨N, P, G, wa, me⟩, S, dd, ⟨rc, rx, rh⟩, ⟨bc, bw, bs⟩, sd, i0, i1⟩ h) : am_O M_Sp_seed [.ref 1, .int v] (o_seed v ⟨⟨len, tx⟩, fa, ⟨N, P, G, wa, me⟩, S, dd, ⟨rc, rx, rh⟩, ⟨bc, bw, bs⟩, sd, i0, i1⟩) h := by
  obtain ⟨x1, ⟨x2, x3, x4⟩, x5, ⟨x6, x7, waC, meC, x8, x9, x10, x11, x12⟩, ⟨wh, mi, fe, fl, x13, x14, x15, x16⟩, x17, ⟨tm, x18⟩, ⟨fi, ff, x19, x20, x21, x22, x23, x24, x25⟩, ⟨x26, ss, fd, x27, x28, x29, x30⟩, ⟨x31, x32, x33, x34⟩, x35, ⟨fi2, x36, x37, x38, x39, x40⟩⟩ := id R
  have y13 : h.1 14 = .inr (6, [.ref 15, .ref 16, .int fe, .int fl, .int _, .int _, .int _]) := x13
  have y14 : h.1 15 = iar wh := x14
  have y15 : h.1 16 = iar mi := x15
  unfold pTop at x1
  unfold am_O o_seed
  (try unfold am_E); unfold am_T
  dsimp only
  by_cases c : v < 0
  · rw [if_pos c]
    repeat (first | refine rs [] rfl rfl rfl rfl ?_ | refine rk rfl rfl ?_ | refine rgoh [] rfl rfl ?_ | refine rgeta (hi := rfl) (kk := ?_) | refine rialda (hi := rfl) (kk := ?_))
    (first | refine rif rfl rfl (fun c1 => ?_) (fun c1 => ?_) | refine ric rfl rfl (fun c1 => ?_) (fun c1 => ?_))
    · exact absurd c (Int32.not_lt.mpr c1)
    · repeat (first | refine rs [] rfl rfl rfl rfl ?_ | refine rk rfl rfl ?_ | refine rgoh [] rfl rfl ?_ | refine rgeta (hi := rfl) (kk := ?_) | refine rialda (hi := rfl) (kk := ?_))
      refine rret rfl rfl ?_
      exact ⟨rfl, R, fr_rf⟩
  · rw [if_neg c]
    repeat (first | refine rs [] rfl rfl rfl rfl ?_ | refine rk rfl rfl ?_ | refine rgoh [] rfl rfl ?_ | refine rgeta (hi := rfl) (kk := ?_) | refine rialda (hi := rfl) (kk := ?_))
    (first | refine rif rfl rfl (fun c1 => ?_) (fun c1 => ?_) | refine ric rfl rfl (fun c1 => ?_) (fun c1 => ?_))
    · repeat (first | refine rs [] rfl rfl rfl rfl ?_ | refine rk rfl rfl ?_ | refine rgoh [] rfl rfl ?_ | refine rgeta (hi := rfl) (kk := ?_) | refine rialda (hi := rfl) (kk := ?_))
      refine rputa (hi := rfl) (kk := ?_)
      repeat (first | refine rs [] rfl rfl rfl rfl ?_ | refine rk rfl rfl ?_ | refine rgoh [] rfl rfl ?_ | refine rgeta (hi := rfl) (kk := ?_) | refine rialda (hi := rfl) (kk := ?_))
      refine rret rfl rfl ?_
      exact ⟨rfl, cRep_seed R (fr_set fr_rf (by omega) (by omega)) am_set_eq, fr_set fr_rf (by omega) (by omega)⟩
    · exact absurd (Int32.not_lt.mp c) c1
def o_told (w : Int32) : Q → Int32 × Q
  | ⟨⟨len, tx⟩, fa, ⟨N, P, G, wa, me⟩, S, dd, ⟨rc, rx, rh⟩, ⟨bc, bw, bs⟩, sd, i0, i1⟩ => (if w = 0 then nI N else if w = 1 then G else if w = 2 then S.2.2.2.2.1 else if w = 3 then nI P else if w = 4 then nI len else if w = 5 then S.2.2.2.2.2.1 else if w = 6 then S.2.2.2.2.2.2 else if w = 7 then awA 0 G P S else if w = 8 then arv S.1 wa P else if w = 9 then nI rc else if w = 10 then nI bc else if w = 11 then nI dd.length else -1000000002, ⟨⟨len, tx⟩, fa, ⟨N, P, G, wa, me⟩, S, dd, ⟨rc, rx, rh⟩, ⟨bc, bw, bs⟩, sd, i0, i1⟩)
theorem v_told {w : Int32} (R : cRep ⟨⟨len, tx⟩, fa, ⟨N, P, G, wa, me⟩, S, dd, ⟨rc, rx, rh⟩, ⟨bc, bw, bs⟩, sd, i0, i1⟩ h) : am_O M_Sp_told [.ref 1, .int w] (o_told w ⟨⟨len, tx⟩, fa, ⟨N, P, G, wa, me⟩, S, dd, ⟨rc, rx, rh⟩, ⟨bc, bw, bs⟩, sd, i0, i1⟩) h := by
  have hL : cLn N P G wa me h := R.2.2.2.1
  have hS : cSc P 14 S h := R.2.2.2.2.1
  obtain ⟨x1, ⟨x2, x3, x4⟩, x5, ⟨x6, x7, waC, meC, x8, x9, x10, x11, x12⟩, ⟨wh, mi, fe, fl, x13, x14, x15, x16⟩, x17, ⟨tm, x18⟩, ⟨fi, ff, x19, x20, x21, x22, x23, x24, x25⟩, ⟨x26, ss, fd, x27, x28, x29, x30⟩, ⟨x31, x32, x33, x34⟩, x35, ⟨fi2, x36, x37, x38, x39, x40⟩⟩ := id R
  have y13 : h.1 14 = .inr (6, [.ref 15, .ref 16, .int fe, .int fl, .int _, .int _, .int _]) := x13
  have y14 : h.1 15 = iar wh := x14
  have y15 : h.1 16 = iar mi := x15
  unfold pTop at x1
  unfold am_O o_told
  (try unfold am_E); unfold am_T
  dsimp only
  repeat (first | refine rs [] rfl rfl rfl rfl ?_ | refine rk rfl rfl ?_ | refine rgoh [] rfl rfl ?_ | refine rgeta (hi := rfl) (kk := ?_) | refine rialda (hi := rfl) (kk := ?_))
  refine rsw rfl rfl ?_
  refine swc (fun c => ?_) (fun c0 => ?_)
  · subst c
    repeat (first | refine rs [] rfl rfl rfl rfl ?_ | refine rk rfl rfl ?_ | refine rgoh [] rfl rfl ?_ | refine rgeta (hi := rfl) (kk := ?_) | refine rialda (hi := rfl) (kk := ?_))
    refine rret rfl rfl ?_
    exact ⟨rfl, R, fr_rf⟩
  rw [if_neg c0]
  refine swc (fun c => ?_) (fun c1 => ?_)
  · subst c
    repeat (first | refine rs [] rfl rfl rfl rfl ?_ | refine rk rfl rfl ?_ | refine rgoh [] rfl rfl ?_ | refine rgeta (hi := rfl) (kk := ?_) | refine rialda (hi := rfl) (kk := ?_))
    refine rret rfl rfl ?_
    exact ⟨rfl, R, fr_rf⟩
  rw [if_neg c1]
  refine swc (fun c => ?_) (fun c2 => ?_)
  · subst c
    repeat (first | refine rs [] rfl rfl rfl rfl ?_ | refine rk rfl rfl ?_ | refine rgoh [] rfl rfl ?_ | refine rgeta (hi := rfl) (kk := ?_) | refine rialda (hi := rfl) (kk := ?_))
    refine rret rfl rfl ?_
    exact ⟨rfl, R, fr_rf⟩
  rw [if_neg c2]
  refine swc (fun c => ?_) (fun c3 => ?_)
  · subst c
    repeat (first | refine rs [] rfl rfl rfl rfl ?_ | refine rk rfl rfl ?_ | refine rgoh [] rfl rfl ?_ | refine rgeta (hi := rfl) (kk := ?_) | refine rialda (hi := rfl) (kk := ?_))
    refine rret rfl rfl ?_
    exact ⟨rfl, R, fr_rf⟩
  rw [if_neg c3]
  refine swc (fun c => ?_) (fun c4 => ?_)
  · subst c
    repeat (first | refine rs [] rfl rfl rfl rfl ?_ | refine rk rfl rfl ?_ | refine rgoh [] rfl rfl ?_ | refine rgeta (hi := rfl) (kk := ?_) | refine rialda (hi := rfl) (kk := ?_))
    refine rret rfl rfl ?_
    exact ⟨rfl, R, fr_rf⟩
  rw [if_neg c4]
  refine swc (fun c => ?_) (fun c5 => ?_)
  · subst c
    repeat (first | refine rs [] rfl rfl rfl rfl ?_ | refine rk rfl rfl ?_ | refine rgoh [] rfl rfl ?_ | refine rgeta (hi := rfl) (kk := ?_) | refine rialda (hi := rfl) (kk := ?_))
    refine rret rfl rfl ?_
    exact ⟨rfl, R, fr_rf⟩
  rw [if_neg c5]
  refine swc (fun c => ?_) (fun c6 => ?_)
  · subst c
    repeat (first | refine rs [] rfl rfl rfl rfl ?_ | refine rk rfl rfl ?_ | refine rgoh [] rfl rfl ?_ | refine rgeta (hi := rfl) (kk := ?_) | refine rialda (hi := rfl) (kk := ?_))
    refine rret rfl rfl ?_
    exact ⟨rfl, R, fr_rf⟩
  rw [if_neg c6]
  refine swc (fun c => ?_) (fun c7 => ?_)
  · subst c
    repeat (first | refine rs [] rfl rfl rfl rfl ?_ | refine rk rfl rfl ?_ | refine rgoh [] rfl rfl ?_ | refine rgeta (hi := rfl) (kk := ?_) | refine rialda (hi := rfl) (kk := ?_))
    (first | refine rcvs rfl rfl rfl rfl rfl (by first | assumption | (simp (disch := omega) only [am_set_ne, am_set_eq]; first | assumption | rfl)) rfl (a_awaited hL hS (by omega)) ?_ | refine rcvn rfl rfl rfl rfl rfl (by first | assumption | (simp (disch := omega) only [am_set_ne, am_set_eq]; first | assumption | rfl)) rfl (a_awaited hL hS (by omega)) ?_)
    refine rret rfl rfl ?_
    exact ⟨rfl, R, fr_rf⟩
  rw [if_neg c7]
  refine swc (fun c => ?_) (fun c8 => ?_)
  · subst c
    repeat (first | refine rs [] rfl rfl rfl rfl ?_ | refine rk rfl rfl ?_ | refine rgoh [] rfl rfl ?_ | refine rgeta (hi := rfl) (kk := ?_) | refine rialda (hi := rfl) (kk := ?_))
    (first | refine rcvs rfl rfl rfl rfl rfl (by first | assumption | (simp (disch := omega) only [am_set_ne, am_set_eq]; first | assumption | rfl)) rfl (a_arrived hL hS (by omega)) ?_ | refine rcvn rfl rfl rfl rfl rfl (by first | assumption | (simp (disch := omega) only [am_set_ne, am_set_eq]; first | assumption | rfl)) rfl (a_arrived hL hS (by omega)) ?_)
    refine rret rfl rfl ?_
    exact ⟨rfl, R, fr_rf⟩
  rw [if_neg c8]
  refine swc (fun c => ?_) (fun c9 => ?_)
  · subst c
    repeat (first | refine rs [] rfl rfl rfl rfl ?_ | refine rk rfl rfl ?_ | refine rgoh [] rfl rfl ?_ | refine rgeta (hi := rfl) (kk := ?_) | refine rialda (hi := rfl) (kk := ?_))
    refine rret rfl rfl ?_
    exact ⟨rfl, R, fr_rf⟩
  rw [if_neg c9]
  refine swc (fun c => ?_) (fun c10 => ?_)
  · subst c
    repeat (first | refine rs [] rfl rfl rfl rfl ?_ | refine rk rfl rfl ?_ | refine rgoh [] rfl rfl ?_ | refine rgeta (hi := rfl) (kk := ?_) | refine rialda (hi := rfl) (kk := ?_))
    refine rret rfl rfl ?_
    exact ⟨rfl, R, fr_rf⟩
  rw [if_neg c10]
  refine swc (fun c => ?_) (fun c11 => ?_)
  · subst c
    repeat (first | refine rs [] rfl rfl rfl rfl ?_ | refine rk rfl rfl ?_ | refine rgoh [] rfl rfl ?_ | refine rgeta (hi := rfl) (kk := ?_) | refine rialda (hi := rfl) (kk := ?_))
    refine rret rfl rfl ?_
    exact ⟨rfl, R, fr_rf⟩
  rw [if_neg c11]
  show am_R M_Sp_told (55, _, _) _ _
  repeat (first | refine rs [] rfl rfl rfl rfl ?_ | refine rk rfl rfl ?_ | refine rgoh [] rfl rfl ?_ | refine rgeta (hi := rfl) (kk := ?_) | refine rialda (hi := rfl) (kk := ?_))
  refine rret rfl rfl ?_
  exact ⟨rfl, R, fr_rf⟩
def o_stops : Q → Int32 × Q
  | ⟨⟨len, tx⟩, fa, ⟨N, P, G, wa, me⟩, S, dd, ⟨rc, rx, rh⟩, ⟨bc, bw, bs⟩, sd, i0, i1⟩ => (stA 0 G N P S, ⟨⟨len, tx⟩, fa, ⟨N, P, G, wa, me⟩, S, dd, ⟨rc, rx, rh⟩, ⟨bc, bw, bs⟩, sd, i0, i1⟩)
theorem v_stops (R : cRep ⟨⟨len, tx⟩, fa, ⟨N, P, G, wa, me⟩, S, dd, ⟨rc, rx, rh⟩, ⟨bc, bw, bs⟩, sd, i0, i1⟩ h) : am_O M_Sp_stops [.ref 1] (o_stops ⟨⟨len, tx⟩, fa, ⟨N, P, G, wa, me⟩, S, dd, ⟨rc, rx, rh⟩, ⟨bc, bw, bs⟩, sd, i0, i1⟩) h := by
  have hL : cLn N P G wa me h := R.2.2.2.1
  have hS : cSc P 14 S h := R.2.2.2.2.1
  obtain ⟨x1, ⟨x2, x3, x4⟩, x5, ⟨x6, x7, waC, meC, x8, x9, x10, x11, x12⟩, ⟨wh, mi, fe, fl, x13, x14, x15, x16⟩, x17, ⟨tm, x18⟩, ⟨fi, ff, x19, x20, x21, x22, x23, x24, x25⟩, ⟨x26, ss, fd, x27, x28, x29, x30⟩, ⟨x31, x32, x33, x34⟩, x35, ⟨fi2, x36, x37, x38, x39, x40⟩⟩ := id R
  have y13 : h.1 14 = .inr (6, [.ref 15, .ref 16, .int fe, .int fl, .int _, .int _, .int _]) := x13
  have y14 : h.1 15 = iar wh := x14
  have y15 : h.1 16 = iar mi := x15
  unfold pTop at x1
  unfold am_O o_stops
  (try unfold am_E); unfold am_T
  dsimp only
  repeat (first | refine rs [] rfl rfl rfl rfl ?_ | refine rk rfl rfl ?_ | refine rgoh [] rfl rfl ?_ | refine rgeta (hi := rfl) (kk := ?_) | refine rialda (hi := rfl) (kk := ?_))
  (first | refine rcvs rfl rfl rfl rfl rfl (by first | assumption | (simp (disch := omega) only [am_set_ne, am_set_eq]; first | assumption | rfl)) rfl (a_stops hL hS (by omega)) ?_ | refine rcvn rfl rfl rfl rfl rfl (by first | assumption | (simp (disch := omega) only [am_set_ne, am_set_eq]; first | assumption | rfl)) rfl (a_stops hL hS (by omega)) ?_)
  refine rret rfl rfl ?_
  exact ⟨rfl, R, fr_rf⟩
def o_station (x w : Int32) : Q → Int32 × Q
  | ⟨⟨len, tx⟩, fa, ⟨N, P, G, wa, me⟩, S, dd, ⟨rc, rx, rh⟩, ⟨bc, bw, bs⟩, sd, i0, i1⟩ => (if inR x N then (if w = 0 then sta S.1 x P else if w = 1 then moA x P S else -1000000002) else -1000000001, ⟨⟨len, tx⟩, fa, ⟨N, P, G, wa, me⟩, S, dd, ⟨rc, rx, rh⟩, ⟨bc, bw, bs⟩, sd, i0, i1⟩)
theorem v_station {x w : Int32} (R : cRep ⟨⟨len, tx⟩, fa, ⟨N, P, G, wa, me⟩, S, dd, ⟨rc, rx, rh⟩, ⟨bc, bw, bs⟩, sd, i0, i1⟩ h) : am_O M_Sp_station [.ref 1, .int x, .int w] (o_station x w ⟨⟨len, tx⟩, fa, ⟨N, P, G, wa, me⟩, S, dd, ⟨rc, rx, rh⟩, ⟨bc, bw, bs⟩, sd, i0, i1⟩) h := by
  have hL : cLn N P G wa me h := R.2.2.2.1
  have hS : cSc P 14 S h := R.2.2.2.2.1
  obtain ⟨x1, ⟨x2, x3, x4⟩, x5, ⟨x6, x7, waC, meC, x8, x9, x10, x11, x12⟩, ⟨wh, mi, fe, fl, x13, x14, x15, x16⟩, x17, ⟨tm, x18⟩, ⟨fi, ff, x19, x20, x21, x22, x23, x24, x25⟩, ⟨x26, ss, fd, x27, x28, x29, x30⟩, ⟨x31, x32, x33, x34⟩, x35, ⟨fi2, x36, x37, x38, x39, x40⟩⟩ := id R
  have y13 : h.1 14 = .inr (6, [.ref 15, .ref 16, .int fe, .int fl, .int _, .int _, .int _]) := x13
  have y14 : h.1 15 = iar wh := x14
  have y15 : h.1 16 = iar mi := x15
  unfold pTop at x1
  unfold am_O o_station
  (try unfold am_E); unfold am_T
  dsimp only
  repeat (first | refine rs [] rfl rfl rfl rfl ?_ | refine rk rfl rfl ?_ | refine rgoh [] rfl rfl ?_ | refine rgeta (hi := rfl) (kk := ?_) | refine rialda (hi := rfl) (kk := ?_))
  (first | refine rcvs rfl rfl rfl rfl rfl (by first | assumption | (simp (disch := omega) only [am_set_ne, am_set_eq]; first | assumption | rfl)) rfl (c_hasStation x8) ?_ | refine rcvn rfl rfl rfl rfl rfl (by first | assumption | (simp (disch := omega) only [am_set_ne, am_set_eq]; first | assumption | rfl)) rfl (c_hasStation x8) ?_)
  by_cases c : inR x N
  · rw [if_pos c, if_pos c]
    (first | refine rift rfl rfl ?_ | refine riff rfl rfl ?_ | refine rict rfl rfl ?_ | refine ricf rfl rfl ?_)
    repeat (first | refine rs [] rfl rfl rfl rfl ?_ | refine rk rfl rfl ?_ | refine rgoh [] rfl rfl ?_ | refine rgeta (hi := rfl) (kk := ?_) | refine rialda (hi := rfl) (kk := ?_))
    refine rsw rfl rfl ?_
    refine swc (fun c => ?_) (fun c0 => ?_)
    · subst c
      repeat (first | refine rs [] rfl rfl rfl rfl ?_ | refine rk rfl rfl ?_ | refine rgoh [] rfl rfl ?_ | refine rgeta (hi := rfl) (kk := ?_) | refine rialda (hi := rfl) (kk := ?_))
      (first | refine rcvs rfl rfl rfl rfl rfl (by first | assumption | (simp (disch := omega) only [am_set_ne, am_set_eq]; first | assumption | rfl)) rfl (a_standing hL hS (by omega)) ?_ | refine rcvn rfl rfl rfl rfl rfl (by first | assumption | (simp (disch := omega) only [am_set_ne, am_set_eq]; first | assumption | rfl)) rfl (a_standing hL hS (by omega)) ?_)
      refine rret rfl rfl ?_
      exact ⟨rfl, R, fr_rf⟩
    rw [if_neg c0]
    refine swc (fun c => ?_) (fun c1 => ?_)
    · subst c
      repeat (first | refine rs [] rfl rfl rfl rfl ?_ | refine rk rfl rfl ?_ | refine rgoh [] rfl rfl ?_ | refine rgeta (hi := rfl) (kk := ?_) | refine rialda (hi := rfl) (kk := ?_))
      (first | refine rcvs rfl rfl rfl rfl rfl (by first | assumption | (simp (disch := omega) only [am_set_ne, am_set_eq]; first | assumption | rfl)) rfl (a_mostShown hL hS (by omega)) ?_ | refine rcvn rfl rfl rfl rfl rfl (by first | assumption | (simp (disch := omega) only [am_set_ne, am_set_eq]; first | assumption | rfl)) rfl (a_mostShown hL hS (by omega)) ?_)
      refine rret rfl rfl ?_
      exact ⟨rfl, R, fr_rf⟩
    rw [if_neg c1]
    show am_R M_Sp_station (23, _, _) _ _
    repeat (first | refine rs [] rfl rfl rfl rfl ?_ | refine rk rfl rfl ?_ | refine rgoh [] rfl rfl ?_ | refine rgeta (hi := rfl) (kk := ?_) | refine rialda (hi := rfl) (kk := ?_))
    refine rret rfl rfl ?_
    exact ⟨rfl, R, fr_rf⟩
  · rw [if_neg c, if_neg c]
    (first | refine rift rfl rfl ?_ | refine riff rfl rfl ?_ | refine rict rfl rfl ?_ | refine ricf rfl rfl ?_)
    repeat (first | refine rs [] rfl rfl rfl rfl ?_ | refine rk rfl rfl ?_ | refine rgoh [] rfl rfl ?_ | refine rgeta (hi := rfl) (kk := ?_) | refine rialda (hi := rfl) (kk := ?_))
    refine rret rfl rfl ?_
    exact ⟨rfl, R, fr_rf⟩
def o_tear : Q → Int32 × Q
  | ⟨⟨len, tx⟩, fa, ⟨N, P, G, wa, me⟩, S, dd, ⟨rc, rx, rh⟩, ⟨bc, bw, bs⟩, sd, i0, i1⟩ => (nI rc + nI bc, ⟨⟨len, tx⟩, fa, ⟨N, P, G, wa, me⟩, S, dd, ⟨0, rx, rh⟩, ⟨0, bw, bs⟩, sd, i0, i1⟩)
theorem v_tear (R : cRep ⟨⟨len, tx⟩, fa, ⟨N, P, G, wa, me⟩, S, dd, ⟨rc, rx, rh⟩, ⟨bc, bw, bs⟩, sd, i0, i1⟩ h) : am_O M_Sp_tear [.ref 1] (o_tear ⟨⟨len, tx⟩, fa, ⟨N, P, G, wa, me⟩, S, dd, ⟨rc, rx, rh⟩, ⟨bc, bw, bs⟩, sd, i0, i1⟩) h := by
  obtain ⟨x1, ⟨x2, x3, x4⟩, x5, ⟨x6, x7, waC, meC, x8, x9, x10, x11, x12⟩, ⟨wh, mi, fe, fl, x13, x14, x15, x16⟩, x17, ⟨tm, x18⟩, ⟨fi, ff, x19, x20, x21, x22, x23, x24, x25⟩, ⟨x26, ss, fd, x27, x28, x29, x30⟩, ⟨x31, x32, x33, x34⟩, x35, ⟨fi2, x36, x37, x38, x39, x40⟩⟩ := id R
  have y13 : h.1 14 = .inr (6, [.ref 15, .ref 16, .int fe, .int fl, .int _, .int _, .int _]) := x13
  have y14 : h.1 15 = iar wh := x14
  have y15 : h.1 16 = iar mi := x15
  unfold pTop at x1
  unfold am_O o_tear
  (try unfold am_E); unfold am_T
  dsimp only
  repeat (first | refine rs [] rfl rfl rfl rfl ?_ | refine rk rfl rfl ?_ | refine rgoh [] rfl rfl ?_ | refine rgeta (hi := rfl) (kk := ?_) | refine rialda (hi := rfl) (kk := ?_))
  refine rputa (hi := rfl) (kk := ?_)
  repeat (first | refine rs [] rfl rfl rfl rfl ?_ | refine rk rfl rfl ?_ | refine rgoh [] rfl rfl ?_ | refine rgeta (hi := rfl) (kk := ?_) | refine rialda (hi := rfl) (kk := ?_))
  refine rputa (hi := rfl) (kk := ?_)
  repeat (first | refine rs [] rfl rfl rfl rfl ?_ | refine rk rfl rfl ?_ | refine rgoh [] rfl rfl ?_ | refine rgeta (hi := rfl) (kk := ?_) | refine rialda (hi := rfl) (kk := ?_))
  refine rret rfl rfl ?_
  have f1 : am_fr 113 117 h (am_set h 113 (.inr (8, [.ref 114, .ref 115, .int (nI 0), .ref 116, .int fd]))) := fr_set fr_rf (by omega) (by omega)
  have R1 : cRep ⟨⟨len, tx⟩, fa, ⟨N, P, G, wa, me⟩, S, dd, ⟨0, rx, rh⟩, ⟨bc, bw, bs⟩, sd, i0, i1⟩ (am_set h 113 (.inr (8, [.ref 114, .ref 115, .int (nI 0), .ref 116, .int fd]))) := cRep_wt R f1 ⟨by omega, ss, fd, am_set_eq, by rw [am_set_ne (by omega)]; exact x28, by rw [am_set_ne (by omega)]; exact x29, by rw [am_set_ne (by omega)]; exact x30⟩
  refine ⟨rfl, cRep_bk R1 (fr_set fr_rf (by omega) (by omega)) ⟨by omega, am_set_eq, ?_, ?_⟩, fr_set (fr_set fr_rf (by omega) (by omega)) (by omega) (by omega)⟩
  · rw [am_set_ne (by omega), am_set_ne (by omega)]; exact x33
  · rw [am_set_ne (by omega), am_set_ne (by omega)]; exact x34
def o_ran (x z : Int32) : Q → Int32 × Q
  | ⟨⟨len, tx⟩, fa, ⟨N, P, G, wa, me⟩, S, dd, ⟨rc, rx, rh⟩, ⟨bc, bw, bs⟩, sd, i0, i1⟩ => if inR x N then (if rc = 8 then (-1000000004, ⟨⟨len, tx⟩, fa, ⟨N, P, G, wa, me⟩, S, dd, ⟨rc, rx, rh⟩, ⟨bc, bw, bs⟩, sd, i0, i1⟩) else (nI (rc + 1), ⟨⟨len, tx⟩, fa, ⟨N, P, G, wa, me⟩, S, dd, ⟨rc + 1, upd rx rc x, upd rh rc (z &&& 1)⟩, ⟨bc, bw, bs⟩, sd, i0, i1⟩)) else (-1000000001, ⟨⟨len, tx⟩, fa, ⟨N, P, G, wa, me⟩, S, dd, ⟨rc, rx, rh⟩, ⟨bc, bw, bs⟩, sd, i0, i1⟩)
theorem v_ran {x z : Int32} (R : cRep ⟨⟨len, tx⟩, fa, ⟨N, P, G, wa, me⟩, S, dd, ⟨rc, rx, rh⟩, ⟨bc, bw, bs⟩, sd, i0, i1⟩ h) : am_O M_Sp_ran [.ref 1, .int x, .int z] (o_ran x z ⟨⟨len, tx⟩, fa, ⟨N, P, G, wa, me⟩, S, dd, ⟨rc, rx, rh⟩, ⟨bc, bw, bs⟩, sd, i0, i1⟩) h := by
  have hW : cWt rc rx rh h := R.2.2.2.2.2.2.2.2.1
  obtain ⟨x1, ⟨x2, x3, x4⟩, x5, ⟨x6, x7, waC, meC, x8, x9, x10, x11, x12⟩, ⟨wh, mi, fe, fl, x13, x14, x15, x16⟩, x17, ⟨tm, x18⟩, ⟨fi, ff, x19, x20, x21, x22, x23, x24, x25⟩, ⟨x26, ss, fd, x27, x28, x29, x30⟩, ⟨x31, x32, x33, x34⟩, x35, ⟨fi2, x36, x37, x38, x39, x40⟩⟩ := id R
  have y13 : h.1 14 = .inr (6, [.ref 15, .ref 16, .int fe, .int fl, .int _, .int _, .int _]) := x13
  have y14 : h.1 15 = iar wh := x14
  have y15 : h.1 16 = iar mi := x15
  unfold pTop at x1
  unfold am_O o_ran
  (try unfold am_E); unfold am_T
  dsimp only
  repeat (first | refine rs [] rfl rfl rfl rfl ?_ | refine rk rfl rfl ?_ | refine rgoh [] rfl rfl ?_ | refine rgeta (hi := rfl) (kk := ?_) | refine rialda (hi := rfl) (kk := ?_))
  (first | refine rcvs rfl rfl rfl rfl rfl (by first | assumption | (simp (disch := omega) only [am_set_ne, am_set_eq]; first | assumption | rfl)) rfl (c_hasStation x8) ?_ | refine rcvn rfl rfl rfl rfl rfl (by first | assumption | (simp (disch := omega) only [am_set_ne, am_set_eq]; first | assumption | rfl)) rfl (c_hasStation x8) ?_)
  by_cases c : inR x N
  · rw [if_pos c, if_pos c]
    (first | refine rift rfl rfl ?_ | refine riff rfl rfl ?_ | refine rict rfl rfl ?_ | refine ricf rfl rfl ?_)
    by_cases e : rc = 8
    · rw [if_pos e]
      repeat (first | refine rs [] rfl rfl rfl rfl ?_ | refine rk rfl rfl ?_ | refine rgoh [] rfl rfl ?_ | refine rgeta (hi := rfl) (kk := ?_) | refine rialda (hi := rfl) (kk := ?_))
      (first | refine rcvs rfl rfl rfl rfl rfl (by first | assumption | (simp (disch := omega) only [am_set_ne, am_set_eq]; first | assumption | rfl)) rfl (c_WaddF hW e) ?_ | refine rcvn rfl rfl rfl rfl rfl (by first | assumption | (simp (disch := omega) only [am_set_ne, am_set_eq]; first | assumption | rfl)) rfl (c_WaddF hW e) ?_)
      (first | refine rift rfl rfl ?_ | refine riff rfl rfl ?_ | refine rict rfl rfl ?_ | refine ricf rfl rfl ?_)
      repeat (first | refine rs [] rfl rfl rfl rfl ?_ | refine rk rfl rfl ?_ | refine rgoh [] rfl rfl ?_ | refine rgeta (hi := rfl) (kk := ?_) | refine rialda (hi := rfl) (kk := ?_))
      refine rret rfl rfl ?_
      exact ⟨rfl, R, fr_rf⟩
    · rw [if_neg e]
      repeat (first | refine rs [] rfl rfl rfl rfl ?_ | refine rk rfl rfl ?_ | refine rgoh [] rfl rfl ?_ | refine rgeta (hi := rfl) (kk := ?_) | refine rialda (hi := rfl) (kk := ?_))
      refine rcvt rfl rfl rfl rfl rfl x27 rfl (c_Wadd hW (by omega)) ?_
      rintro r h1 ⟨rfl, W1, f1⟩
      have R1 := cRep_wt R f1 W1
      show am_R M_Sp_ran (12, [.ref 1, .int x, .int z], [.int 1]) _ _
      obtain ⟨x1, ⟨x2, x3, x4⟩, x5, ⟨x6, x7, waC, meC, x8, x9, x10, x11, x12⟩, ⟨wh, mi, fe, fl, x13, x14, x15, x16⟩, x17, ⟨tm, x18⟩, ⟨fi, ff, x19, x20, x21, x22, x23, x24, x25⟩, ⟨x26, ss, fd, x27, x28, x29, x30⟩, ⟨x31, x32, x33, x34⟩, x35, ⟨fi2, x36, x37, x38, x39, x40⟩⟩ := id R1
      have y13 : h1.1 14 = .inr (6, [.ref 15, .ref 16, .int fe, .int fl, .int _, .int _, .int _]) := x13
      have y14 : h1.1 15 = iar wh := x14
      have y15 : h1.1 16 = iar mi := x15
      unfold pTop at x1
      (first | refine rift rfl rfl ?_ | refine riff rfl rfl ?_ | refine rict rfl rfl ?_ | refine ricf rfl rfl ?_)
      repeat (first | refine rs [] rfl rfl rfl rfl ?_ | refine rk rfl rfl ?_ | refine rgoh [] rfl rfl ?_ | refine rgeta (hi := rfl) (kk := ?_) | refine rialda (hi := rfl) (kk := ?_))
      refine rret rfl rfl ?_
      exact ⟨rfl, R1, fr_wd f1 (by omega) (by omega)⟩
  · rw [if_neg c, if_neg c]
    (first | refine rift rfl rfl ?_ | refine riff rfl rfl ?_ | refine rict rfl rfl ?_ | refine ricf rfl rfl ?_)
    repeat (first | refine rs [] rfl rfl rfl rfl ?_ | refine rk rfl rfl ?_ | refine rgoh [] rfl rfl ?_ | refine rgeta (hi := rfl) (kk := ?_) | refine rialda (hi := rfl) (kk := ?_))
    refine rret rfl rfl ?_
    exact ⟨rfl, R, fr_rf⟩
def o_write (p x : Int32) : Q → Int32 × Q
  | ⟨⟨len, tx⟩, fa, ⟨N, P, G, wa, me⟩, S, dd, ⟨rc, rx, rh⟩, ⟨bc, bw, bs⟩, sd, i0, i1⟩ => if inR p P ∧ inR x N then (if bc = 20 then (-1000000004, ⟨⟨len, tx⟩, fa, ⟨N, P, G, wa, me⟩, S, dd, ⟨rc, rx, rh⟩, ⟨bc, bw, bs⟩, sd, i0, i1⟩) else (nI (bc + 1), ⟨⟨len, tx⟩, fa, ⟨N, P, G, wa, me⟩, S, dd, ⟨rc, rx, rh⟩, ⟨bc + 1, upd bw bc p, upd bs bc x⟩, sd, i0, i1⟩)) else (-1000000001, ⟨⟨len, tx⟩, fa, ⟨N, P, G, wa, me⟩, S, dd, ⟨rc, rx, rh⟩, ⟨bc, bw, bs⟩, sd, i0, i1⟩)
theorem v_write {p x : Int32} (R : cRep ⟨⟨len, tx⟩, fa, ⟨N, P, G, wa, me⟩, S, dd, ⟨rc, rx, rh⟩, ⟨bc, bw, bs⟩, sd, i0, i1⟩ h) : am_O M_Sp_write [.ref 1, .int p, .int x] (o_write p x ⟨⟨len, tx⟩, fa, ⟨N, P, G, wa, me⟩, S, dd, ⟨rc, rx, rh⟩, ⟨bc, bw, bs⟩, sd, i0, i1⟩) h := by
  have hB : cBk bc bw bs h := R.2.2.2.2.2.2.2.2.2.1
  obtain ⟨x1, ⟨x2, x3, x4⟩, x5, ⟨x6, x7, waC, meC, x8, x9, x10, x11, x12⟩, ⟨wh, mi, fe, fl, x13, x14, x15, x16⟩, x17, ⟨tm, x18⟩, ⟨fi, ff, x19, x20, x21, x22, x23, x24, x25⟩, ⟨x26, ss, fd, x27, x28, x29, x30⟩, ⟨x31, x32, x33, x34⟩, x35, ⟨fi2, x36, x37, x38, x39, x40⟩⟩ := id R
  have y13 : h.1 14 = .inr (6, [.ref 15, .ref 16, .int fe, .int fl, .int _, .int _, .int _]) := x13
  have y14 : h.1 15 = iar wh := x14
  have y15 : h.1 16 = iar mi := x15
  unfold pTop at x1
  unfold am_O o_write
  (try unfold am_E); unfold am_T
  dsimp only
  repeat (first | refine rs [] rfl rfl rfl rfl ?_ | refine rk rfl rfl ?_ | refine rgoh [] rfl rfl ?_ | refine rgeta (hi := rfl) (kk := ?_) | refine rialda (hi := rfl) (kk := ?_))
  (first | refine rcvs rfl rfl rfl rfl rfl (by first | assumption | (simp (disch := omega) only [am_set_ne, am_set_eq]; first | assumption | rfl)) rfl (c_hasPerson x7 x8) ?_ | refine rcvn rfl rfl rfl rfl rfl (by first | assumption | (simp (disch := omega) only [am_set_ne, am_set_eq]; first | assumption | rfl)) rfl (c_hasPerson x7 x8) ?_)
  by_cases c : inR p P
  · rw [if_pos c]
    (first | refine rift rfl rfl ?_ | refine riff rfl rfl ?_ | refine rict rfl rfl ?_ | refine ricf rfl rfl ?_)
    repeat (first | refine rs [] rfl rfl rfl rfl ?_ | refine rk rfl rfl ?_ | refine rgoh [] rfl rfl ?_ | refine rgeta (hi := rfl) (kk := ?_) | refine rialda (hi := rfl) (kk := ?_))
    (first | refine rcvs rfl rfl rfl rfl rfl (by first | assumption | (simp (disch := omega) only [am_set_ne, am_set_eq]; first | assumption | rfl)) rfl (c_hasStation x8) ?_ | refine rcvn rfl rfl rfl rfl rfl (by first | assumption | (simp (disch := omega) only [am_set_ne, am_set_eq]; first | assumption | rfl)) rfl (c_hasStation x8) ?_)
    by_cases d : inR x N
    · rw [if_pos d, if_pos ⟨c, d⟩]
      (first | refine rift rfl rfl ?_ | refine riff rfl rfl ?_ | refine rict rfl rfl ?_ | refine ricf rfl rfl ?_)
      by_cases e : bc = 20
      · rw [if_pos e]
        repeat (first | refine rs [] rfl rfl rfl rfl ?_ | refine rk rfl rfl ?_ | refine rgoh [] rfl rfl ?_ | refine rgeta (hi := rfl) (kk := ?_) | refine rialda (hi := rfl) (kk := ?_))
        (first | refine rcvs rfl rfl rfl rfl rfl (by first | assumption | (simp (disch := omega) only [am_set_ne, am_set_eq]; first | assumption | rfl)) rfl (c_BaddF hB e) ?_ | refine rcvn rfl rfl rfl rfl rfl (by first | assumption | (simp (disch := omega) only [am_set_ne, am_set_eq]; first | assumption | rfl)) rfl (c_BaddF hB e) ?_)
        (first | refine rift rfl rfl ?_ | refine riff rfl rfl ?_ | refine rict rfl rfl ?_ | refine ricf rfl rfl ?_)
        repeat (first | refine rs [] rfl rfl rfl rfl ?_ | refine rk rfl rfl ?_ | refine rgoh [] rfl rfl ?_ | refine rgeta (hi := rfl) (kk := ?_) | refine rialda (hi := rfl) (kk := ?_))
        refine rret rfl rfl ?_
        exact ⟨rfl, R, fr_rf⟩
      · rw [if_neg e]
        repeat (first | refine rs [] rfl rfl rfl rfl ?_ | refine rk rfl rfl ?_ | refine rgoh [] rfl rfl ?_ | refine rgeta (hi := rfl) (kk := ?_) | refine rialda (hi := rfl) (kk := ?_))
        (first | refine rcvs rfl rfl rfl rfl rfl (by first | assumption | (simp (disch := omega) only [am_set_ne, am_set_eq]; first | assumption | rfl)) rfl (c_Badd hB (by omega)) ?_ | refine rcvn rfl rfl rfl rfl rfl (by first | assumption | (simp (disch := omega) only [am_set_ne, am_set_eq]; first | assumption | rfl)) rfl (c_Badd hB (by omega)) ?_)
        (first | refine rift rfl rfl ?_ | refine riff rfl rfl ?_ | refine rict rfl rfl ?_ | refine ricf rfl rfl ?_)
        repeat (first | refine rs [] rfl rfl rfl rfl ?_ | refine rk rfl rfl ?_ | refine rgoh [] rfl rfl ?_ | refine rgeta (hi := rfl) (kk := ?_) | refine rialda (hi := rfl) (kk := ?_))
        refine rret rfl rfl ?_
        refine ⟨rfl, cRep_bk R (fr_set (fr_set (fr_set fr_rf (by omega) (by omega)) (by omega) (by omega)) (by omega) (by omega)) ⟨by omega, am_set_eq, ?_, ?_⟩, fr_set (fr_set (fr_set fr_rf (by omega) (by omega)) (by omega) (by omega)) (by omega) (by omega)⟩
        · rw [am_set_ne (by omega), am_set_ne (by omega)]; exact am_set_eq
        · rw [am_set_ne (by omega)]; exact am_set_eq
    · rw [if_neg d, if_neg (fun a => d a.2)]
      (first | refine rift rfl rfl ?_ | refine riff rfl rfl ?_ | refine rict rfl rfl ?_ | refine ricf rfl rfl ?_)
      repeat (first | refine rs [] rfl rfl rfl rfl ?_ | refine rk rfl rfl ?_ | refine rgoh [] rfl rfl ?_ | refine rgeta (hi := rfl) (kk := ?_) | refine rialda (hi := rfl) (kk := ?_))
      refine rret rfl rfl ?_
      exact ⟨rfl, R, fr_rf⟩
  · rw [if_neg c, if_neg (fun a => c a.1)]
    (first | refine rift rfl rfl ?_ | refine riff rfl rfl ?_ | refine rict rfl rfl ?_ | refine ricf rfl rfl ?_)
    repeat (first | refine rs [] rfl rfl rfl rfl ?_ | refine rk rfl rfl ?_ | refine rgoh [] rfl rfl ?_ | refine rgeta (hi := rfl) (kk := ?_) | refine rialda (hi := rfl) (kk := ?_))
    refine rret rfl rfl ?_
    exact ⟨rfl, R, fr_rf⟩
noncomputable def o_judge : Q → Int32 × Q
  | ⟨⟨len, tx⟩, fa, ⟨N, P, G, wa, me⟩, S, dd, ⟨rc, rx, rh⟩, ⟨bc, bw, bs⟩, sd, i0, i1⟩ => (Classical.epsilon (isFst (fun i => S.1 (bw i).toNatClampNeg ≠ bs i) bc), ⟨⟨len, tx⟩, fa, ⟨N, P, G, wa, me⟩, S, dd, ⟨rc, rx, rh⟩, ⟨bc, bw, bs⟩, sd, i0, i1⟩)
theorem isFst_eps {q : Nat → Prop} {n : Nat} {r : Int32} (h : isFst q n r) : Classical.epsilon (isFst q n) = r := isFst_eq (Classical.epsilon_spec ⟨r, h⟩) h
theorem isFst_congr {q q' : Nat → Prop} {n : Nat} {r : Int32} (h : isFst q n r) (e : ∀ i, i < n → (q i ↔ q' i)) : isFst q' n r := by
  rcases h with ⟨i, h1, h2, h3, h4⟩ | ⟨h1, h2⟩
  · exact Or.inl ⟨i, h1, h2, (e i h1).mp h3, fun k hk a => h4 k hk ((e k (by omega)).mpr a)⟩
  · exact Or.inr ⟨h1, fun k hk a => h2 k hk ((e k hk).mpr a)⟩
theorem v_judge (R : cRep ⟨⟨len, tx⟩, fa, ⟨N, P, G, wa, me⟩, S, dd, ⟨rc, rx, rh⟩, ⟨bc, bw, bs⟩, sd, i0, i1⟩ h) (hb : ∀ i, i < bc → ∃ k, k < P ∧ bw i = nI k) : am_O M_Sp_judge [.ref 1] (o_judge ⟨⟨len, tx⟩, fa, ⟨N, P, G, wa, me⟩, S, dd, ⟨rc, rx, rh⟩, ⟨bc, bw, bs⟩, sd, i0, i1⟩) h := by
  have hB : cBk bc bw bs h := R.2.2.2.2.2.2.2.2.2.1
  obtain ⟨x1, ⟨x2, x3, x4⟩, x5, ⟨x6, x7, waC, meC, x8, x9, x10, x11, x12⟩, ⟨wh, mi, fe, fl, x13, x14, x15, x16⟩, x17, ⟨tm, x18⟩, ⟨fi, ff, x19, x20, x21, x22, x23, x24, x25⟩, ⟨x26, ss, fd, x27, x28, x29, x30⟩, ⟨x31, x32, x33, x34⟩, x35, ⟨fi2, x36, x37, x38, x39, x40⟩⟩ := id R
  have y13 : h.1 14 = .inr (6, [.ref 15, .ref 16, .int fe, .int fl, .int _, .int _, .int _]) := x13
  have y14 : h.1 15 = iar wh := x14
  have y15 : h.1 16 = iar mi := x15
  unfold pTop at x1
  unfold am_O o_judge
  (try unfold am_E); unfold am_T
  dsimp only
  repeat (first | refine rs [] rfl rfl rfl rfl ?_ | refine rk rfl rfl ?_ | refine rgoh [] rfl rfl ?_ | refine rgeta (hi := rfl) (kk := ?_) | refine rialda (hi := rfl) (kk := ?_))
  refine rcvt rfl rfl rfl rfl rfl x32 rfl (c_firstWrong hB x7 hb y13 y14) ?_
  rintro r h1 ⟨rfl, v, rfl, q⟩
  show am_R M_Sp_judge (5, [.ref 1], [.int v]) _ _
  refine rret rfl rfl ?_
  refine ⟨?_, R, fr_rf⟩
  rw [isFst_eps (isFst_congr q (fun i hi => ?_))]
  obtain ⟨k, hk, ek⟩ := hb i hi
  rw [ek, nI_clamp (by omega), (x16 k hk).1]
end CCalls
end
section
/-! the class's calls: persons, deeds, trains -/
theorem arv_bit {f wa : Nat → Int32} {k : Nat} (hk : k < 32) : ∀ n, n ≤ 32 → bitv (arv f wa n) (nI k) = if k < n ∧ f k = wa k then 1 else 0
  | 0, _ => by
    rw [if_neg (by omega)]
    exact bitv_0 hk
  | n + 1, hn => by
    have ih := arv_bit (f := f) (wa := wa) hk n (by omega)
    have e : arv f wa (n + 1) = if f n = wa n then arv f wa n ||| sh1 (nI n) else arv f wa n := rfl
    rw [e]
    by_cases c : f n = wa n
    · rw [if_pos c, bitv_or (by omega) hk]
      by_cases d : k = n
      · subst d
        rw [if_pos rfl, if_pos ⟨by omega, c⟩]
      · rw [if_neg d, ih]
        by_cases g : k < n ∧ f k = wa k
        · rw [if_pos g, if_pos ⟨by omega, g.2⟩]
        · rw [if_neg g, if_neg (fun a => g ⟨by omega, a.2⟩)]
    · rw [if_neg c, ih]
      by_cases g : k < n ∧ f k = wa k
      · rw [if_pos g, if_pos ⟨by omega, g.2⟩]
      · rw [if_neg g, if_neg (fun a => g ⟨by
          rcases Nat.lt_or_ge k n with w | w
          · exact w
          · have : k = n := by omega
            subst this
            exact absurd a.2 c, a.2⟩)]
theorem nI_0lt {n : Nat} (hn : n ≤ 8) : (0 < nI n) ↔ n ≠ 0 := by
  rw [show (0 : Int32) = nI 0 by decide, nI_ltI (by omega) (by omega)]
  omega
section CDeeds
variable {h h' : am_H} {len N P rc bc : Nat} {fa G sd : Int32} {tx wa me rx rh bw bs : Nat → Int32} {S S' : Sc} {dd dd' : List Sc} {i0 i1 : Im}
def o_person (p w : Int32) : Q → Int32 × Q
  | ⟨⟨len, tx⟩, fa, ⟨N, P, G, wa, me⟩, S, dd, ⟨rc, rx, rh⟩, ⟨bc, bw, bs⟩, sd, i0, i1⟩ => (if inR p P then (if w = 0 then S.1 p.toNatClampNeg else if w = 1 then wa p.toNatClampNeg else if w = 2 then me p.toNatClampNeg else if w = 3 then S.2.1 p.toNatClampNeg else if w = 4 then S.2.2.1 p.toNatClampNeg else if w = 5 then S.2.2.2.1 p.toNatClampNeg else if w = 6 then shA 0 S p.toNatClampNeg else if w = 7 then (if S.1 p.toNatClampNeg = wa p.toNatClampNeg then 1 else 0) else -1000000002) else -1000000001, ⟨⟨len, tx⟩, fa, ⟨N, P, G, wa, me⟩, S, dd, ⟨rc, rx, rh⟩, ⟨bc, bw, bs⟩, sd, i0, i1⟩)
theorem v_person {p w : Int32} (R : cRep ⟨⟨len, tx⟩, fa, ⟨N, P, G, wa, me⟩, S, dd, ⟨rc, rx, rh⟩, ⟨bc, bw, bs⟩, sd, i0, i1⟩ h) : am_O M_Sp_person [.ref 1, .int p, .int w] (o_person p w ⟨⟨len, tx⟩, fa, ⟨N, P, G, wa, me⟩, S, dd, ⟨rc, rx, rh⟩, ⟨bc, bw, bs⟩, sd, i0, i1⟩) h := by
  have hL : cLn N P G wa me h := R.2.2.2.1
  have hS : cSc P 14 S h := R.2.2.2.2.1
  obtain ⟨x1, ⟨x2, x3, x4⟩, x5, ⟨x6, x7, waC, meC, x8, x9, x10, x11, x12⟩, ⟨wh, mi, fe, fl, x13, x14, x15, x16⟩, x17, ⟨tm, x18⟩, ⟨fi, ff, x19, x20, x21, x22, x23, x24, x25⟩, ⟨x26, ss, fd, x27, x28, x29, x30⟩, ⟨x31, x32, x33, x34⟩, x35, ⟨fi2, x36, x37, x38, x39, x40⟩⟩ := id R
  have y13 : h.1 14 = .inr (6, [.ref 15, .ref 16, .int fe, .int fl, .int _, .int _, .int _]) := x13
  have y14 : h.1 15 = iar wh := x14
  have y15 : h.1 16 = iar mi := x15
  unfold pTop at x1
  unfold am_O o_person
  (try unfold am_E); unfold am_T
  dsimp only
  repeat (first | refine rs [] rfl rfl rfl rfl ?_ | refine rk rfl rfl ?_ | refine rgoh [] rfl rfl ?_ | refine rgeta (hi := rfl) (kk := ?_) | refine rialda (hi := rfl) (kk := ?_))
  (first | refine rcvs rfl rfl rfl rfl rfl (by first | assumption | (simp (disch := omega) only [am_set_ne, am_set_eq]; first | assumption | rfl)) rfl (c_hasPerson x7 x8) ?_ | refine rcvn rfl rfl rfl rfl rfl (by first | assumption | (simp (disch := omega) only [am_set_ne, am_set_eq]; first | assumption | rfl)) rfl (c_hasPerson x7 x8) ?_)
  by_cases c : inR p P
  · rw [if_pos c, if_pos c]
    (first | refine rift rfl rfl ?_ | refine riff rfl rfl ?_ | refine rict rfl rfl ?_ | refine ricf rfl rfl ?_)
    obtain ⟨k, hk, rfl⟩ := inR_of c (by omega)
    obtain ⟨e1, e2, e3, e4⟩ := x16 k hk
    rw [nI_clamp (by omega)]
    repeat (first | refine rs [] rfl rfl rfl rfl ?_ | refine rk rfl rfl ?_ | refine rgoh [] rfl rfl ?_ | refine rgeta (hi := rfl) (kk := ?_) | refine rialda (hi := rfl) (kk := ?_))
    refine rsw rfl rfl ?_
    refine swc (fun c => ?_) (fun c0 => ?_)
    · subst c
      repeat (first | refine rs [] rfl rfl rfl rfl ?_ | refine rk rfl rfl ?_ | refine rgoh [] rfl rfl ?_ | refine rgeta (hi := rfl) (kk := ?_) | refine rialda (hi := rfl) (kk := ?_))
      refine rret rfl rfl ?_
      exact ⟨by rw [if_pos rfl, e1], R, fr_rf⟩
    rw [if_neg c0]
    refine swc (fun c => ?_) (fun c1 => ?_)
    · subst c
      repeat (first | refine rs [] rfl rfl rfl rfl ?_ | refine rk rfl rfl ?_ | refine rgoh [] rfl rfl ?_ | refine rgeta (hi := rfl) (kk := ?_) | refine rialda (hi := rfl) (kk := ?_))
      refine rret rfl rfl ?_
      exact ⟨by rw [if_pos rfl, x11 k hk], R, fr_rf⟩
    rw [if_neg c1]
    refine swc (fun c => ?_) (fun c2 => ?_)
    · subst c
      repeat (first | refine rs [] rfl rfl rfl rfl ?_ | refine rk rfl rfl ?_ | refine rgoh [] rfl rfl ?_ | refine rgeta (hi := rfl) (kk := ?_) | refine rialda (hi := rfl) (kk := ?_))
      refine rret rfl rfl ?_
      exact ⟨by rw [if_pos rfl, x12 k hk], R, fr_rf⟩
    rw [if_neg c2]
    refine swc (fun c => ?_) (fun c3 => ?_)
    · subst c
      repeat (first | refine rs [] rfl rfl rfl rfl ?_ | refine rk rfl rfl ?_ | refine rgoh [] rfl rfl ?_ | refine rgeta (hi := rfl) (kk := ?_) | refine rialda (hi := rfl) (kk := ?_))
      refine rret rfl rfl ?_
      exact ⟨by rw [if_pos rfl, e2], R, fr_rf⟩
    rw [if_neg c3]
    refine swc (fun c => ?_) (fun c4 => ?_)
    · subst c
      repeat (first | refine rs [] rfl rfl rfl rfl ?_ | refine rk rfl rfl ?_ | refine rgoh [] rfl rfl ?_ | refine rgeta (hi := rfl) (kk := ?_) | refine rialda (hi := rfl) (kk := ?_))
      refine rcss rfl rfl rfl rfl rfl (c_bit) ?_
      refine rret rfl rfl ?_
      exact ⟨by rw [if_pos rfl, e3], R, fr_rf⟩
    rw [if_neg c4]
    refine swc (fun c => ?_) (fun c5 => ?_)
    · subst c
      repeat (first | refine rs [] rfl rfl rfl rfl ?_ | refine rk rfl rfl ?_ | refine rgoh [] rfl rfl ?_ | refine rgeta (hi := rfl) (kk := ?_) | refine rialda (hi := rfl) (kk := ?_))
      refine rcss rfl rfl rfl rfl rfl (c_bit) ?_
      refine rret rfl rfl ?_
      exact ⟨by rw [if_pos rfl, e4], R, fr_rf⟩
    rw [if_neg c5]
    refine swc (fun c => ?_) (fun c6 => ?_)
    · subst c
      repeat (first | refine rs [] rfl rfl rfl rfl ?_ | refine rk rfl rfl ?_ | refine rgoh [] rfl rfl ?_ | refine rgeta (hi := rfl) (kk := ?_) | refine rialda (hi := rfl) (kk := ?_))
      (first | refine rcvs rfl rfl rfl rfl rfl (by first | assumption | (simp (disch := omega) only [am_set_ne, am_set_eq]; first | assumption | rfl)) rfl (a_shows rfl hk x7 hS) ?_ | refine rcvn rfl rfl rfl rfl rfl (by first | assumption | (simp (disch := omega) only [am_set_ne, am_set_eq]; first | assumption | rfl)) rfl (a_shows rfl hk x7 hS) ?_)
      refine rret rfl rfl ?_
      exact ⟨by rw [if_pos rfl], R, fr_rf⟩
    rw [if_neg c6]
    refine swc (fun c => ?_) (fun c7 => ?_)
    · subst c
      repeat (first | refine rs [] rfl rfl rfl rfl ?_ | refine rk rfl rfl ?_ | refine rgoh [] rfl rfl ?_ | refine rgeta (hi := rfl) (kk := ?_) | refine rialda (hi := rfl) (kk := ?_))
      (first | refine rcvs rfl rfl rfl rfl rfl (by first | assumption | (simp (disch := omega) only [am_set_ne, am_set_eq]; first | assumption | rfl)) rfl (a_arrived hL hS (by omega)) ?_ | refine rcvn rfl rfl rfl rfl rfl (by first | assumption | (simp (disch := omega) only [am_set_ne, am_set_eq]; first | assumption | rfl)) rfl (a_arrived hL hS (by omega)) ?_)
      repeat (first | refine rs [] rfl rfl rfl rfl ?_ | refine rk rfl rfl ?_ | refine rgoh [] rfl rfl ?_ | refine rgeta (hi := rfl) (kk := ?_) | refine rialda (hi := rfl) (kk := ?_))
      refine rcss rfl rfl rfl rfl rfl (c_bit) ?_
      refine rret rfl rfl ?_
      refine ⟨?_, R, fr_rf⟩
      rw [if_pos rfl, arv_bit (by omega) P (by omega)]
      by_cases g : S.1 k = wa k
      · rw [if_pos ⟨hk, g⟩, if_pos g]
      · rw [if_neg (fun a => g a.2), if_neg g]
    rw [if_neg c7]
    show am_R M_Sp_person (59, _, _) _ _
    repeat (first | refine rs [] rfl rfl rfl rfl ?_ | refine rk rfl rfl ?_ | refine rgoh [] rfl rfl ?_ | refine rgeta (hi := rfl) (kk := ?_) | refine rialda (hi := rfl) (kk := ?_))
    refine rret rfl rfl ?_
    exact ⟨rfl, R, fr_rf⟩
  · rw [if_neg c, if_neg c]
    (first | refine rift rfl rfl ?_ | refine riff rfl rfl ?_ | refine rict rfl rfl ?_ | refine ricf rfl rfl ?_)
    repeat (first | refine rs [] rfl rfl rfl rfl ?_ | refine rk rfl rfl ?_ | refine rgoh [] rfl rfl ?_ | refine rgeta (hi := rfl) (kk := ?_) | refine rialda (hi := rfl) (kk := ?_))
    refine rret rfl rfl ?_
    exact ⟨rfl, R, fr_rf⟩
def o_feet (p z : Int32) : Q → Int32 × Q
  | ⟨⟨len, tx⟩, fa, ⟨N, P, G, wa, me⟩, S, dd, ⟨rc, rx, rh⟩, ⟨bc, bw, bs⟩, sd, i0, i1⟩ => if inR p P then (S.2.2.1 p.toNatClampNeg, ⟨⟨len, tx⟩, fa, ⟨N, P, G, wa, me⟩, (S.1, S.2.1, upd S.2.2.1 p.toNatClampNeg (if z = 0 then 0 else 1), S.2.2.2), dnote dd S, ⟨rc, rx, rh⟩, ⟨bc, bw, bs⟩, sd, i0, i1⟩) else (-1000000001, ⟨⟨len, tx⟩, fa, ⟨N, P, G, wa, me⟩, S, dd, ⟨rc, rx, rh⟩, ⟨bc, bw, bs⟩, sd, i0, i1⟩)
theorem v_feet {p z : Int32} (R : cRep ⟨⟨len, tx⟩, fa, ⟨N, P, G, wa, me⟩, S, dd, ⟨rc, rx, rh⟩, ⟨bc, bw, bs⟩, sd, i0, i1⟩ h) : am_O M_Sp_feet [.ref 1, .int p, .int z] (o_feet p z ⟨⟨len, tx⟩, fa, ⟨N, P, G, wa, me⟩, S, dd, ⟨rc, rx, rh⟩, ⟨bc, bw, bs⟩, sd, i0, i1⟩) h := by
  obtain ⟨x1, ⟨x2, x3, x4⟩, x5, ⟨x6, x7, waC, meC, x8, x9, x10, x11, x12⟩, ⟨wh, mi, fe, fl, x13, x14, x15, x16⟩, x17, ⟨tm, x18⟩, ⟨fi, ff, x19, x20, x21, x22, x23, x24, x25⟩, ⟨x26, ss, fd, x27, x28, x29, x30⟩, ⟨x31, x32, x33, x34⟩, x35, ⟨fi2, x36, x37, x38, x39, x40⟩⟩ := id R
  have y13 : h.1 14 = .inr (6, [.ref 15, .ref 16, .int fe, .int fl, .int _, .int _, .int _]) := x13
  have y14 : h.1 15 = iar wh := x14
  have y15 : h.1 16 = iar mi := x15
  unfold pTop at x1
  unfold am_O o_feet
  (try unfold am_E); unfold am_T
  dsimp only
  repeat (first | refine rs [] rfl rfl rfl rfl ?_ | refine rk rfl rfl ?_ | refine rgoh [] rfl rfl ?_ | refine rgeta (hi := rfl) (kk := ?_) | refine rialda (hi := rfl) (kk := ?_))
  (first | refine rcvs rfl rfl rfl rfl rfl (by first | assumption | (simp (disch := omega) only [am_set_ne, am_set_eq]; first | assumption | rfl)) rfl (c_hasPerson x7 x8) ?_ | refine rcvn rfl rfl rfl rfl rfl (by first | assumption | (simp (disch := omega) only [am_set_ne, am_set_eq]; first | assumption | rfl)) rfl (c_hasPerson x7 x8) ?_)
  by_cases c : inR p P
  · rw [if_pos c, if_pos c]
    (first | refine rift rfl rfl ?_ | refine riff rfl rfl ?_ | refine rict rfl rfl ?_ | refine ricf rfl rfl ?_)
    obtain ⟨k, hk, rfl⟩ := inR_of c (by omega)
    rw [nI_clamp (by omega)]
    repeat (first | refine rs [] rfl rfl rfl rfl ?_ | refine rk rfl rfl ?_ | refine rgoh [] rfl rfl ?_ | refine rgeta (hi := rfl) (kk := ?_) | refine rialda (hi := rfl) (kk := ?_))
    refine rcvt rfl rfl rfl rfl rfl x21 rfl (v_note R) ?_
    rintro r h1 ⟨rfl, R1, f1⟩
    show am_R M_Sp_feet (12, [.ref 1, .int (nI k), .int z, _], []) _ _
    obtain ⟨x1, ⟨x2, x3, x4⟩, x5, ⟨x6, x7, waC, meC, x8, x9, x10, x11, x12⟩, ⟨wh, mi, fe, fl, x13, x14, x15, x16⟩, x17, ⟨tm, x18⟩, ⟨fi, ff, x19, x20, x21, x22, x23, x24, x25⟩, ⟨x26, ss, fd, x27, x28, x29, x30⟩, ⟨x31, x32, x33, x34⟩, x35, ⟨fi2, x36, x37, x38, x39, x40⟩⟩ := id R1
    have y13 : h1.1 14 = .inr (6, [.ref 15, .ref 16, .int fe, .int fl, .int _, .int _, .int _]) := x13
    have y14 : h1.1 15 = iar wh := x14
    have y15 : h1.1 16 = iar mi := x15
    unfold pTop at x1
    repeat (first | refine rs [] rfl rfl rfl rfl ?_ | refine rk rfl rfl ?_ | refine rgoh [] rfl rfl ?_ | refine rgeta (hi := rfl) (kk := ?_) | refine rialda (hi := rfl) (kk := ?_))
    refine rcss rfl rfl rfl rfl rfl (c_bit) ?_
    repeat (first | refine rs [] rfl rfl rfl rfl ?_ | refine rk rfl rfl ?_ | refine rgoh [] rfl rfl ?_ | refine rgeta (hi := rfl) (kk := ?_) | refine rialda (hi := rfl) (kk := ?_))
    refine rcss rfl rfl rfl rfl rfl (c_withBit) ?_
    refine rputa (hi := rfl) (kk := ?_)
    repeat (first | refine rs [] rfl rfl rfl rfl ?_ | refine rk rfl rfl ?_ | refine rgoh [] rfl rfl ?_ | refine rgeta (hi := rfl) (kk := ?_) | refine rialda (hi := rfl) (kk := ?_))
    refine rret rfl rfl ?_
    refine ⟨by rw [(x16 k hk).2.2.1], ?_, fr_tr (fr_wd f1 (by omega) (by omega)) (fr_set (lo := 14) (hi := 17) fr_rf (by omega) (by omega)) (by omega) (by omega)⟩
    refine cRep_now R1 (fr_set (lo := 14) (hi := 17) fr_rf (by omega) (by omega)) ⟨wh, mi, _, fl, am_set_eq, ?_, ?_, ?_⟩
    · rw [am_set_ne (by omega)]; exact x14
    · rw [am_set_ne (by omega)]; exact x15
    · intro p hp
      obtain ⟨q1, q2, q3, q4⟩ := x16 p hp
      refine ⟨q1, q2, ?_, q4⟩
      rw [bitv_wb (by omega) (by omega), q3]
      rfl
  · rw [if_neg c, if_neg c]
    (first | refine rift rfl rfl ?_ | refine riff rfl rfl ?_ | refine rict rfl rfl ?_ | refine ricf rfl rfl ?_)
    repeat (first | refine rs [] rfl rfl rfl rfl ?_ | refine rk rfl rfl ?_ | refine rgoh [] rfl rfl ?_ | refine rgeta (hi := rfl) (kk := ?_) | refine rialda (hi := rfl) (kk := ?_))
    refine rret rfl rfl ?_
    exact ⟨rfl, R, fr_rf⟩
def o_flowers (p z : Int32) : Q → Int32 × Q
  | ⟨⟨len, tx⟩, fa, ⟨N, P, G, wa, me⟩, S, dd, ⟨rc, rx, rh⟩, ⟨bc, bw, bs⟩, sd, i0, i1⟩ => if inR p P then (S.2.2.2.1 p.toNatClampNeg, ⟨⟨len, tx⟩, fa, ⟨N, P, G, wa, me⟩, (S.1, S.2.1, S.2.2.1, upd S.2.2.2.1 p.toNatClampNeg (if z = 0 then 0 else 1), S.2.2.2.2), dnote dd S, ⟨rc, rx, rh⟩, ⟨bc, bw, bs⟩, sd, i0, i1⟩) else (-1000000001, ⟨⟨len, tx⟩, fa, ⟨N, P, G, wa, me⟩, S, dd, ⟨rc, rx, rh⟩, ⟨bc, bw, bs⟩, sd, i0, i1⟩)
theorem v_flowers {p z : Int32} (R : cRep ⟨⟨len, tx⟩, fa, ⟨N, P, G, wa, me⟩, S, dd, ⟨rc, rx, rh⟩, ⟨bc, bw, bs⟩, sd, i0, i1⟩ h) : am_O M_Sp_flowers [.ref 1, .int p, .int z] (o_flowers p z ⟨⟨len, tx⟩, fa, ⟨N, P, G, wa, me⟩, S, dd, ⟨rc, rx, rh⟩, ⟨bc, bw, bs⟩, sd, i0, i1⟩) h := by
  obtain ⟨x1, ⟨x2, x3, x4⟩, x5, ⟨x6, x7, waC, meC, x8, x9, x10, x11, x12⟩, ⟨wh, mi, fe, fl, x13, x14, x15, x16⟩, x17, ⟨tm, x18⟩, ⟨fi, ff, x19, x20, x21, x22, x23, x24, x25⟩, ⟨x26, ss, fd, x27, x28, x29, x30⟩, ⟨x31, x32, x33, x34⟩, x35, ⟨fi2, x36, x37, x38, x39, x40⟩⟩ := id R
  have y13 : h.1 14 = .inr (6, [.ref 15, .ref 16, .int fe, .int fl, .int _, .int _, .int _]) := x13
  have y14 : h.1 15 = iar wh := x14
  have y15 : h.1 16 = iar mi := x15
  unfold pTop at x1
  unfold am_O o_flowers
  (try unfold am_E); unfold am_T
  dsimp only
  repeat (first | refine rs [] rfl rfl rfl rfl ?_ | refine rk rfl rfl ?_ | refine rgoh [] rfl rfl ?_ | refine rgeta (hi := rfl) (kk := ?_) | refine rialda (hi := rfl) (kk := ?_))
  (first | refine rcvs rfl rfl rfl rfl rfl (by first | assumption | (simp (disch := omega) only [am_set_ne, am_set_eq]; first | assumption | rfl)) rfl (c_hasPerson x7 x8) ?_ | refine rcvn rfl rfl rfl rfl rfl (by first | assumption | (simp (disch := omega) only [am_set_ne, am_set_eq]; first | assumption | rfl)) rfl (c_hasPerson x7 x8) ?_)
  by_cases c : inR p P
  · rw [if_pos c, if_pos c]
    (first | refine rift rfl rfl ?_ | refine riff rfl rfl ?_ | refine rict rfl rfl ?_ | refine ricf rfl rfl ?_)
    obtain ⟨k, hk, rfl⟩ := inR_of c (by omega)
    rw [nI_clamp (by omega)]
    repeat (first | refine rs [] rfl rfl rfl rfl ?_ | refine rk rfl rfl ?_ | refine rgoh [] rfl rfl ?_ | refine rgeta (hi := rfl) (kk := ?_) | refine rialda (hi := rfl) (kk := ?_))
    refine rcvt rfl rfl rfl rfl rfl x21 rfl (v_note R) ?_
    rintro r h1 ⟨rfl, R1, f1⟩
    show am_R M_Sp_flowers (12, [.ref 1, .int (nI k), .int z, _], []) _ _
    obtain ⟨x1, ⟨x2, x3, x4⟩, x5, ⟨x6, x7, waC, meC, x8, x9, x10, x11, x12⟩, ⟨wh, mi, fe, fl, x13, x14, x15, x16⟩, x17, ⟨tm, x18⟩, ⟨fi, ff, x19, x20, x21, x22, x23, x24, x25⟩, ⟨x26, ss, fd, x27, x28, x29, x30⟩, ⟨x31, x32, x33, x34⟩, x35, ⟨fi2, x36, x37, x38, x39, x40⟩⟩ := id R1
    have y13 : h1.1 14 = .inr (6, [.ref 15, .ref 16, .int fe, .int fl, .int _, .int _, .int _]) := x13
    have y14 : h1.1 15 = iar wh := x14
    have y15 : h1.1 16 = iar mi := x15
    unfold pTop at x1
    repeat (first | refine rs [] rfl rfl rfl rfl ?_ | refine rk rfl rfl ?_ | refine rgoh [] rfl rfl ?_ | refine rgeta (hi := rfl) (kk := ?_) | refine rialda (hi := rfl) (kk := ?_))
    refine rcss rfl rfl rfl rfl rfl (c_bit) ?_
    repeat (first | refine rs [] rfl rfl rfl rfl ?_ | refine rk rfl rfl ?_ | refine rgoh [] rfl rfl ?_ | refine rgeta (hi := rfl) (kk := ?_) | refine rialda (hi := rfl) (kk := ?_))
    refine rcss rfl rfl rfl rfl rfl (c_withBit) ?_
    refine rputa (hi := rfl) (kk := ?_)
    repeat (first | refine rs [] rfl rfl rfl rfl ?_ | refine rk rfl rfl ?_ | refine rgoh [] rfl rfl ?_ | refine rgeta (hi := rfl) (kk := ?_) | refine rialda (hi := rfl) (kk := ?_))
    refine rret rfl rfl ?_
    refine ⟨by rw [(x16 k hk).2.2.2], ?_, fr_tr (fr_wd f1 (by omega) (by omega)) (fr_set (lo := 14) (hi := 17) fr_rf (by omega) (by omega)) (by omega) (by omega)⟩
    refine cRep_now R1 (fr_set (lo := 14) (hi := 17) fr_rf (by omega) (by omega)) ⟨wh, mi, fe, _, am_set_eq, ?_, ?_, ?_⟩
    · rw [am_set_ne (by omega)]; exact x14
    · rw [am_set_ne (by omega)]; exact x15
    · intro p hp
      obtain ⟨q1, q2, q3, q4⟩ := x16 p hp
      refine ⟨q1, q2, q3, ?_⟩
      rw [bitv_wb (by omega) (by omega), q4]
      rfl
  · rw [if_neg c, if_neg c]
    (first | refine rift rfl rfl ?_ | refine riff rfl rfl ?_ | refine rict rfl rfl ?_ | refine ricf rfl rfl ?_)
    repeat (first | refine rs [] rfl rfl rfl rfl ?_ | refine rk rfl rfl ?_ | refine rgoh [] rfl rfl ?_ | refine rgeta (hi := rfl) (kk := ?_) | refine rialda (hi := rfl) (kk := ?_))
    refine rret rfl rfl ?_
    exact ⟨rfl, R, fr_rf⟩
def o_walk (p x : Int32) : Q → Int32 × Q
  | ⟨⟨len, tx⟩, fa, ⟨N, P, G, wa, me⟩, S, dd, ⟨rc, rx, rh⟩, ⟨bc, bw, bs⟩, sd, i0, i1⟩ => if inR p P ∧ inR x N then ((if 0 ≤ x - S.1 p.toNatClampNeg then x - S.1 p.toNatClampNeg else 0 - (x - S.1 p.toNatClampNeg)), ⟨⟨len, tx⟩, fa, ⟨N, P, G, wa, me⟩, (upd S.1 p.toNatClampNeg x, S.2), dnote dd S, ⟨rc, rx, rh⟩, ⟨bc, bw, bs⟩, sd, i0, i1⟩) else (-1000000001, ⟨⟨len, tx⟩, fa, ⟨N, P, G, wa, me⟩, S, dd, ⟨rc, rx, rh⟩, ⟨bc, bw, bs⟩, sd, i0, i1⟩)
theorem v_walk {p x : Int32} (R : cRep ⟨⟨len, tx⟩, fa, ⟨N, P, G, wa, me⟩, S, dd, ⟨rc, rx, rh⟩, ⟨bc, bw, bs⟩, sd, i0, i1⟩ h) : am_O M_Sp_walk [.ref 1, .int p, .int x] (o_walk p x ⟨⟨len, tx⟩, fa, ⟨N, P, G, wa, me⟩, S, dd, ⟨rc, rx, rh⟩, ⟨bc, bw, bs⟩, sd, i0, i1⟩) h := by
  obtain ⟨x1, ⟨x2, x3, x4⟩, x5, ⟨x6, x7, waC, meC, x8, x9, x10, x11, x12⟩, ⟨wh, mi, fe, fl, x13, x14, x15, x16⟩, x17, ⟨tm, x18⟩, ⟨fi, ff, x19, x20, x21, x22, x23, x24, x25⟩, ⟨x26, ss, fd, x27, x28, x29, x30⟩, ⟨x31, x32, x33, x34⟩, x35, ⟨fi2, x36, x37, x38, x39, x40⟩⟩ := id R
  have y13 : h.1 14 = .inr (6, [.ref 15, .ref 16, .int fe, .int fl, .int _, .int _, .int _]) := x13
  have y14 : h.1 15 = iar wh := x14
  have y15 : h.1 16 = iar mi := x15
  unfold pTop at x1
  unfold am_O o_walk
  (try unfold am_E); unfold am_T
  dsimp only
  repeat (first | refine rs [] rfl rfl rfl rfl ?_ | refine rk rfl rfl ?_ | refine rgoh [] rfl rfl ?_ | refine rgeta (hi := rfl) (kk := ?_) | refine rialda (hi := rfl) (kk := ?_))
  (first | refine rcvs rfl rfl rfl rfl rfl (by first | assumption | (simp (disch := omega) only [am_set_ne, am_set_eq]; first | assumption | rfl)) rfl (c_hasPerson x7 x8) ?_ | refine rcvn rfl rfl rfl rfl rfl (by first | assumption | (simp (disch := omega) only [am_set_ne, am_set_eq]; first | assumption | rfl)) rfl (c_hasPerson x7 x8) ?_)
  by_cases c : inR p P
  · rw [if_pos c]
    (first | refine rift rfl rfl ?_ | refine riff rfl rfl ?_ | refine rict rfl rfl ?_ | refine ricf rfl rfl ?_)
    repeat (first | refine rs [] rfl rfl rfl rfl ?_ | refine rk rfl rfl ?_ | refine rgoh [] rfl rfl ?_ | refine rgeta (hi := rfl) (kk := ?_) | refine rialda (hi := rfl) (kk := ?_))
    (first | refine rcvs rfl rfl rfl rfl rfl (by first | assumption | (simp (disch := omega) only [am_set_ne, am_set_eq]; first | assumption | rfl)) rfl (c_hasStation x8) ?_ | refine rcvn rfl rfl rfl rfl rfl (by first | assumption | (simp (disch := omega) only [am_set_ne, am_set_eq]; first | assumption | rfl)) rfl (c_hasStation x8) ?_)
    by_cases d : inR x N
    · rw [if_pos d, if_pos ⟨c, d⟩]
      (first | refine rift rfl rfl ?_ | refine riff rfl rfl ?_ | refine rict rfl rfl ?_ | refine ricf rfl rfl ?_)
      obtain ⟨k, hk, rfl⟩ := inR_of c (by omega)
      rw [nI_clamp (by omega)]
      repeat (first | refine rs [] rfl rfl rfl rfl ?_ | refine rk rfl rfl ?_ | refine rgoh [] rfl rfl ?_ | refine rgeta (hi := rfl) (kk := ?_) | refine rialda (hi := rfl) (kk := ?_))
      refine rcvt rfl rfl rfl rfl rfl x21 rfl (v_note R) ?_
      rintro r h1 ⟨rfl, R1, f1⟩
      show am_R M_Sp_walk (17, [.ref 1, .int (nI k), .int x, _], []) _ _
      obtain ⟨x1, ⟨x2, x3, x4⟩, x5, ⟨x6, x7, waC, meC, x8, x9, x10, x11, x12⟩, ⟨wh, mi, fe, fl, x13, x14, x15, x16⟩, x17, ⟨tm, x18⟩, ⟨fi, ff, x19, x20, x21, x22, x23, x24, x25⟩, ⟨x26, ss, fd, x27, x28, x29, x30⟩, ⟨x31, x32, x33, x34⟩, x35, ⟨fi2, x36, x37, x38, x39, x40⟩⟩ := id R1
      have y13 : h1.1 14 = .inr (6, [.ref 15, .ref 16, .int fe, .int fl, .int _, .int _, .int _]) := x13
      have y14 : h1.1 15 = iar wh := x14
      have y15 : h1.1 16 = iar mi := x15
      unfold pTop at x1
      repeat (first | refine rs [] rfl rfl rfl rfl ?_ | refine rk rfl rfl ?_ | refine rgoh [] rfl rfl ?_ | refine rgeta (hi := rfl) (kk := ?_) | refine rialda (hi := rfl) (kk := ?_))
      refine riasta (hi := rfl) (kk := ?_)
      repeat (first | refine rs [] rfl rfl rfl rfl ?_ | refine rk rfl rfl ?_ | refine rgoh [] rfl rfl ?_ | refine rgeta (hi := rfl) (kk := ?_) | refine rialda (hi := rfl) (kk := ?_))
      refine rret rfl rfl ?_
      refine ⟨by rw [(x16 k hk).1], ?_, fr_tr (fr_wd f1 (by omega) (by omega)) (fr_set (lo := 14) (hi := 17) fr_rf (by omega) (by omega)) (by omega) (by omega)⟩
      refine cRep_now R1 (fr_set (lo := 14) (hi := 17) fr_rf (by omega) (by omega)) ⟨upd wh k x, mi, fe, fl, ?_, am_set_eq, ?_, ?_⟩
      · rw [am_set_ne (by omega)]; exact x13
      · rw [am_set_ne (by omega)]; exact x15
      · intro p hp
        obtain ⟨q1, q2, q3, q4⟩ := x16 p hp
        refine ⟨?_, q2, q3, q4⟩
        show upd wh k x p = upd S.1 k x p
        exact eqP_upd (fun p hp => (x16 p hp).1) p hp
    · rw [if_neg d, if_neg (fun a => d a.2)]
      (first | refine rift rfl rfl ?_ | refine riff rfl rfl ?_ | refine rict rfl rfl ?_ | refine ricf rfl rfl ?_)
      repeat (first | refine rs [] rfl rfl rfl rfl ?_ | refine rk rfl rfl ?_ | refine rgoh [] rfl rfl ?_ | refine rgeta (hi := rfl) (kk := ?_) | refine rialda (hi := rfl) (kk := ?_))
      refine rret rfl rfl ?_
      exact ⟨rfl, R, fr_rf⟩
  · rw [if_neg c, if_neg (fun a => c a.1)]
    (first | refine rift rfl rfl ?_ | refine riff rfl rfl ?_ | refine rict rfl rfl ?_ | refine ricf rfl rfl ?_)
    repeat (first | refine rs [] rfl rfl rfl rfl ?_ | refine rk rfl rfl ?_ | refine rgoh [] rfl rfl ?_ | refine rgeta (hi := rfl) (kk := ?_) | refine rialda (hi := rfl) (kk := ?_))
    refine rret rfl rfl ?_
    exact ⟨rfl, R, fr_rf⟩
def o_fog (v : Int32) : Q → Int32 × Q
  | ⟨⟨len, tx⟩, fa, ⟨N, P, G, wa, me⟩, S, dd, ⟨rc, rx, rh⟩, ⟨bc, bw, bs⟩, sd, i0, i1⟩ => if v < 0 ∨ 9 < v then (-1000000002, ⟨⟨len, tx⟩, fa, ⟨N, P, G, wa, me⟩, S, dd, ⟨rc, rx, rh⟩, ⟨bc, bw, bs⟩, sd, i0, i1⟩) else if N = 0 then (-1000000003, ⟨⟨len, tx⟩, fa, ⟨N, P, G, wa, me⟩, S, dd, ⟨rc, rx, rh⟩, ⟨bc, bw, bs⟩, sd, i0, i1⟩) else (S.2.2.2.2.1, ⟨⟨len, tx⟩, fa, ⟨N, P, G, wa, me⟩, (S.1, S.2.1, S.2.2.1, S.2.2.2.1, v, S.2.2.2.2.2), dnote dd S, ⟨rc, rx, rh⟩, ⟨bc, bw, bs⟩, sd, i0, i1⟩)
theorem v_fog {v : Int32} (R : cRep ⟨⟨len, tx⟩, fa, ⟨N, P, G, wa, me⟩, S, dd, ⟨rc, rx, rh⟩, ⟨bc, bw, bs⟩, sd, i0, i1⟩ h) : am_O M_Sp_fog [.ref 1, .int v] (o_fog v ⟨⟨len, tx⟩, fa, ⟨N, P, G, wa, me⟩, S, dd, ⟨rc, rx, rh⟩, ⟨bc, bw, bs⟩, sd, i0, i1⟩) h := by
  obtain ⟨x1, ⟨x2, x3, x4⟩, x5, ⟨x6, x7, waC, meC, x8, x9, x10, x11, x12⟩, ⟨wh, mi, fe, fl, x13, x14, x15, x16⟩, x17, ⟨tm, x18⟩, ⟨fi, ff, x19, x20, x21, x22, x23, x24, x25⟩, ⟨x26, ss, fd, x27, x28, x29, x30⟩, ⟨x31, x32, x33, x34⟩, x35, ⟨fi2, x36, x37, x38, x39, x40⟩⟩ := id R
  have y13 : h.1 14 = .inr (6, [.ref 15, .ref 16, .int fe, .int fl, .int _, .int _, .int _]) := x13
  have y14 : h.1 15 = iar wh := x14
  have y15 : h.1 16 = iar mi := x15
  unfold pTop at x1
  unfold am_O o_fog
  (try unfold am_E); unfold am_T
  dsimp only
  repeat (first | refine rs [] rfl rfl rfl rfl ?_ | refine rk rfl rfl ?_ | refine rgoh [] rfl rfl ?_ | refine rgeta (hi := rfl) (kk := ?_) | refine rialda (hi := rfl) (kk := ?_))
  (first | refine rif rfl rfl (fun c1 => ?_) (fun c1 => ?_) | refine ric rfl rfl (fun c1 => ?_) (fun c1 => ?_))
  · repeat (first | refine rs [] rfl rfl rfl rfl ?_ | refine rk rfl rfl ?_ | refine rgoh [] rfl rfl ?_ | refine rgeta (hi := rfl) (kk := ?_) | refine rialda (hi := rfl) (kk := ?_))
    refine rret rfl rfl ?_
    rw [if_pos (Or.inl c1)]
    exact ⟨rfl, R, fr_rf⟩
  · repeat (first | refine rs [] rfl rfl rfl rfl ?_ | refine rk rfl rfl ?_ | refine rgoh [] rfl rfl ?_ | refine rgeta (hi := rfl) (kk := ?_) | refine rialda (hi := rfl) (kk := ?_))
    (first | refine rif rfl rfl (fun c2 => ?_) (fun c2 => ?_) | refine ric rfl rfl (fun c2 => ?_) (fun c2 => ?_))
    · rw [if_neg (by rintro (a | a); exact c1 a; exact absurd c2 (Int32.not_le.mpr a))]
      repeat (first | refine rs [] rfl rfl rfl rfl ?_ | refine rk rfl rfl ?_ | refine rgoh [] rfl rfl ?_ | refine rgeta (hi := rfl) (kk := ?_) | refine rialda (hi := rfl) (kk := ?_))
      (first | refine rcvs rfl rfl rfl rfl rfl (by first | assumption | (simp (disch := omega) only [am_set_ne, am_set_eq]; first | assumption | rfl)) rfl (c_isTold x8) ?_ | refine rcvn rfl rfl rfl rfl rfl (by first | assumption | (simp (disch := omega) only [am_set_ne, am_set_eq]; first | assumption | rfl)) rfl (c_isTold x8) ?_)
      by_cases e : N = 0
      · rw [if_pos e, if_neg (fun a => ((nI_0lt x6).mp a) e)]
        (first | refine rift rfl rfl ?_ | refine riff rfl rfl ?_ | refine rict rfl rfl ?_ | refine ricf rfl rfl ?_)
        repeat (first | refine rs [] rfl rfl rfl rfl ?_ | refine rk rfl rfl ?_ | refine rgoh [] rfl rfl ?_ | refine rgeta (hi := rfl) (kk := ?_) | refine rialda (hi := rfl) (kk := ?_))
        refine rret rfl rfl ?_
        exact ⟨rfl, R, fr_rf⟩
      · rw [if_neg e, if_pos ((nI_0lt x6).mpr e)]
        (first | refine rift rfl rfl ?_ | refine riff rfl rfl ?_ | refine rict rfl rfl ?_ | refine ricf rfl rfl ?_)
        repeat (first | refine rs [] rfl rfl rfl rfl ?_ | refine rk rfl rfl ?_ | refine rgoh [] rfl rfl ?_ | refine rgeta (hi := rfl) (kk := ?_) | refine rialda (hi := rfl) (kk := ?_))
        refine rcvt rfl rfl rfl rfl rfl x21 rfl (v_note R) ?_
        rintro r h1 ⟨rfl, R1, f1⟩
        show am_R M_Sp_fog (18, [.ref 1, .int v, _], []) _ _
        obtain ⟨x1, ⟨x2, x3, x4⟩, x5, ⟨x6, x7, waC, meC, x8, x9, x10, x11, x12⟩, ⟨wh, mi, fe, fl, x13, x14, x15, x16⟩, x17, ⟨tm, x18⟩, ⟨fi, ff, x19, x20, x21, x22, x23, x24, x25⟩, ⟨x26, ss, fd, x27, x28, x29, x30⟩, ⟨x31, x32, x33, x34⟩, x35, ⟨fi2, x36, x37, x38, x39, x40⟩⟩ := id R1
        have y13 : h1.1 14 = .inr (6, [.ref 15, .ref 16, .int fe, .int fl, .int _, .int _, .int _]) := x13
        have y14 : h1.1 15 = iar wh := x14
        have y15 : h1.1 16 = iar mi := x15
        unfold pTop at x1
        repeat (first | refine rs [] rfl rfl rfl rfl ?_ | refine rk rfl rfl ?_ | refine rgoh [] rfl rfl ?_ | refine rgeta (hi := rfl) (kk := ?_) | refine rialda (hi := rfl) (kk := ?_))
        refine rputa (hi := rfl) (kk := ?_)
        repeat (first | refine rs [] rfl rfl rfl rfl ?_ | refine rk rfl rfl ?_ | refine rgoh [] rfl rfl ?_ | refine rgeta (hi := rfl) (kk := ?_) | refine rialda (hi := rfl) (kk := ?_))
        refine rret rfl rfl ?_
        refine ⟨rfl, ?_, fr_tr (fr_wd f1 (by omega) (by omega)) (fr_set (lo := 14) (hi := 17) fr_rf (by omega) (by omega)) (by omega) (by omega)⟩
        refine cRep_now R1 (fr_set (lo := 14) (hi := 17) fr_rf (by omega) (by omega)) ⟨wh, mi, fe, fl, am_set_eq, ?_, ?_, x16⟩
        · rw [am_set_ne (by omega)]; exact x14
        · rw [am_set_ne (by omega)]; exact x15
    · repeat (first | refine rs [] rfl rfl rfl rfl ?_ | refine rk rfl rfl ?_ | refine rgoh [] rfl rfl ?_ | refine rgeta (hi := rfl) (kk := ?_) | refine rialda (hi := rfl) (kk := ?_))
      refine rret rfl rfl ?_
      rw [if_pos (Or.inr (Int32.not_le.mp c2))]
      exact ⟨rfl, R, fr_rf⟩
def rfA (n : Int32) (N : Nat) (S : Sc) : Int32 := if n < 1 ∨ 20 < n then -1000000002 else if N = 0 then -1000000003 else if 9000 < S.2.2.2.2.2.1 then -1000000004 else 0
theorem v_refused {n : Int32} (R : cRep ⟨⟨len, tx⟩, fa, ⟨N, P, G, wa, me⟩, S, dd, ⟨rc, rx, rh⟩, ⟨bc, bw, bs⟩, sd, i0, i1⟩ h) : am_E M_Sp_trainsRefused [.ref 1, .int n] h (some (.int (rfA n N S))) h := by
  obtain ⟨x1, ⟨x2, x3, x4⟩, x5, ⟨x6, x7, waC, meC, x8, x9, x10, x11, x12⟩, ⟨wh, mi, fe, fl, x13, x14, x15, x16⟩, x17, ⟨tm, x18⟩, ⟨fi, ff, x19, x20, x21, x22, x23, x24, x25⟩, ⟨x26, ss, fd, x27, x28, x29, x30⟩, ⟨x31, x32, x33, x34⟩, x35, ⟨fi2, x36, x37, x38, x39, x40⟩⟩ := id R
  have y13 : h.1 14 = .inr (6, [.ref 15, .ref 16, .int fe, .int fl, .int _, .int _, .int _]) := x13
  have y14 : h.1 15 = iar wh := x14
  have y15 : h.1 16 = iar mi := x15
  unfold pTop at x1
  unfold rfA
  (try unfold am_E); unfold am_T
  repeat (first | refine rs [] rfl rfl rfl rfl ?_ | refine rk rfl rfl ?_ | refine rgoh [] rfl rfl ?_ | refine rgeta (hi := rfl) (kk := ?_) | refine rialda (hi := rfl) (kk := ?_))
  (first | refine rif rfl rfl (fun c1 => ?_) (fun c1 => ?_) | refine ric rfl rfl (fun c1 => ?_) (fun c1 => ?_))
  · repeat (first | refine rs [] rfl rfl rfl rfl ?_ | refine rk rfl rfl ?_ | refine rgoh [] rfl rfl ?_ | refine rgeta (hi := rfl) (kk := ?_) | refine rialda (hi := rfl) (kk := ?_))
    refine rret rfl rfl ?_
    rw [if_pos (Or.inl c1)]
    exact ⟨rfl, rfl⟩
  · repeat (first | refine rs [] rfl rfl rfl rfl ?_ | refine rk rfl rfl ?_ | refine rgoh [] rfl rfl ?_ | refine rgeta (hi := rfl) (kk := ?_) | refine rialda (hi := rfl) (kk := ?_))
    (first | refine rif rfl rfl (fun c2 => ?_) (fun c2 => ?_) | refine ric rfl rfl (fun c2 => ?_) (fun c2 => ?_))
    · rw [if_neg (by rintro (a | a); exact c1 a; exact absurd c2 (Int32.not_le.mpr a))]
      repeat (first | refine rs [] rfl rfl rfl rfl ?_ | refine rk rfl rfl ?_ | refine rgoh [] rfl rfl ?_ | refine rgeta (hi := rfl) (kk := ?_) | refine rialda (hi := rfl) (kk := ?_))
      (first | refine rcvs rfl rfl rfl rfl rfl (by first | assumption | (simp (disch := omega) only [am_set_ne, am_set_eq]; first | assumption | rfl)) rfl (c_isTold x8) ?_ | refine rcvn rfl rfl rfl rfl rfl (by first | assumption | (simp (disch := omega) only [am_set_ne, am_set_eq]; first | assumption | rfl)) rfl (c_isTold x8) ?_)
      by_cases e : N = 0
      · rw [if_pos e, if_neg (fun a => ((nI_0lt x6).mp a) e)]
        (first | refine rift rfl rfl ?_ | refine riff rfl rfl ?_ | refine rict rfl rfl ?_ | refine ricf rfl rfl ?_)
        repeat (first | refine rs [] rfl rfl rfl rfl ?_ | refine rk rfl rfl ?_ | refine rgoh [] rfl rfl ?_ | refine rgeta (hi := rfl) (kk := ?_) | refine rialda (hi := rfl) (kk := ?_))
        refine rret rfl rfl ?_
        exact ⟨rfl, rfl⟩
      · rw [if_neg e, if_pos ((nI_0lt x6).mpr e)]
        (first | refine rift rfl rfl ?_ | refine riff rfl rfl ?_ | refine rict rfl rfl ?_ | refine ricf rfl rfl ?_)
        repeat (first | refine rs [] rfl rfl rfl rfl ?_ | refine rk rfl rfl ?_ | refine rgoh [] rfl rfl ?_ | refine rgeta (hi := rfl) (kk := ?_) | refine rialda (hi := rfl) (kk := ?_))
        (first | refine rif rfl rfl (fun c3 => ?_) (fun c3 => ?_) | refine ric rfl rfl (fun c3 => ?_) (fun c3 => ?_))
        · repeat (first | refine rs [] rfl rfl rfl rfl ?_ | refine rk rfl rfl ?_ | refine rgoh [] rfl rfl ?_ | refine rgeta (hi := rfl) (kk := ?_) | refine rialda (hi := rfl) (kk := ?_))
          refine rret rfl rfl ?_
          rw [if_neg (Int32.not_lt.mpr c3)]
          exact ⟨rfl, rfl⟩
        · repeat (first | refine rs [] rfl rfl rfl rfl ?_ | refine rk rfl rfl ?_ | refine rgoh [] rfl rfl ?_ | refine rgeta (hi := rfl) (kk := ?_) | refine rialda (hi := rfl) (kk := ?_))
          refine rret rfl rfl ?_
          rw [if_pos (Int32.not_le.mp c3)]
          exact ⟨rfl, rfl⟩
    · repeat (first | refine rs [] rfl rfl rfl rfl ?_ | refine rk rfl rfl ?_ | refine rgoh [] rfl rfl ?_ | refine rgeta (hi := rfl) (kk := ?_) | refine rialda (hi := rfl) (kk := ?_))
      refine rret rfl rfl ?_
      rw [if_pos (Or.inr (Int32.not_le.mp c2))]
      exact ⟨rfl, rfl⟩
theorem rfA_0 {n : Int32} (e : rfA n N S = 0) : ∃ m, n = nI m ∧ 1 ≤ m ∧ m ≤ 20 ∧ N ≠ 0 := by
  unfold rfA at e
  split at e
  · cases e
  · rename_i c
    split at e
    · cases e
    · rename_i d
      have h0 : ¬ n < 0 := fun a => c (Or.inl (Int32.lt_of_lt_of_le a (by decide)))
      obtain ⟨m, hm, rfl⟩ := nI_of h0
      refine ⟨m, rfl, ?_, ?_, d⟩
      · rcases Nat.lt_or_ge m 1 with w | w
        · exact absurd (Or.inl (by rw [i1, nI_ltI hm (by omega)]; exact w)) c
        · exact w
      · rcases Nat.lt_or_ge 20 m with w | w
        · exact absurd (Or.inr (by rw [i20, nI_ltI (by omega) hm]; exact w)) c
        · exact w
def trA (N P : Nat) (G : Int32) (wa me : Nat → Int32) (n : Nat) (z : Sc × List Sc) : Sc × List Sc := fo (fun _ z => (rnA N P G wa me 0 z.1, dnote z.2 z.1)) n z
def o_train (n : Int32) : Q → Int32 × Q
  | ⟨⟨len, tx⟩, fa, ⟨N, P, G, wa, me⟩, S, dd, ⟨rc, rx, rh⟩, ⟨bc, bw, bs⟩, sd, i0, i1⟩ => if rfA n N S = 0 then (arv (trA N P G wa me n.toNatClampNeg (S, dd)).1.1 wa P, ⟨⟨len, tx⟩, fa, ⟨N, P, G, wa, me⟩, (trA N P G wa me n.toNatClampNeg (S, dd)).1, (trA N P G wa me n.toNatClampNeg (S, dd)).2, ⟨rc, rx, rh⟩, ⟨bc, bw, bs⟩, sd, i0, i1⟩) else (rfA n N S, ⟨⟨len, tx⟩, fa, ⟨N, P, G, wa, me⟩, S, dd, ⟨rc, rx, rh⟩, ⟨bc, bw, bs⟩, sd, i0, i1⟩)
set_option maxHeartbeats 1000000 in
theorem v_train {n : Int32} (R : cRep ⟨⟨len, tx⟩, fa, ⟨N, P, G, wa, me⟩, S, dd, ⟨rc, rx, rh⟩, ⟨bc, bw, bs⟩, sd, i0, i1⟩ h) : am_O M_Sp_train [.ref 1, .int n] (o_train n ⟨⟨len, tx⟩, fa, ⟨N, P, G, wa, me⟩, S, dd, ⟨rc, rx, rh⟩, ⟨bc, bw, bs⟩, sd, i0, i1⟩) h := by
  have x1 := R.1
  unfold pTop at x1
  unfold am_O o_train
  (try unfold am_E); unfold am_T
  dsimp only
  repeat (first | refine rs [] rfl rfl rfl rfl ?_ | refine rk rfl rfl ?_ | refine rgoh [] rfl rfl ?_ | refine rgeta (hi := rfl) (kk := ?_) | refine rialda (hi := rfl) (kk := ?_))
  (first | refine rcvs rfl rfl rfl rfl rfl (by first | assumption | (simp (disch := omega) only [am_set_ne, am_set_eq]; first | assumption | rfl)) rfl (v_refused R) ?_ | refine rcvn rfl rfl rfl rfl rfl (by first | assumption | (simp (disch := omega) only [am_set_ne, am_set_eq]; first | assumption | rfl)) rfl (v_refused R) ?_)
  by_cases e : rfA n N S = 0
  · rw [e, if_pos rfl]
    repeat (first | refine rs [] rfl rfl rfl rfl ?_ | refine rk rfl rfl ?_ | refine rgoh [] rfl rfl ?_ | refine rgeta (hi := rfl) (kk := ?_) | refine rialda (hi := rfl) (kk := ?_))
    (first | refine rift rfl rfl ?_ | refine riff rfl rfl ?_ | refine rict rfl rfl ?_ | refine ricf rfl rfl ?_)
    obtain ⟨m, rfl, m1, m2, -⟩ := rfA_0 e
    rw [nI_clamp (by omega)]
    repeat (first | refine rs [10] rfl rfl rfl rfl ?_ | refine rk rfl rfl ?_ | refine rgoh [10] rfl rfl ?_ | refine rgeta (hi := rfl) (kk := ?_) | refine rialda (hi := rfl) (kk := ?_))
    refine lup (P := fun i => ∀ x h1, x = nI i → cRep ⟨⟨len, tx⟩, fa, ⟨N, P, G, wa, me⟩, (trA N P G wa me i (S, dd)).1, (trA N P G wa me i (S, dd)).2, ⟨rc, rx, rh⟩, ⟨bc, bw, bs⟩, sd, i0, i1⟩ h1 → am_fr 1 130 h h1 → am_R M_Sp_train (10, [.ref 1, .int (nI m), .int 0, .int x], []) h1 _) m ?_ ?_ 0 h nI_0.symm R fr_rf
    · rintro x h1 rfl R1 f1
      obtain ⟨x1, ⟨x2, x3, x4⟩, x5, ⟨x6, x7, waC, meC, x8, x9, x10, x11, x12⟩, ⟨wh, mi, fe, fl, x13, x14, x15, x16⟩, x17, ⟨tm, x18⟩, ⟨fi, ff, x19, x20, x21, x22, x23, x24, x25⟩, ⟨x26, ss, fd, x27, x28, x29, x30⟩, ⟨x31, x32, x33, x34⟩, x35, ⟨fi2, x36, x37, x38, x39, x40⟩⟩ := id R1
      have y13 : h1.1 14 = .inr (6, [.ref 15, .ref 16, .int fe, .int fl, .int _, .int _, .int _]) := x13
      have y14 : h1.1 15 = iar wh := x14
      have y15 : h1.1 16 = iar mi := x15
      unfold pTop at x1
      repeat (first | refine rs [] rfl rfl rfl rfl ?_ | refine rk rfl rfl ?_ | refine rgoh [] rfl rfl ?_ | refine rgeta (hi := rfl) (kk := ?_) | refine rialda (hi := rfl) (kk := ?_))
      (first | refine rif rfl rfl (fun c1 => ?_) (fun c1 => ?_) | refine ric rfl rfl (fun c1 => ?_) (fun c1 => ?_))
      · repeat (first | refine rs [] rfl rfl rfl rfl ?_ | refine rk rfl rfl ?_ | refine rgoh [] rfl rfl ?_ | refine rgeta (hi := rfl) (kk := ?_) | refine rialda (hi := rfl) (kk := ?_))
        (first | refine rcvs rfl rfl rfl rfl rfl (by first | assumption | (simp (disch := omega) only [am_set_ne, am_set_eq]; first | assumption | rfl)) rfl (a_arrived R1.2.2.2.1 R1.2.2.2.2.1 (by omega)) ?_ | refine rcvn rfl rfl rfl rfl rfl (by first | assumption | (simp (disch := omega) only [am_set_ne, am_set_eq]; first | assumption | rfl)) rfl (a_arrived R1.2.2.2.1 R1.2.2.2.2.1 (by omega)) ?_)
        refine rret rfl rfl ?_
        exact ⟨rfl, R1, f1⟩
      · exact absurd (Int32.le_refl _) c1
    · rintro i hi ih x h1 rfl R1 f1
      obtain ⟨x1, ⟨x2, x3, x4⟩, x5, ⟨x6, x7, waC, meC, x8, x9, x10, x11, x12⟩, ⟨wh, mi, fe, fl, x13, x14, x15, x16⟩, x17, ⟨tm, x18⟩, ⟨fi, ff, x19, x20, x21, x22, x23, x24, x25⟩, ⟨x26, ss, fd, x27, x28, x29, x30⟩, ⟨x31, x32, x33, x34⟩, x35, ⟨fi2, x36, x37, x38, x39, x40⟩⟩ := id R1
      have y13 : h1.1 14 = .inr (6, [.ref 15, .ref 16, .int fe, .int fl, .int _, .int _, .int _]) := x13
      have y14 : h1.1 15 = iar wh := x14
      have y15 : h1.1 16 = iar mi := x15
      unfold pTop at x1
      repeat (first | refine rs [] rfl rfl rfl rfl ?_ | refine rk rfl rfl ?_ | refine rgoh [] rfl rfl ?_ | refine rgeta (hi := rfl) (kk := ?_) | refine rialda (hi := rfl) (kk := ?_))
      (first | refine rif rfl rfl (fun c1 => ?_) (fun c1 => ?_) | refine ric rfl rfl (fun c1 => ?_) (fun c1 => ?_))
      · exact absurd hi ((nI_lt_iff (by omega) (by omega)).mp c1)
      · repeat (first | refine rs [] rfl rfl rfl rfl ?_ | refine rk rfl rfl ?_ | refine rgoh [] rfl rfl ?_ | refine rgeta (hi := rfl) (kk := ?_) | refine rialda (hi := rfl) (kk := ?_))
        refine rcvt rfl rfl rfl rfl rfl x21 rfl (v_note R1) ?_
        rintro r h2 ⟨rfl, R2, f2⟩
        show am_R M_Sp_train (18, [.ref 1, .int (nI m), .int 0, .int (nI i)], []) _ _
        obtain ⟨x1, ⟨x2, x3, x4⟩, x5, ⟨x6, x7, waC, meC, x8, x9, x10, x11, x12⟩, ⟨wh, mi, fe, fl, x13, x14, x15, x16⟩, x17, ⟨tm, x18⟩, ⟨fi, ff, x19, x20, x21, x22, x23, x24, x25⟩, ⟨x26, ss, fd, x27, x28, x29, x30⟩, ⟨x31, x32, x33, x34⟩, x35, ⟨fi2, x36, x37, x38, x39, x40⟩⟩ := id R2
        have y13 : h2.1 14 = .inr (6, [.ref 15, .ref 16, .int fe, .int fl, .int _, .int _, .int _]) := x13
        have y14 : h2.1 15 = iar wh := x14
        have y15 : h2.1 16 = iar mi := x15
        unfold pTop at x1
        repeat (first | refine rs [] rfl rfl rfl rfl ?_ | refine rk rfl rfl ?_ | refine rgoh [] rfl rfl ?_ | refine rgeta (hi := rfl) (kk := ?_) | refine rialda (hi := rfl) (kk := ?_))
        refine rcvt rfl rfl rfl rfl rfl y13 rfl (v_run R2) ?_
        rintro r h3 ⟨rfl, R3, f3⟩
        show am_R M_Sp_train (27, [.ref 1, .int (nI m), .int 0, .int (nI i)], []) _ _
        repeat (first | refine rs [10] rfl rfl rfl rfl ?_ | refine rk rfl rfl ?_ | refine rgoh [10] rfl rfl ?_ | refine rgeta (hi := rfl) (kk := ?_) | refine rialda (hi := rfl) (kk := ?_))
        exact ih _ h3 (nI_succ i).symm R3 (fr_tr f1 (fr_tr (lo := 14) (hi := 113) f2 f3 (by omega) (by omega)) (by omega) (by omega))
  · rw [if_neg e]
    repeat (first | refine rs [] rfl rfl rfl rfl ?_ | refine rk rfl rfl ?_ | refine rgoh [] rfl rfl ?_ | refine rgeta (hi := rfl) (kk := ?_) | refine rialda (hi := rfl) (kk := ?_))
    (first | refine rif rfl rfl (fun c1 => ?_) (fun c1 => ?_) | refine ric rfl rfl (fun c1 => ?_) (fun c1 => ?_))
    · exact absurd c1 e
    · repeat (first | refine rs [] rfl rfl rfl rfl ?_ | refine rk rfl rfl ?_ | refine rgoh [] rfl rfl ?_ | refine rgeta (hi := rfl) (kk := ?_) | refine rialda (hi := rfl) (kk := ?_))
      refine rret rfl rfl ?_
      exact ⟨rfl, R, fr_rf⟩
end CDeeds
end
section
/-! the class's calls: drift, undo, images -/
def dyA (P : Nat) (z : Sc × Int32) : Sc × Int32 := if P = 0 then ((z.1.1, z.1.2.1, z.1.2.2.1, z.1.2.2.2.1, drw z.2 6, z.1.2.2.2.2.2), lcg z.2) else ((z.1.1, (if inR (drw z.2 (nI P)) P then upd z.1.2.1 (drw z.2 (nI P)).toNatClampNeg (drw (lcg z.2) 10) else z.1.2.1), z.1.2.2.1, z.1.2.2.2.1, drw (lcg (lcg z.2)) 6, z.1.2.2.2.2.2), lcg (lcg (lcg z.2)))
theorem c_nextx {h : am_H} {sd x : Int32} {n : Nat} (hx : x = nI n) (h0 : 0 < n) (hn : n < 2 ^ 31) (hd : h.1 120 = .inr (2, [.int sd])) : am_E M_Draws_next [.ref 120, .int x] h (some (.int (drw sd x))) (am_set h 120 (.inr (2, [.int (lcg sd)]))) := by
  subst hx
  exact c_next h0 hn hd
theorem cDd_nil {P P' : Nat} {dd : List Sc} {h : am_H} {x y : Int32} (D : cDd P dd h) (e : h.1 21 = .inr (1, [.ref 22, .int x, .int y])) : cDd P' [] (am_set h 21 (.inr (1, [.ref 22, .int x, .int 0]))) := by
  obtain ⟨fi, f, q1, q2, q3, q4, q5, q6, q7⟩ := D
  rw [q3] at e
  have ex : nI fi = x := by
    injection e with e
    injection e with _ e
    injection e with _ e
    injection e with e _
    injection e
  subst ex
  have fr1 : am_fr 21 22 h (am_set h 21 (.inr (1, [.ref 22, .int (nI fi), .int 0]))) := fr_set fr_rf (by omega) (by omega)
  refine ⟨fi, f, q1, by simp, am_set_eq, ?_, q5, fun i hi => (q6 i hi).fr fr1 (by omega), fun j S e => by simp at e⟩
  rw [am_set_ne (by omega)]
  exact q4
section CImages
variable {h h' : am_H} {len N P rc bc : Nat} {fa G sd : Int32} {tx wa me rx rh bw bs : Nat → Int32} {S S' : Sc} {dd dd' : List Sc} {i0 i1 i0' i1' : Im}
theorem cRep_ims (R : cRep ⟨⟨len, tx⟩, fa, ⟨N, P, G, wa, me⟩, S, dd, ⟨rc, rx, rh⟩, ⟨bc, bw, bs⟩, sd, i0, i1⟩ h) (f : am_fr 121 130 h h') (q : cIms P i0' i1' h') : cRep ⟨⟨len, tx⟩, fa, ⟨N, P, G, wa, me⟩, S, dd, ⟨rc, rx, rh⟩, ⟨bc, bw, bs⟩, sd, i0', i1'⟩ h' := by
  obtain ⟨x1, x2, x3, x4, x5, x6, ⟨tm, x7⟩, x8, x9, x10, x11, x12⟩ := R
  exact ⟨by unfold pTop; rw [f.2 _ (by omega)]; exact x1, x2.fr f (by omega), x3.fr f (by omega), x4.fr f (by omega), x5.fr f (by omega), x6.fr f (by omega), ⟨tm, by rw [f.2 _ (by omega)]; exact x7⟩, x8.fr f (by omega), x9.fr f (by omega), x10.fr f (by omega), by rw [f.2 _ (by omega)]; exact x11, q⟩
theorem cRep_d0 {x y : Int32} (R : cRep ⟨⟨len, tx⟩, fa, ⟨N, P, G, wa, me⟩, S, dd, ⟨rc, rx, rh⟩, ⟨bc, bw, bs⟩, sd, i0, i1⟩ h) (e : h.1 21 = .inr (1, [.ref 22, .int x, .int y])) : cRep ⟨⟨len, tx⟩, fa, ⟨N, P, G, wa, me⟩, S, [], ⟨rc, rx, rh⟩, ⟨bc, bw, bs⟩, sd, i0, i1⟩ (am_set h 21 (.inr (1, [.ref 22, .int x, .int 0]))) := by
  have D : cDd P dd h := R.2.2.2.2.2.2.2.1
  have hS : cSc P 14 S h := R.2.2.2.2.1
  have f : am_fr 21 22 h (am_set h 21 (.inr (1, [.ref 22, .int x, .int 0]))) := fr_set fr_rf (by omega) (by omega)
  exact cRep_sd R (fr_wd f (by omega) (by omega)) (fun k h1 h2 => f.2 k (by omega)) (hS.fr f (by omega)) (cDd_nil D e)
theorem v_dayU {v1 v2 : Value} {d6 : Int32} (R : cRep ⟨⟨len, tx⟩, fa, ⟨N, P, G, wa, me⟩, S, dd, ⟨rc, rx, rh⟩, ⟨bc, bw, bs⟩, sd, i0, i1⟩ h) : am_R M_Sp_drawDay (33, [.ref 1, v1, v2], [.int d6, .ref 14]) h (fun r h' => r = none ∧ cRep ⟨⟨len, tx⟩, fa, ⟨N, P, G, wa, me⟩, (S.1, S.2.1, S.2.2.1, S.2.2.2.1, d6, S.2.2.2.2.2), dd, ⟨rc, rx, rh⟩, ⟨bc, bw, bs⟩, sd, i0, i1⟩ h' ∧ am_fr 14 121 h h') := by
  obtain ⟨x1, ⟨x2, x3, x4⟩, x5, ⟨x6, x7, waC, meC, x8, x9, x10, x11, x12⟩, ⟨wh, mi, fe, fl, x13, x14, x15, x16⟩, x17, ⟨tm, x18⟩, ⟨fi, ff, x19, x20, x21, x22, x23, x24, x25⟩, ⟨x26, ss, fd, x27, x28, x29, x30⟩, ⟨x31, x32, x33, x34⟩, x35, ⟨fi2, x36, x37, x38, x39, x40⟩⟩ := id R
  have y13 : h.1 14 = .inr (6, [.ref 15, .ref 16, .int fe, .int fl, .int _, .int _, .int _]) := x13
  have y14 : h.1 15 = iar wh := x14
  have y15 : h.1 16 = iar mi := x15
  refine rputa (hi := rfl) (kk := ?_)
  repeat (first | refine rs [] rfl rfl rfl rfl ?_ | refine rk rfl rfl ?_ | refine rgoh [] rfl rfl ?_ | refine rgeta (hi := rfl) (kk := ?_) | refine rialda (hi := rfl) (kk := ?_))
  refine rret rfl rfl ?_
  refine ⟨rfl, ?_, fr_set fr_rf (by omega) (by omega)⟩
  refine cRep_now R (fr_set (lo := 14) (hi := 17) fr_rf (by omega) (by omega)) ⟨wh, mi, fe, fl, am_set_eq, ?_, ?_, x16⟩
  · rw [am_set_ne (by omega)]; exact x14
  · rw [am_set_ne (by omega)]; exact x15
theorem v_dayT {v1 v2 : Value} (R : cRep ⟨⟨len, tx⟩, fa, ⟨N, P, G, wa, me⟩, S, dd, ⟨rc, rx, rh⟩, ⟨bc, bw, bs⟩, sd, i0, i1⟩ h) : am_R M_Sp_drawDay (27, [.ref 1, v1, v2], []) h (fun r h' => r = none ∧ cRep ⟨⟨len, tx⟩, fa, ⟨N, P, G, wa, me⟩, (S.1, S.2.1, S.2.2.1, S.2.2.2.1, drw sd 6, S.2.2.2.2.2), dd, ⟨rc, rx, rh⟩, ⟨bc, bw, bs⟩, lcg sd, i0, i1⟩ h' ∧ am_fr 14 121 h h') := by
  obtain ⟨x1, ⟨x2, x3, x4⟩, x5, ⟨x6, x7, waC, meC, x8, x9, x10, x11, x12⟩, ⟨wh, mi, fe, fl, x13, x14, x15, x16⟩, x17, ⟨tm, x18⟩, ⟨fi, ff, x19, x20, x21, x22, x23, x24, x25⟩, ⟨x26, ss, fd, x27, x28, x29, x30⟩, ⟨x31, x32, x33, x34⟩, x35, ⟨fi2, x36, x37, x38, x39, x40⟩⟩ := id R
  have y13 : h.1 14 = .inr (6, [.ref 15, .ref 16, .int fe, .int fl, .int _, .int _, .int _]) := x13
  have y14 : h.1 15 = iar wh := x14
  have y15 : h.1 16 = iar mi := x15
  unfold pTop at x1
  repeat (first | refine rs [] rfl rfl rfl rfl ?_ | refine rk rfl rfl ?_ | refine rgoh [] rfl rfl ?_ | refine rgeta (hi := rfl) (kk := ?_) | refine rialda (hi := rfl) (kk := ?_))
  (first | refine rcvs rfl rfl rfl rfl rfl (by first | assumption | (simp (disch := omega) only [am_set_ne, am_set_eq]; first | assumption | rfl)) rfl (c_nextx (n := 6) (by decide) (by omega) (by omega) x35) ?_ | refine rcvn rfl rfl rfl rfl rfl (by first | assumption | (simp (disch := omega) only [am_set_ne, am_set_eq]; first | assumption | rfl)) rfl (c_nextx (n := 6) (by decide) (by omega) (by omega) x35) ?_)
  have f1 : am_fr 14 121 h (am_set h 120 (.inr (2, [.int (lcg sd)]))) := fr_set fr_rf (by omega) (by omega)
  have R1 := cRep_seed R (fr_set (lo := 120) (hi := 121) (c := .inr (2, [.int (lcg sd)])) fr_rf (by omega) (by omega)) am_set_eq
  refine am_R.imp (v_dayU R1) ?_
  rintro r h' ⟨rfl, R2, f2⟩
  exact ⟨rfl, R2, fr_tr f1 f2 (by omega) (by omega)⟩
set_option maxHeartbeats 1000000 in
theorem v_day (R : cRep ⟨⟨len, tx⟩, fa, ⟨N, P, G, wa, me⟩, S, dd, ⟨rc, rx, rh⟩, ⟨bc, bw, bs⟩, sd, i0, i1⟩ h) : am_T M_Sp_drawDay [.ref 1] h (fun r h' => r = none ∧ cRep ⟨⟨len, tx⟩, fa, ⟨N, P, G, wa, me⟩, (dyA P (S, sd)).1, dd, ⟨rc, rx, rh⟩, ⟨bc, bw, bs⟩, (dyA P (S, sd)).2, i0, i1⟩ h' ∧ am_fr 14 121 h h') := by
  obtain ⟨x1, ⟨x2, x3, x4⟩, x5, ⟨x6, x7, waC, meC, x8, x9, x10, x11, x12⟩, ⟨wh, mi, fe, fl, x13, x14, x15, x16⟩, x17, ⟨tm, x18⟩, ⟨fi, ff, x19, x20, x21, x22, x23, x24, x25⟩, ⟨x26, ss, fd, x27, x28, x29, x30⟩, ⟨x31, x32, x33, x34⟩, x35, ⟨fi2, x36, x37, x38, x39, x40⟩⟩ := id R
  have y13 : h.1 14 = .inr (6, [.ref 15, .ref 16, .int fe, .int fl, .int _, .int _, .int _]) := x13
  have y14 : h.1 15 = iar wh := x14
  have y15 : h.1 16 = iar mi := x15
  unfold pTop at x1
  unfold dyA
  (try unfold am_E); unfold am_T
  repeat (first | refine rs [27] rfl rfl rfl rfl ?_ | refine rk rfl rfl ?_ | refine rgoh [27] rfl rfl ?_ | refine rgeta (hi := rfl) (kk := ?_) | refine rialda (hi := rfl) (kk := ?_))
  by_cases c : P = 0
  · rw [if_pos c]
    (first | refine rif rfl rfl (fun c1 => ?_) (fun c1 => ?_) | refine ric rfl rfl (fun c1 => ?_) (fun c1 => ?_))
    · exact v_dayT R
    · exact absurd (by rw [c]; decide) c1
  · rw [if_neg c]
    (first | refine rif rfl rfl (fun c1 => ?_) (fun c1 => ?_) | refine ric rfl rfl (fun c1 => ?_) (fun c1 => ?_))
    · exact absurd c1 (nI_nle (by omega) (by omega))
    · repeat (first | refine rs [27] rfl rfl rfl rfl ?_ | refine rk rfl rfl ?_ | refine rgoh [27] rfl rfl ?_ | refine rgeta (hi := rfl) (kk := ?_) | refine rialda (hi := rfl) (kk := ?_))
      (first | refine rcvs rfl rfl rfl rfl rfl (by first | assumption | (simp (disch := omega) only [am_set_ne, am_set_eq]; first | assumption | rfl)) rfl (c_next (by omega) (by omega) x35) ?_ | refine rcvn rfl rfl rfl rfl rfl (by first | assumption | (simp (disch := omega) only [am_set_ne, am_set_eq]; first | assumption | rfl)) rfl (c_next (by omega) (by omega) x35) ?_)
      have R1 := cRep_seed R (fr_set (lo := 120) (hi := 121) (c := .inr (2, [.int (lcg sd)])) fr_rf (by omega) (by omega)) am_set_eq
      repeat (first | refine rs [27] rfl rfl rfl rfl ?_ | refine rk rfl rfl ?_ | refine rgoh [27] rfl rfl ?_ | refine rgeta (hi := rfl) (kk := ?_) | refine rialda (hi := rfl) (kk := ?_))
      (first | refine rcvs rfl rfl rfl rfl rfl (by first | assumption | (simp (disch := omega) only [am_set_ne, am_set_eq]; first | assumption | rfl)) rfl (c_nextx (n := 10) (by decide) (by omega) (by omega) am_set_eq) ?_ | refine rcvn rfl rfl rfl rfl rfl (by first | assumption | (simp (disch := omega) only [am_set_ne, am_set_eq]; first | assumption | rfl)) rfl (c_nextx (n := 10) (by decide) (by omega) (by omega) am_set_eq) ?_)
      have R2 := cRep_seed R1 (fr_set (lo := 120) (hi := 121) (c := .inr (2, [.int (lcg (lcg sd))])) fr_rf (by omega) (by omega)) am_set_eq
      have f2 : am_fr 14 121 h (am_set (am_set h 120 (.inr (2, [.int (lcg sd)]))) 120 (.inr (2, [.int (lcg (lcg sd))]))) := fr_set (fr_set fr_rf (by omega) (by omega)) (by omega) (by omega)
      generalize am_set (am_set h 120 (.inr (2, [.int (lcg sd)]))) 120 (.inr (2, [.int (lcg (lcg sd))])) = h2 at R2 f2 ⊢
      obtain ⟨x1, ⟨x2, x3, x4⟩, x5, ⟨x6, x7, waC, meC, x8, x9, x10, x11, x12⟩, ⟨wh, mi, fe, fl, x13, x14, x15, x16⟩, x17, ⟨tm, x18⟩, ⟨fi, ff, x19, x20, x21, x22, x23, x24, x25⟩, ⟨x26, ss, fd, x27, x28, x29, x30⟩, ⟨x31, x32, x33, x34⟩, x35, ⟨fi2, x36, x37, x38, x39, x40⟩⟩ := id R2
      have y13 : h2.1 14 = .inr (6, [.ref 15, .ref 16, .int fe, .int fl, .int _, .int _, .int _]) := x13
      have y14 : h2.1 15 = iar wh := x14
      have y15 : h2.1 16 = iar mi := x15
      unfold pTop at x1
      repeat (first | refine rs [27] rfl rfl rfl rfl ?_ | refine rk rfl rfl ?_ | refine rgoh [27] rfl rfl ?_ | refine rgeta (hi := rfl) (kk := ?_) | refine rialda (hi := rfl) (kk := ?_))
      (first | refine rcvs rfl rfl rfl rfl rfl (by first | assumption | (simp (disch := omega) only [am_set_ne, am_set_eq]; first | assumption | rfl)) rfl (c_hasPerson x7 x8) ?_ | refine rcvn rfl rfl rfl rfl rfl (by first | assumption | (simp (disch := omega) only [am_set_ne, am_set_eq]; first | assumption | rfl)) rfl (c_hasPerson x7 x8) ?_)
      by_cases d : inR (drw sd (nI P)) P
      · rw [if_pos d, if_pos d]
        (first | refine rift rfl rfl ?_ | refine riff rfl rfl ?_ | refine rict rfl rfl ?_ | refine ricf rfl rfl ?_)
        obtain ⟨k, hk, ek⟩ := inR_of d (by omega)
        rw [ek, nI_clamp (by omega)]
        repeat (first | refine rs [27] rfl rfl rfl rfl ?_ | refine rk rfl rfl ?_ | refine rgoh [27] rfl rfl ?_ | refine rgeta (hi := rfl) (kk := ?_) | refine rialda (hi := rfl) (kk := ?_))
        refine riasta (hi := rfl) (kk := ?_)
        have R3 := cRep_now (S' := (S.1, upd S.2.1 k (drw (lcg sd) 10), S.2.2)) R2 (fr_set (lo := 14) (hi := 17) (a := 16) (c := iar (upd mi k (drw (lcg sd) 10))) fr_rf (by omega) (by omega)) ⟨wh, upd mi k (drw (lcg sd) 10), fe, fl, by rw [am_set_ne (by omega)]; exact x13, by rw [am_set_ne (by omega)]; exact x14, am_set_eq, fun p hp => ⟨(x16 p hp).1, eqP_upd (fun p hp => (x16 p hp).2.1) p hp, (x16 p hp).2.2⟩⟩
        refine am_R.imp (v_dayT R3) ?_
        rintro r h4 ⟨rfl, R4, f4⟩
        exact ⟨rfl, R4, fr_tr (fr_set f2 (by omega) (by omega)) f4 (by omega) (by omega)⟩
      · rw [if_neg d, if_neg d]
        (first | refine rift rfl rfl ?_ | refine riff rfl rfl ?_ | refine rict rfl rfl ?_ | refine ricf rfl rfl ?_)
        refine am_R.imp (v_dayT R2) ?_
        rintro r h4 ⟨rfl, R4, f4⟩
        exact ⟨rfl, R4, fr_tr f2 f4 (by omega) (by omega)⟩
def drA (N P : Nat) (G : Int32) (wa me : Nat → Int32) (n : Nat) (z : Sc × List Sc × Int32) : Sc × List Sc × Int32 := fo (fun _ z => (rnA N P G wa me 0 (dyA P (z.1, z.2.2)).1, dnote z.2.1 z.1, (dyA P (z.1, z.2.2)).2)) n z
def o_drift (n : Int32) : Q → Int32 × Q
  | ⟨⟨len, tx⟩, fa, ⟨N, P, G, wa, me⟩, S, dd, ⟨rc, rx, rh⟩, ⟨bc, bw, bs⟩, sd, i0, i1⟩ => if rfA n N S = 0 then (arv (drA N P G wa me n.toNatClampNeg (S, dd, sd)).1.1 wa P, ⟨⟨len, tx⟩, fa, ⟨N, P, G, wa, me⟩, (drA N P G wa me n.toNatClampNeg (S, dd, sd)).1, (drA N P G wa me n.toNatClampNeg (S, dd, sd)).2.1, ⟨rc, rx, rh⟩, ⟨bc, bw, bs⟩, (drA N P G wa me n.toNatClampNeg (S, dd, sd)).2.2, i0, i1⟩) else (rfA n N S, ⟨⟨len, tx⟩, fa, ⟨N, P, G, wa, me⟩, S, dd, ⟨rc, rx, rh⟩, ⟨bc, bw, bs⟩, sd, i0, i1⟩)
set_option maxHeartbeats 1000000 in
theorem v_drift {n : Int32} (R : cRep ⟨⟨len, tx⟩, fa, ⟨N, P, G, wa, me⟩, S, dd, ⟨rc, rx, rh⟩, ⟨bc, bw, bs⟩, sd, i0, i1⟩ h) : am_O M_Sp_drift [.ref 1, .int n] (o_drift n ⟨⟨len, tx⟩, fa, ⟨N, P, G, wa, me⟩, S, dd, ⟨rc, rx, rh⟩, ⟨bc, bw, bs⟩, sd, i0, i1⟩) h := by
  have x1 := R.1
  unfold pTop at x1
  unfold am_O o_drift
  (try unfold am_E); unfold am_T
  dsimp only
  repeat (first | refine rs [] rfl rfl rfl rfl ?_ | refine rk rfl rfl ?_ | refine rgoh [] rfl rfl ?_ | refine rgeta (hi := rfl) (kk := ?_) | refine rialda (hi := rfl) (kk := ?_))
  (first | refine rcvs rfl rfl rfl rfl rfl (by first | assumption | (simp (disch := omega) only [am_set_ne, am_set_eq]; first | assumption | rfl)) rfl (v_refused R) ?_ | refine rcvn rfl rfl rfl rfl rfl (by first | assumption | (simp (disch := omega) only [am_set_ne, am_set_eq]; first | assumption | rfl)) rfl (v_refused R) ?_)
  by_cases e : rfA n N S = 0
  · rw [e, if_pos rfl]
    repeat (first | refine rs [] rfl rfl rfl rfl ?_ | refine rk rfl rfl ?_ | refine rgoh [] rfl rfl ?_ | refine rgeta (hi := rfl) (kk := ?_) | refine rialda (hi := rfl) (kk := ?_))
    (first | refine rift rfl rfl ?_ | refine riff rfl rfl ?_ | refine rict rfl rfl ?_ | refine ricf rfl rfl ?_)
    obtain ⟨m, rfl, m1, m2, -⟩ := rfA_0 e
    rw [nI_clamp (by omega)]
    repeat (first | refine rs [10] rfl rfl rfl rfl ?_ | refine rk rfl rfl ?_ | refine rgoh [10] rfl rfl ?_ | refine rgeta (hi := rfl) (kk := ?_) | refine rialda (hi := rfl) (kk := ?_))
    refine lup (P := fun i => ∀ x h1, x = nI i → cRep ⟨⟨len, tx⟩, fa, ⟨N, P, G, wa, me⟩, (drA N P G wa me i (S, dd, sd)).1, (drA N P G wa me i (S, dd, sd)).2.1, ⟨rc, rx, rh⟩, ⟨bc, bw, bs⟩, (drA N P G wa me i (S, dd, sd)).2.2, i0, i1⟩ h1 → am_fr 1 130 h h1 → am_R M_Sp_drift (10, [.ref 1, .int (nI m), .int 0, .int x], []) h1 _) m ?_ ?_ 0 h nI_0.symm R fr_rf
    · rintro x h1 rfl R1 f1
      obtain ⟨x1, ⟨x2, x3, x4⟩, x5, ⟨x6, x7, waC, meC, x8, x9, x10, x11, x12⟩, ⟨wh, mi, fe, fl, x13, x14, x15, x16⟩, x17, ⟨tm, x18⟩, ⟨fi, ff, x19, x20, x21, x22, x23, x24, x25⟩, ⟨x26, ss, fd, x27, x28, x29, x30⟩, ⟨x31, x32, x33, x34⟩, x35, ⟨fi2, x36, x37, x38, x39, x40⟩⟩ := id R1
      have y13 : h1.1 14 = .inr (6, [.ref 15, .ref 16, .int fe, .int fl, .int _, .int _, .int _]) := x13
      have y14 : h1.1 15 = iar wh := x14
      have y15 : h1.1 16 = iar mi := x15
      unfold pTop at x1
      repeat (first | refine rs [] rfl rfl rfl rfl ?_ | refine rk rfl rfl ?_ | refine rgoh [] rfl rfl ?_ | refine rgeta (hi := rfl) (kk := ?_) | refine rialda (hi := rfl) (kk := ?_))
      (first | refine rif rfl rfl (fun c1 => ?_) (fun c1 => ?_) | refine ric rfl rfl (fun c1 => ?_) (fun c1 => ?_))
      · repeat (first | refine rs [] rfl rfl rfl rfl ?_ | refine rk rfl rfl ?_ | refine rgoh [] rfl rfl ?_ | refine rgeta (hi := rfl) (kk := ?_) | refine rialda (hi := rfl) (kk := ?_))
        (first | refine rcvs rfl rfl rfl rfl rfl (by first | assumption | (simp (disch := omega) only [am_set_ne, am_set_eq]; first | assumption | rfl)) rfl (a_arrived R1.2.2.2.1 R1.2.2.2.2.1 (by omega)) ?_ | refine rcvn rfl rfl rfl rfl rfl (by first | assumption | (simp (disch := omega) only [am_set_ne, am_set_eq]; first | assumption | rfl)) rfl (a_arrived R1.2.2.2.1 R1.2.2.2.2.1 (by omega)) ?_)
        refine rret rfl rfl ?_
        exact ⟨rfl, R1, f1⟩
      · exact absurd (Int32.le_refl _) c1
    · rintro i hi ih x h1 rfl R1 f1
      obtain ⟨x1, ⟨x2, x3, x4⟩, x5, ⟨x6, x7, waC, meC, x8, x9, x10, x11, x12⟩, ⟨wh, mi, fe, fl, x13, x14, x15, x16⟩, x17, ⟨tm, x18⟩, ⟨fi, ff, x19, x20, x21, x22, x23, x24, x25⟩, ⟨x26, ss, fd, x27, x28, x29, x30⟩, ⟨x31, x32, x33, x34⟩, x35, ⟨fi2, x36, x37, x38, x39, x40⟩⟩ := id R1
      have y13 : h1.1 14 = .inr (6, [.ref 15, .ref 16, .int fe, .int fl, .int _, .int _, .int _]) := x13
      have y14 : h1.1 15 = iar wh := x14
      have y15 : h1.1 16 = iar mi := x15
      unfold pTop at x1
      repeat (first | refine rs [] rfl rfl rfl rfl ?_ | refine rk rfl rfl ?_ | refine rgoh [] rfl rfl ?_ | refine rgeta (hi := rfl) (kk := ?_) | refine rialda (hi := rfl) (kk := ?_))
      (first | refine rif rfl rfl (fun c1 => ?_) (fun c1 => ?_) | refine ric rfl rfl (fun c1 => ?_) (fun c1 => ?_))
      · exact absurd hi ((nI_lt_iff (by omega) (by omega)).mp c1)
      · repeat (first | refine rs [] rfl rfl rfl rfl ?_ | refine rk rfl rfl ?_ | refine rgoh [] rfl rfl ?_ | refine rgeta (hi := rfl) (kk := ?_) | refine rialda (hi := rfl) (kk := ?_))
        refine rcvt rfl rfl rfl rfl rfl x21 rfl (v_note R1) ?_
        rintro r h2 ⟨rfl, R2, f2⟩
        show am_R M_Sp_drift (18, [.ref 1, .int (nI m), .int 0, .int (nI i)], []) _ _
        have z1 := R2.1
        unfold pTop at z1
        repeat (first | refine rs [] rfl rfl rfl rfl ?_ | refine rk rfl rfl ?_ | refine rgoh [] rfl rfl ?_ | refine rgeta (hi := rfl) (kk := ?_) | refine rialda (hi := rfl) (kk := ?_))
        refine rcvt rfl rfl rfl rfl rfl z1 rfl (v_day R2) ?_
        rintro r h3 ⟨rfl, R3, f3⟩
        show am_R M_Sp_drift (20, [.ref 1, .int (nI m), .int 0, .int (nI i)], []) _ _
        obtain ⟨x1, ⟨x2, x3, x4⟩, x5, ⟨x6, x7, waC, meC, x8, x9, x10, x11, x12⟩, ⟨wh, mi, fe, fl, x13, x14, x15, x16⟩, x17, ⟨tm, x18⟩, ⟨fi, ff, x19, x20, x21, x22, x23, x24, x25⟩, ⟨x26, ss, fd, x27, x28, x29, x30⟩, ⟨x31, x32, x33, x34⟩, x35, ⟨fi2, x36, x37, x38, x39, x40⟩⟩ := id R3
        have y13 : h3.1 14 = .inr (6, [.ref 15, .ref 16, .int fe, .int fl, .int _, .int _, .int _]) := x13
        have y14 : h3.1 15 = iar wh := x14
        have y15 : h3.1 16 = iar mi := x15
        unfold pTop at x1
        repeat (first | refine rs [] rfl rfl rfl rfl ?_ | refine rk rfl rfl ?_ | refine rgoh [] rfl rfl ?_ | refine rgeta (hi := rfl) (kk := ?_) | refine rialda (hi := rfl) (kk := ?_))
        refine rcvt rfl rfl rfl rfl rfl y13 rfl (v_run R3) ?_
        rintro r h4 ⟨rfl, R4, f4⟩
        show am_R M_Sp_drift (29, [.ref 1, .int (nI m), .int 0, .int (nI i)], []) _ _
        repeat (first | refine rs [10] rfl rfl rfl rfl ?_ | refine rk rfl rfl ?_ | refine rgoh [10] rfl rfl ?_ | refine rgeta (hi := rfl) (kk := ?_) | refine rialda (hi := rfl) (kk := ?_))
        exact ih _ h4 (nI_succ i).symm R4 (fr_tr f1 (fr_tr (lo := 14) (hi := 121) (fr_wd f2 (by omega) (by omega)) (fr_tr (lo := 14) (hi := 121) f3 f4 (by omega) (by omega)) (by omega) (by omega)) (by omega) (by omega))
  · rw [if_neg e]
    repeat (first | refine rs [] rfl rfl rfl rfl ?_ | refine rk rfl rfl ?_ | refine rgoh [] rfl rfl ?_ | refine rgeta (hi := rfl) (kk := ?_) | refine rialda (hi := rfl) (kk := ?_))
    (first | refine rif rfl rfl (fun c1 => ?_) (fun c1 => ?_) | refine ric rfl rfl (fun c1 => ?_) (fun c1 => ?_))
    · exact absurd c1 e
    · repeat (first | refine rs [] rfl rfl rfl rfl ?_ | refine rk rfl rfl ?_ | refine rgoh [] rfl rfl ?_ | refine rgeta (hi := rfl) (kk := ?_) | refine rialda (hi := rfl) (kk := ?_))
      refine rret rfl rfl ?_
      exact ⟨rfl, R, fr_rf⟩
def o_undo (n : Int32) : Q → Int32 × Q
  | ⟨⟨len, tx⟩, fa, ⟨N, P, G, wa, me⟩, S, dd, ⟨rc, rx, rh⟩, ⟨bc, bw, bs⟩, sd, i0, i1⟩ => if n < 1 ∨ 30 < n then (-1000000002, ⟨⟨len, tx⟩, fa, ⟨N, P, G, wa, me⟩, S, dd, ⟨rc, rx, rh⟩, ⟨bc, bw, bs⟩, sd, i0, i1⟩) else if dd.length < n.toNatClampNeg then (-1000000003, ⟨⟨len, tx⟩, fa, ⟨N, P, G, wa, me⟩, S, dd, ⟨rc, rx, rh⟩, ⟨bc, bw, bs⟩, sd, i0, i1⟩) else ((dd.getD (dd.length - n.toNatClampNeg) S).2.2.2.2.2.1, ⟨⟨len, tx⟩, fa, ⟨N, P, G, wa, me⟩, dd.getD (dd.length - n.toNatClampNeg) S, dd.take (dd.length - n.toNatClampNeg), ⟨rc, rx, rh⟩, ⟨bc, bw, bs⟩, sd, i0, i1⟩)
theorem v_undo {n : Int32} (R : cRep ⟨⟨len, tx⟩, fa, ⟨N, P, G, wa, me⟩, S, dd, ⟨rc, rx, rh⟩, ⟨bc, bw, bs⟩, sd, i0, i1⟩ h) : am_O M_Sp_undo [.ref 1, .int n] (o_undo n ⟨⟨len, tx⟩, fa, ⟨N, P, G, wa, me⟩, S, dd, ⟨rc, rx, rh⟩, ⟨bc, bw, bs⟩, sd, i0, i1⟩) h := by
  have hD : cDd P dd h := R.2.2.2.2.2.2.2.1
  have hS : cSc P 14 S h := R.2.2.2.2.1
  obtain ⟨x1, ⟨x2, x3, x4⟩, x5, ⟨x6, x7, waC, meC, x8, x9, x10, x11, x12⟩, ⟨wh, mi, fe, fl, x13, x14, x15, x16⟩, x17, ⟨tm, x18⟩, ⟨fi, ff, x19, x20, x21, x22, x23, x24, x25⟩, ⟨x26, ss, fd, x27, x28, x29, x30⟩, ⟨x31, x32, x33, x34⟩, x35, ⟨fi2, x36, x37, x38, x39, x40⟩⟩ := id R
  have y13 : h.1 14 = .inr (6, [.ref 15, .ref 16, .int fe, .int fl, .int _, .int _, .int _]) := x13
  have y14 : h.1 15 = iar wh := x14
  have y15 : h.1 16 = iar mi := x15
  unfold pTop at x1
  unfold am_O o_undo
  (try unfold am_E); unfold am_T
  dsimp only
  repeat (first | refine rs [] rfl rfl rfl rfl ?_ | refine rk rfl rfl ?_ | refine rgoh [] rfl rfl ?_ | refine rgeta (hi := rfl) (kk := ?_) | refine rialda (hi := rfl) (kk := ?_))
  (first | refine rif rfl rfl (fun c1 => ?_) (fun c1 => ?_) | refine ric rfl rfl (fun c1 => ?_) (fun c1 => ?_))
  · repeat (first | refine rs [] rfl rfl rfl rfl ?_ | refine rk rfl rfl ?_ | refine rgoh [] rfl rfl ?_ | refine rgeta (hi := rfl) (kk := ?_) | refine rialda (hi := rfl) (kk := ?_))
    refine rret rfl rfl ?_
    rw [if_pos (Or.inl c1)]
    exact ⟨rfl, R, fr_rf⟩
  · repeat (first | refine rs [] rfl rfl rfl rfl ?_ | refine rk rfl rfl ?_ | refine rgoh [] rfl rfl ?_ | refine rgeta (hi := rfl) (kk := ?_) | refine rialda (hi := rfl) (kk := ?_))
    (first | refine rif rfl rfl (fun c2 => ?_) (fun c2 => ?_) | refine ric rfl rfl (fun c2 => ?_) (fun c2 => ?_))
    · rw [if_neg (by rintro (a | a); exact c1 a; exact absurd c2 (Int32.not_le.mpr a))]
      have h0 : ¬ n < 0 := fun a => c1 (Int32.lt_of_lt_of_le a (by decide))
      obtain ⟨m, hm, rfl⟩ := nI_of h0
      have m1 : 1 ≤ m := by
        rcases Nat.lt_or_ge m 1 with w | w
        · exact absurd (by rw [show (1 : Int32) = nI 1 by decide, nI_ltI hm (by omega)]; exact w) c1
        · exact w
      rw [nI_clamp (by omega)]
      by_cases e : dd.length < m
      · rw [if_pos e]
        repeat (first | refine rs [] rfl rfl rfl rfl ?_ | refine rk rfl rfl ?_ | refine rgoh [] rfl rfl ?_ | refine rgeta (hi := rfl) (kk := ?_) | refine rialda (hi := rfl) (kk := ?_))
        (first | refine rcvs rfl rfl rfl rfl rfl (by first | assumption | (simp (disch := omega) only [am_set_ne, am_set_eq]; first | assumption | rfl)) rfl (c_takeBackN rfl hm e hD rfl) ?_ | refine rcvn rfl rfl rfl rfl rfl (by first | assumption | (simp (disch := omega) only [am_set_ne, am_set_eq]; first | assumption | rfl)) rfl (c_takeBackN rfl hm e hD rfl) ?_)
        (first | refine rift rfl rfl ?_ | refine riff rfl rfl ?_ | refine rict rfl rfl ?_ | refine ricf rfl rfl ?_)
        repeat (first | refine rs [] rfl rfl rfl rfl ?_ | refine rk rfl rfl ?_ | refine rgoh [] rfl rfl ?_ | refine rgeta (hi := rfl) (kk := ?_) | refine rialda (hi := rfl) (kk := ?_))
        refine rret rfl rfl ?_
        exact ⟨rfl, R, fr_rf⟩
      · rw [if_neg e]
        have hg : dd[dd.length - m]? = some (dd.getD (dd.length - m) S) := by
          rw [List.getD_eq_getElem?_getD, List.getElem?_eq_getElem (by omega)]
          rfl
        repeat (first | refine rs [] rfl rfl rfl rfl ?_ | refine rk rfl rfl ?_ | refine rgoh [] rfl rfl ?_ | refine rgeta (hi := rfl) (kk := ?_) | refine rialda (hi := rfl) (kk := ?_))
        refine rcvt rfl rfl rfl rfl rfl x21 rfl (c_takeBack rfl m1 (by omega) hg hD hS.raw x7) ?_
        rintro r h1 ⟨rfl, D1, S1, f1, g1⟩
        have R1 := cRep_sd R f1 g1 S1 D1
        show am_R M_Sp_undo (14, [.ref 1, .int (nI m)], [.int 1]) _ _
        obtain ⟨x1, ⟨x2, x3, x4⟩, x5, ⟨x6, x7, waC, meC, x8, x9, x10, x11, x12⟩, ⟨wh, mi, fe, fl, x13, x14, x15, x16⟩, x17, ⟨tm, x18⟩, ⟨fi, ff, x19, x20, x21, x22, x23, x24, x25⟩, ⟨x26, ss, fd, x27, x28, x29, x30⟩, ⟨x31, x32, x33, x34⟩, x35, ⟨fi2, x36, x37, x38, x39, x40⟩⟩ := id R1
        have y13 : h1.1 14 = .inr (6, [.ref 15, .ref 16, .int fe, .int fl, .int _, .int _, .int _]) := x13
        have y14 : h1.1 15 = iar wh := x14
        have y15 : h1.1 16 = iar mi := x15
        unfold pTop at x1
        (first | refine rift rfl rfl ?_ | refine riff rfl rfl ?_ | refine rict rfl rfl ?_ | refine ricf rfl rfl ?_)
        repeat (first | refine rs [] rfl rfl rfl rfl ?_ | refine rk rfl rfl ?_ | refine rgoh [] rfl rfl ?_ | refine rgeta (hi := rfl) (kk := ?_) | refine rialda (hi := rfl) (kk := ?_))
        refine rret rfl rfl ?_
        exact ⟨rfl, R1, fr_wd f1 (by omega) (by omega)⟩
    · repeat (first | refine rs [] rfl rfl rfl rfl ?_ | refine rk rfl rfl ?_ | refine rgoh [] rfl rfl ?_ | refine rgeta (hi := rfl) (kk := ?_) | refine rialda (hi := rfl) (kk := ?_))
      refine rret rfl rfl ?_
      rw [if_pos (Or.inr (Int32.not_le.mp c2))]
      exact ⟨rfl, R, fr_rf⟩
end CImages
end
section
/-! the class's calls: keep, goBack -/
section CKeep
variable {h h' : am_H} {len N P rc bc : Nat} {fa G sd : Int32} {tx wa me rx rh bw bs : Nat → Int32} {S S' : Sc} {dd dd' : List Sc} {i0 i1 i0' i1' : Im}
theorem v_keepA {x s kk : Int32} {k a : Nat} {gI : Nat → Option Nat} (hx : x = nI k) (hk : k < 2) (ha : a = 122 + 4 * k) (hf : gI k = some a) (h121 : h.1 121 = .inl (.object "SpiteLine$Image", 2, .inr (.inr (.inr (.inr gI))))) (hI : h.1 a = .inr (3, [.ref (a + 1), .int s, .int kk])) (hr : cRaw (a + 1) h) (R : cRep ⟨⟨len, tx⟩, fa, ⟨N, P, G, wa, me⟩, S, dd, ⟨rc, rx, rh⟩, ⟨bc, bw, bs⟩, sd, i0, i1⟩ h) : am_R M_Sp_keep (7, [.ref 1, .int x], []) h (fun r h' => r = some (.int 1) ∧ ∃ hA fi' y', am_fr a (a + 4) h hA ∧ cIm P a (some (S, sd)) hA ∧ hA.1 21 = .inr (1, [.ref 22, .int fi', .int y']) ∧ h' = am_set hA 21 (.inr (1, [.ref 22, .int fi', .int 0]))) := by
  have hS : cSc P 14 S h := R.2.2.2.2.1
  obtain ⟨x1, ⟨x2, x3, x4⟩, x5, ⟨x6, x7, waC, meC, x8, x9, x10, x11, x12⟩, ⟨wh, mi, fe, fl, x13, x14, x15, x16⟩, x17, ⟨tm, x18⟩, ⟨fi, ff, x19, x20, x21, x22, x23, x24, x25⟩, ⟨x26, ss, fd, x27, x28, x29, x30⟩, ⟨x31, x32, x33, x34⟩, x35, ⟨fi2, x36, x37, x38, x39, x40⟩⟩ := id R
  have y13 : h.1 14 = .inr (6, [.ref 15, .ref 16, .int fe, .int fl, .int _, .int _, .int _]) := x13
  have y14 : h.1 15 = iar wh := x14
  have y15 : h.1 16 = iar mi := x15
  unfold pTop at x1
  repeat (first | refine rs [] rfl rfl rfl rfl ?_ | refine rk rfl rfl ?_ | refine rgoh [] rfl rfl ?_ | refine rgeta (hi := rfl) (kk := ?_) | refine rialda (hi := rfl) (kk := ?_))
  refine raald rfl h121 (Or.inr rfl) k hk (by omega) hx hf ?_
  repeat (first | refine rs [] rfl rfl rfl rfl ?_ | refine rk rfl rfl ?_ | refine rgoh [] rfl rfl ?_ | refine rgeta (hi := rfl) (kk := ?_) | refine rialda (hi := rfl) (kk := ?_))
  obtain ⟨u1, u2, u3, u4, u5, u6, u7, hx0, -⟩ := id hr
  refine rcvt rfl rfl rfl rfl rfl hx0 rfl (c_takeFrom hr hS x7 (by omega) (by omega) (by omega)) ?_
  rintro r h1 ⟨rfl, g1, g2⟩
  show am_R M_Sp_keep (15, [.ref 1, .int x], []) _ _
  have e1 : h1.1 1 = .inr (9, [.ref 2, .ref 4, .ref 11, .ref 14, .ref 17, .ref 20, .ref 21, .ref 113, .ref 117, .ref 120, .ref 121, .int fa]) := by rw [g2.2 _ (by omega)]; exact x1
  have e120 : h1.1 120 = .inr (2, [.int sd]) := by rw [g2.2 _ (by omega)]; exact x35
  have e121 : h1.1 121 = .inl (.object "SpiteLine$Image", 2, .inr (.inr (.inr (.inr gI)))) := by rw [g2.2 _ (by omega)]; exact h121
  have eI : h1.1 a = .inr (3, [.ref (a + 1), .int s, .int kk]) := by rw [g2.2 _ (by omega)]; exact hI
  have e21 : h1.1 21 = .inr (1, [.ref 22, .int (nI fi), .int (nI dd.length)]) := by rw [g2.2 _ (by omega)]; exact x21
  repeat (first | refine rs [] rfl rfl rfl rfl ?_ | refine rk rfl rfl ?_ | refine rgoh [] rfl rfl ?_ | refine rgeta (hi := rfl) (kk := ?_) | refine rialda (hi := rfl) (kk := ?_))
  refine raald rfl e121 (Or.inr rfl) k hk (by omega) hx hf ?_
  repeat (first | refine rs [] rfl rfl rfl rfl ?_ | refine rk rfl rfl ?_ | refine rgoh [] rfl rfl ?_ | refine rgeta (hi := rfl) (kk := ?_) | refine rialda (hi := rfl) (kk := ?_))
  refine rputa (hi := rfl) (hc := eI) (kk := ?_)
  repeat (first | refine rs [] rfl rfl rfl rfl ?_ | refine rk rfl rfl ?_ | refine rgoh [] rfl rfl ?_ | refine rgeta (hi := rfl) (kk := ?_) | refine rialda (hi := rfl) (kk := ?_))
  refine raald rfl (by rw [am_set_ne (by omega)]; exact e121) (Or.inr rfl) k hk (by omega) hx hf ?_
  repeat (first | refine rs [] rfl rfl rfl rfl ?_ | refine rk rfl rfl ?_ | refine rgoh [] rfl rfl ?_ | refine rgeta (hi := rfl) (kk := ?_) | refine rialda (hi := rfl) (kk := ?_))
  refine rputa (hi := rfl) (hc := am_set_eq) (kk := ?_)
  repeat (first | refine rs [] rfl rfl rfl rfl ?_ | refine rk rfl rfl ?_ | refine rgoh [] rfl rfl ?_ | refine rgeta (hi := rfl) (kk := ?_) | refine rialda (hi := rfl) (kk := ?_))
  refine rputa (hi := rfl) (kk := ?_)
  repeat (first | refine rs [] rfl rfl rfl rfl ?_ | refine rk rfl rfl ?_ | refine rgoh [] rfl rfl ?_ | refine rgeta (hi := rfl) (kk := ?_) | refine rialda (hi := rfl) (kk := ?_))
  refine rret rfl rfl ?_
  have fA : am_fr a (a + 4) h (am_set (am_set h1 a (.inr (3, [.ref (a + 1), .int sd, .int kk]))) a (.inr (3, [.ref (a + 1), .int sd, .int 1]))) := fr_set (fr_set (fr_wd g2 (by omega) (by omega)) (by omega) (by omega)) (by omega) (by omega)
  have fB : am_fr a (a + 1) h1 (am_set (am_set h1 a (.inr (3, [.ref (a + 1), .int sd, .int kk]))) a (.inr (3, [.ref (a + 1), .int sd, .int 1]))) := fr_set (fr_set fr_rf (by omega) (by omega)) (by omega) (by omega)
  refine ⟨rfl, _, nI fi, nI dd.length, fA, ⟨sd, 1, am_set_eq, g1.raw.fr fB (by omega), rfl, rfl, g1.fr fB (by omega)⟩, ?_, rfl⟩
  rw [am_set_ne (by omega), am_set_ne (by omega)]
  exact e21
def o_keep (i : Int32) : Q → Int32 × Q
  | ⟨⟨len, tx⟩, fa, ⟨N, P, G, wa, me⟩, S, dd, ⟨rc, rx, rh⟩, ⟨bc, bw, bs⟩, sd, i0, i1⟩ => if i = 0 then (1, ⟨⟨len, tx⟩, fa, ⟨N, P, G, wa, me⟩, S, [], ⟨rc, rx, rh⟩, ⟨bc, bw, bs⟩, sd, some (S, sd), i1⟩) else if i = 1 then (1, ⟨⟨len, tx⟩, fa, ⟨N, P, G, wa, me⟩, S, [], ⟨rc, rx, rh⟩, ⟨bc, bw, bs⟩, sd, i0, some (S, sd)⟩) else (-1000000001, ⟨⟨len, tx⟩, fa, ⟨N, P, G, wa, me⟩, S, dd, ⟨rc, rx, rh⟩, ⟨bc, bw, bs⟩, sd, i0, i1⟩)
theorem v_keep {x : Int32} (R : cRep ⟨⟨len, tx⟩, fa, ⟨N, P, G, wa, me⟩, S, dd, ⟨rc, rx, rh⟩, ⟨bc, bw, bs⟩, sd, i0, i1⟩ h) : am_O M_Sp_keep [.ref 1, .int x] (o_keep x ⟨⟨len, tx⟩, fa, ⟨N, P, G, wa, me⟩, S, dd, ⟨rc, rx, rh⟩, ⟨bc, bw, bs⟩, sd, i0, i1⟩) h := by
  obtain ⟨gI, z1, z2, z3, z4, z5⟩ := R.2.2.2.2.2.2.2.2.2.2.2
  unfold am_O o_keep
  (try unfold am_E); unfold am_T
  dsimp only
  by_cases c0 : x = 0
  · rw [if_pos c0]
    subst c0
    repeat (first | refine rs [7] rfl rfl rfl rfl ?_ | refine rk rfl rfl ?_ | refine rgoh [7] rfl rfl ?_ | refine rgeta (hi := rfl) (kk := ?_) | refine rialda (hi := rfl) (kk := ?_))
    (first | refine rift rfl rfl ?_ | refine riff rfl rfl ?_ | refine rict rfl rfl ?_ | refine ricf rfl rfl ?_)
    repeat (first | refine rs [7] rfl rfl rfl rfl ?_ | refine rk rfl rfl ?_ | refine rgoh [7] rfl rfl ?_ | refine rgeta (hi := rfl) (kk := ?_) | refine rialda (hi := rfl) (kk := ?_))
    (first | refine rift rfl rfl ?_ | refine riff rfl rfl ?_ | refine rict rfl rfl ?_ | refine ricf rfl rfl ?_)
    obtain ⟨s, kk, q1, q2, q3⟩ := id z4
    refine am_R.imp (v_keepA (k := 0) (a := 122) (by decide) (by omega) rfl z2 z1 q1 q2 R) ?_
    rintro r h1 ⟨rfl, hA, fi', y', f1, I1, e1, rfl⟩
    have RA := cRep_ims (i0' := some (S, sd)) (i1' := i1) R (fr_wd f1 (by omega) (by omega)) ⟨gI, by rw [f1.2 _ (by omega)]; exact z1, z2, z3, I1, z5.fr f1 (by omega)⟩
    exact ⟨rfl, cRep_d0 RA e1, fr_set (fr_wd f1 (by omega) (by omega)) (by omega) (by omega)⟩
  · rw [if_neg c0]
    by_cases c1 : x = 1
    · rw [if_pos c1]
      subst c1
      repeat (first | refine rs [7] rfl rfl rfl rfl ?_ | refine rk rfl rfl ?_ | refine rgoh [7] rfl rfl ?_ | refine rgeta (hi := rfl) (kk := ?_) | refine rialda (hi := rfl) (kk := ?_))
      (first | refine rift rfl rfl ?_ | refine riff rfl rfl ?_ | refine rict rfl rfl ?_ | refine ricf rfl rfl ?_)
      repeat (first | refine rs [7] rfl rfl rfl rfl ?_ | refine rk rfl rfl ?_ | refine rgoh [7] rfl rfl ?_ | refine rgeta (hi := rfl) (kk := ?_) | refine rialda (hi := rfl) (kk := ?_))
      (first | refine rift rfl rfl ?_ | refine riff rfl rfl ?_ | refine rict rfl rfl ?_ | refine ricf rfl rfl ?_)
      obtain ⟨s, kk, q1, q2, q3⟩ := id z5
      refine am_R.imp (v_keepA (k := 1) (a := 126) (by decide) (by omega) rfl z3 z1 q1 q2 R) ?_
      rintro r h1 ⟨rfl, hA, fi', y', f1, I1, e1, rfl⟩
      have RA := cRep_ims (i0' := i0) (i1' := some (S, sd)) R (fr_wd f1 (by omega) (by omega)) ⟨gI, by rw [f1.2 _ (by omega)]; exact z1, z2, z3, z4.fr f1 (by omega), I1⟩
      exact ⟨rfl, cRep_d0 RA e1, fr_set (fr_wd f1 (by omega) (by omega)) (by omega) (by omega)⟩
    · rw [if_neg c1]
      repeat (first | refine rs [7] rfl rfl rfl rfl ?_ | refine rk rfl rfl ?_ | refine rgoh [7] rfl rfl ?_ | refine rgeta (hi := rfl) (kk := ?_) | refine rialda (hi := rfl) (kk := ?_))
      (first | refine rif rfl rfl (fun d1 => ?_) (fun d1 => ?_) | refine ric rfl rfl (fun d1 => ?_) (fun d1 => ?_))
      · repeat (first | refine rs [7] rfl rfl rfl rfl ?_ | refine rk rfl rfl ?_ | refine rgoh [7] rfl rfl ?_ | refine rgeta (hi := rfl) (kk := ?_) | refine rialda (hi := rfl) (kk := ?_))
        refine rret rfl rfl ?_
        exact ⟨rfl, R, fr_rf⟩
      · repeat (first | refine rs [7] rfl rfl rfl rfl ?_ | refine rk rfl rfl ?_ | refine rgoh [7] rfl rfl ?_ | refine rgeta (hi := rfl) (kk := ?_) | refine rialda (hi := rfl) (kk := ?_))
        (first | refine rif rfl rfl (fun d2 => ?_) (fun d2 => ?_) | refine ric rfl rfl (fun d2 => ?_) (fun d2 => ?_))
        · exfalso
          obtain ⟨k, hk, rfl⟩ := inR_of (n := 2) ⟨d1, by rw [show nI 2 = (2 : Int32) by decide]; exact d2⟩ (by omega)
          match k, hk with
          | 0, _ => exact c0 (by decide)
          | 1, _ => exact c1 (by decide)
        · repeat (first | refine rs [7] rfl rfl rfl rfl ?_ | refine rk rfl rfl ?_ | refine rgoh [7] rfl rfl ?_ | refine rgeta (hi := rfl) (kk := ?_) | refine rialda (hi := rfl) (kk := ?_))
          refine rret rfl rfl ?_
          exact ⟨rfl, R, fr_rf⟩
/-- going back to an image -/
def gbA (o : Im) : Q → Int32 × Q
  | ⟨⟨len, tx⟩, fa, ⟨N, P, G, wa, me⟩, S, dd, ⟨rc, rx, rh⟩, ⟨bc, bw, bs⟩, sd, i0, i1⟩ => match o with | none => (-1000000003, ⟨⟨len, tx⟩, fa, ⟨N, P, G, wa, me⟩, S, dd, ⟨rc, rx, rh⟩, ⟨bc, bw, bs⟩, sd, i0, i1⟩) | some z => (1, ⟨⟨len, tx⟩, fa, ⟨N, P, G, wa, me⟩, z.1, [], ⟨rc, rx, rh⟩, ⟨bc, bw, bs⟩, z.2, i0, i1⟩)
def o_goBack (i : Int32) : Q → Int32 × Q
  | ⟨⟨len, tx⟩, fa, ⟨N, P, G, wa, me⟩, S, dd, ⟨rc, rx, rh⟩, ⟨bc, bw, bs⟩, sd, i0, i1⟩ => if i = 0 then gbA i0 ⟨⟨len, tx⟩, fa, ⟨N, P, G, wa, me⟩, S, dd, ⟨rc, rx, rh⟩, ⟨bc, bw, bs⟩, sd, i0, i1⟩ else if i = 1 then gbA i1 ⟨⟨len, tx⟩, fa, ⟨N, P, G, wa, me⟩, S, dd, ⟨rc, rx, rh⟩, ⟨bc, bw, bs⟩, sd, i0, i1⟩ else (-1000000001, ⟨⟨len, tx⟩, fa, ⟨N, P, G, wa, me⟩, S, dd, ⟨rc, rx, rh⟩, ⟨bc, bw, bs⟩, sd, i0, i1⟩)
theorem v_goBackA {x : Int32} {k a : Nat} {gI : Nat → Option Nat} {o : Im} (hx : x = nI k) (hk : k < 2) (ha : a = 122 + 4 * k) (hf : gI k = some a) (h121 : h.1 121 = .inl (.object "SpiteLine$Image", 2, .inr (.inr (.inr (.inr gI))))) (hI : cIm P a o h) (R : cRep ⟨⟨len, tx⟩, fa, ⟨N, P, G, wa, me⟩, S, dd, ⟨rc, rx, rh⟩, ⟨bc, bw, bs⟩, sd, i0, i1⟩ h) : am_R M_Sp_goBack (7, [.ref 1, .int x], []) h (fun r h' => r = some (.int (gbA o ⟨⟨len, tx⟩, fa, ⟨N, P, G, wa, me⟩, S, dd, ⟨rc, rx, rh⟩, ⟨bc, bw, bs⟩, sd, i0, i1⟩).1) ∧ cRep (gbA o ⟨⟨len, tx⟩, fa, ⟨N, P, G, wa, me⟩, S, dd, ⟨rc, rx, rh⟩, ⟨bc, bw, bs⟩, sd, i0, i1⟩).2 h' ∧ am_fr 1 130 h h') := by
  have hS : cSc P 14 S h := R.2.2.2.2.1
  obtain ⟨s, kk, q1, q2, q3⟩ := hI
  obtain ⟨x1, ⟨x2, x3, x4⟩, x5, ⟨x6, x7, waC, meC, x8, x9, x10, x11, x12⟩, ⟨wh, mi, fe, fl, x13, x14, x15, x16⟩, x17, ⟨tm, x18⟩, ⟨fi, ff, x19, x20, x21, x22, x23, x24, x25⟩, ⟨x26, ss, fd, x27, x28, x29, x30⟩, ⟨x31, x32, x33, x34⟩, x35, ⟨fi2, x36, x37, x38, x39, x40⟩⟩ := id R
  have y13 : h.1 14 = .inr (6, [.ref 15, .ref 16, .int fe, .int fl, .int _, .int _, .int _]) := x13
  have y14 : h.1 15 = iar wh := x14
  have y15 : h.1 16 = iar mi := x15
  unfold pTop at x1
  repeat (first | refine rs [] rfl rfl rfl rfl ?_ | refine rk rfl rfl ?_ | refine rgoh [] rfl rfl ?_ | refine rgeta (hi := rfl) (kk := ?_) | refine rialda (hi := rfl) (kk := ?_))
  refine raald rfl h121 (Or.inr rfl) k hk (by omega) hx hf ?_
  repeat (first | refine rs [] rfl rfl rfl rfl ?_ | refine rk rfl rfl ?_ | refine rgoh [] rfl rfl ?_ | refine rgeta (hi := rfl) (kk := ?_) | refine rialda (hi := rfl) (kk := ?_))
  cases o with
  | none =>
    have e : kk = 0 := q3
    subst e
    (first | refine rift rfl rfl ?_ | refine riff rfl rfl ?_ | refine rict rfl rfl ?_ | refine ricf rfl rfl ?_)
    repeat (first | refine rs [] rfl rfl rfl rfl ?_ | refine rk rfl rfl ?_ | refine rgoh [] rfl rfl ?_ | refine rgeta (hi := rfl) (kk := ?_) | refine rialda (hi := rfl) (kk := ?_))
    refine rret rfl rfl ?_
    exact ⟨rfl, R, fr_rf⟩
  | some z =>
    obtain ⟨e, e2, q4⟩ := q3
    subst e
    subst e2
    (first | refine rift rfl rfl ?_ | refine riff rfl rfl ?_ | refine rict rfl rfl ?_ | refine ricf rfl rfl ?_)
    repeat (first | refine rs [] rfl rfl rfl rfl ?_ | refine rk rfl rfl ?_ | refine rgoh [] rfl rfl ?_ | refine rgeta (hi := rfl) (kk := ?_) | refine rialda (hi := rfl) (kk := ?_))
    refine raald rfl h121 (Or.inr rfl) k hk (by omega) hx hf ?_
    repeat (first | refine rs [] rfl rfl rfl rfl ?_ | refine rk rfl rfl ?_ | refine rgoh [] rfl rfl ?_ | refine rgeta (hi := rfl) (kk := ?_) | refine rialda (hi := rfl) (kk := ?_))
    refine rcvt rfl rfl rfl rfl rfl y13 rfl (c_takeFrom hS.raw q4 x7 (by omega) (by omega) (by omega)) ?_
    rintro r h1 ⟨rfl, g1, g2⟩
    show am_R M_Sp_goBack (23, [.ref 1, .int x], []) _ _
    have R1 := cRep_now R g2 g1
    have e121 : h1.1 121 = .inl (.object "SpiteLine$Image", 2, .inr (.inr (.inr (.inr gI)))) := by rw [g2.2 _ (by omega)]; exact h121
    have eI : h1.1 a = .inr (3, [.ref (a + 1), .int z.2, .int 1]) := by rw [g2.2 _ (by omega)]; exact q1
    obtain ⟨x1, ⟨x2, x3, x4⟩, x5, ⟨x6, x7, waC, meC, x8, x9, x10, x11, x12⟩, ⟨wh, mi, fe, fl, x13, x14, x15, x16⟩, x17, ⟨tm, x18⟩, ⟨fi, ff, x19, x20, x21, x22, x23, x24, x25⟩, ⟨x26, ss, fd, x27, x28, x29, x30⟩, ⟨x31, x32, x33, x34⟩, x35, ⟨fi2, x36, x37, x38, x39, x40⟩⟩ := id R1
    have y13 : h1.1 14 = .inr (6, [.ref 15, .ref 16, .int fe, .int fl, .int _, .int _, .int _]) := x13
    have y14 : h1.1 15 = iar wh := x14
    have y15 : h1.1 16 = iar mi := x15
    unfold pTop at x1
    repeat (first | refine rs [] rfl rfl rfl rfl ?_ | refine rk rfl rfl ?_ | refine rgoh [] rfl rfl ?_ | refine rgeta (hi := rfl) (kk := ?_) | refine rialda (hi := rfl) (kk := ?_))
    refine raald rfl e121 (Or.inr rfl) k hk (by omega) hx hf ?_
    repeat (first | refine rs [] rfl rfl rfl rfl ?_ | refine rk rfl rfl ?_ | refine rgoh [] rfl rfl ?_ | refine rgeta (hi := rfl) (kk := ?_) | refine rialda (hi := rfl) (kk := ?_))
    refine rputa (hi := rfl) (kk := ?_)
    repeat (first | refine rs [] rfl rfl rfl rfl ?_ | refine rk rfl rfl ?_ | refine rgoh [] rfl rfl ?_ | refine rgeta (hi := rfl) (kk := ?_) | refine rialda (hi := rfl) (kk := ?_))
    refine rputa (hi := rfl) (kk := ?_)
    repeat (first | refine rs [] rfl rfl rfl rfl ?_ | refine rk rfl rfl ?_ | refine rgoh [] rfl rfl ?_ | refine rgeta (hi := rfl) (kk := ?_) | refine rialda (hi := rfl) (kk := ?_))
    refine rret rfl rfl ?_
    have R2 := cRep_seed (sd' := z.2) R1 (fr_set (lo := 120) (hi := 121) (c := .inr (2, [.int z.2])) fr_rf (by omega) (by omega)) am_set_eq
    refine ⟨rfl, cRep_d0 R2 (by rw [am_set_ne (by omega)]; exact x21), fr_set (fr_set (fr_wd g2 (by omega) (by omega)) (by omega) (by omega)) (by omega) (by omega)⟩
theorem v_goBack {x : Int32} (R : cRep ⟨⟨len, tx⟩, fa, ⟨N, P, G, wa, me⟩, S, dd, ⟨rc, rx, rh⟩, ⟨bc, bw, bs⟩, sd, i0, i1⟩ h) : am_O M_Sp_goBack [.ref 1, .int x] (o_goBack x ⟨⟨len, tx⟩, fa, ⟨N, P, G, wa, me⟩, S, dd, ⟨rc, rx, rh⟩, ⟨bc, bw, bs⟩, sd, i0, i1⟩) h := by
  obtain ⟨gI, z1, z2, z3, z4, z5⟩ := R.2.2.2.2.2.2.2.2.2.2.2
  unfold am_O o_goBack
  (try unfold am_E); unfold am_T
  dsimp only
  by_cases c0 : x = 0
  · rw [if_pos c0]
    subst c0
    repeat (first | refine rs [7] rfl rfl rfl rfl ?_ | refine rk rfl rfl ?_ | refine rgoh [7] rfl rfl ?_ | refine rgeta (hi := rfl) (kk := ?_) | refine rialda (hi := rfl) (kk := ?_))
    (first | refine rift rfl rfl ?_ | refine riff rfl rfl ?_ | refine rict rfl rfl ?_ | refine ricf rfl rfl ?_)
    repeat (first | refine rs [7] rfl rfl rfl rfl ?_ | refine rk rfl rfl ?_ | refine rgoh [7] rfl rfl ?_ | refine rgeta (hi := rfl) (kk := ?_) | refine rialda (hi := rfl) (kk := ?_))
    (first | refine rift rfl rfl ?_ | refine riff rfl rfl ?_ | refine rict rfl rfl ?_ | refine ricf rfl rfl ?_)
    exact v_goBackA (k := 0) (a := 122) (by decide) (by omega) rfl z2 z1 z4 R
  · rw [if_neg c0]
    by_cases c1 : x = 1
    · rw [if_pos c1]
      subst c1
      repeat (first | refine rs [7] rfl rfl rfl rfl ?_ | refine rk rfl rfl ?_ | refine rgoh [7] rfl rfl ?_ | refine rgeta (hi := rfl) (kk := ?_) | refine rialda (hi := rfl) (kk := ?_))
      (first | refine rift rfl rfl ?_ | refine riff rfl rfl ?_ | refine rict rfl rfl ?_ | refine ricf rfl rfl ?_)
      repeat (first | refine rs [7] rfl rfl rfl rfl ?_ | refine rk rfl rfl ?_ | refine rgoh [7] rfl rfl ?_ | refine rgeta (hi := rfl) (kk := ?_) | refine rialda (hi := rfl) (kk := ?_))
      (first | refine rift rfl rfl ?_ | refine riff rfl rfl ?_ | refine rict rfl rfl ?_ | refine ricf rfl rfl ?_)
      exact v_goBackA (k := 1) (a := 126) (by decide) (by omega) rfl z3 z1 z5 R
    · rw [if_neg c1]
      repeat (first | refine rs [7] rfl rfl rfl rfl ?_ | refine rk rfl rfl ?_ | refine rgoh [7] rfl rfl ?_ | refine rgeta (hi := rfl) (kk := ?_) | refine rialda (hi := rfl) (kk := ?_))
      (first | refine rif rfl rfl (fun d1 => ?_) (fun d1 => ?_) | refine ric rfl rfl (fun d1 => ?_) (fun d1 => ?_))
      · repeat (first | refine rs [7] rfl rfl rfl rfl ?_ | refine rk rfl rfl ?_ | refine rgoh [7] rfl rfl ?_ | refine rgeta (hi := rfl) (kk := ?_) | refine rialda (hi := rfl) (kk := ?_))
        refine rret rfl rfl ?_
        exact ⟨rfl, R, fr_rf⟩
      · repeat (first | refine rs [7] rfl rfl rfl rfl ?_ | refine rk rfl rfl ?_ | refine rgoh [7] rfl rfl ?_ | refine rgeta (hi := rfl) (kk := ?_) | refine rialda (hi := rfl) (kk := ?_))
        (first | refine rif rfl rfl (fun d2 => ?_) (fun d2 => ?_) | refine ric rfl rfl (fun d2 => ?_) (fun d2 => ?_))
        · exfalso
          obtain ⟨k, hk, rfl⟩ := inR_of (n := 2) ⟨d1, by rw [show nI 2 = (2 : Int32) by decide]; exact d2⟩ (by omega)
          match k, hk with
          | 0, _ => exact c0 (by decide)
          | 1, _ => exact c1 (by decide)
        · repeat (first | refine rs [7] rfl rfl rfl rfl ?_ | refine rk rfl rfl ?_ | refine rgoh [7] rfl rfl ?_ | refine rgeta (hi := rfl) (kk := ?_) | refine rialda (hi := rfl) (kk := ?_))
          refine rret rfl rfl ?_
          exact ⟨rfl, R, fr_rf⟩
end CKeep
end
section
/-! the class's call line -/
section TlLen
variable {len : Nat} {tx : Nat → Int32} {N : Int32}
theorem tlS_len : ∀ (f i : Nat) (ps : List Pn) {ps' : List Pn}, ps.length ≤ 8 → tlS len tx N f i ps = .inr ps' → ps'.length ≤ 8
  | 0, i, ps, ps', hp, e => by
    cases e
    exact hp
  | f + 1, i, ps, ps', hp, e => by
    unfold tlS at e
    split at e
    · split at e
      · cases e
      · rename_i c
        split at e
        · rename_i d
          split at e
          · cases e
          · refine tlS_len f _ _ ?_ e
            rw [List.length_append]
            rcases Nat.lt_or_ge ps.length 8 with g | g
            · simp only [List.length_cons, List.length_nil]; omega
            · exact absurd (Or.inr ⟨d, by omega⟩) c
        · cases e
    · cases e
      exact hp
theorem prS_wf {q : Int32 × Int32 × Int32 × List Pn} (e : prS len tx = .inr q) : (∃ n, q.1 = nI n ∧ n ≤ 8 ∧ (n = 0 → q.2.2.2 = []) ∧ (n = 0 ∨ 2 ≤ n)) ∧ q.2.2.2.length ≤ 8 := by
  unfold prS at e
  split at e
  · rename_i c
    split at e
    · split at e
      · cases e
      · rename_i q1 e1
        obtain ⟨b1, b2, b3, b4⟩ := stS_pos (by omega) e1
        split at e
        · cases e
        · rename_i ps e2
          cases e
          refine ⟨?_, tlS_len _ _ _ (by simp) e2⟩
          have h0 : ¬ q1.2.1 < 0 := fun a => b3 (Int32.lt_of_lt_of_le a (by decide))
          obtain ⟨m, hm, em⟩ := nI_of h0
          rw [em, show (2 : Int32) = nI 2 by decide, nI_ltI hm (by omega)] at b3
          rw [em, show (8 : Int32) = nI 8 by decide, nI_ltI (by omega) hm] at b4
          exact ⟨m, em, by omega, fun w => by omega, by omega⟩
    · cases e
  · cases e
    exact ⟨⟨0, by decide, by omega, fun _ => rfl, by omega⟩, by simp⟩
end TlLen
section CLineC
variable {h h' : am_H} {len N P rc bc : Nat} {fa G sd : Int32} {tx wa me rx rh bw bs : Nat → Int32} {S S' : Sc} {dd dd' : List Sc} {i0 i1 i0' i1' : Im}
theorem c_LtakeFrom {N0 G0 P0 N1 G1 P1 : Int32} {wb mb wc mc : Nat → Int32} (h11 : h.1 11 = .inr (4, [.int N0, .int G0, .int P0, .ref 12, .ref 13])) (h12 : h.1 12 = iar wb) (h13 : h.1 13 = iar mb) (h5 : h.1 5 = .inr (4, [.int N1, .int G1, .int P1, .ref 6, .ref 7])) (h6 : h.1 6 = iar wc) (h7 : h.1 7 = iar mc) : am_T M_Line_takeFrom [.ref 11, .ref 5] h (fun r h' => r = none ∧ am_fr 11 14 h h' ∧ h'.1 11 = .inr (4, [.int N1, .int G1, .int P1, .ref 12, .ref 13]) ∧ ∃ w' m', h'.1 12 = iar w' ∧ h'.1 13 = iar m' ∧ eqP 8 w' wc ∧ eqP 8 m' mc) := by
  (try unfold am_E); unfold am_T
  repeat (first | refine rs [] rfl rfl rfl rfl ?_ | refine rk rfl rfl ?_ | refine rgoh [] rfl rfl ?_ | refine rgeta (hi := rfl) (kk := ?_) | refine rialda (hi := rfl) (kk := ?_))
  refine rputa (hi := rfl) (kk := ?_)
  repeat (first | refine rs [] rfl rfl rfl rfl ?_ | refine rk rfl rfl ?_ | refine rgoh [] rfl rfl ?_ | refine rgeta (hi := rfl) (kk := ?_) | refine rialda (hi := rfl) (kk := ?_))
  refine rcpy (a := 12) (a0 := 6) (n := 8) (f := wc) (g := wb) (na := 8) (nb := 8) rfl (by simp (disch := omega) only [am_set_ne]; exact h6) (by simp (disch := omega) only [am_set_ne]; exact h12) (by omega) (by omega) i8 (by omega) (by omega) (by omega) (by decide) ?_
  repeat (first | refine rs [] rfl rfl rfl rfl ?_ | refine rk rfl rfl ?_ | refine rgoh [] rfl rfl ?_ | refine rgeta (hi := rfl) (kk := ?_) | refine rialda (hi := rfl) (kk := ?_))
  refine rcpy (a := 13) (a0 := 7) (n := 8) (f := mc) (g := mb) (na := 8) (nb := 8) rfl (by simp (disch := omega) only [am_set_ne]; exact h7) (by simp (disch := omega) only [am_set_ne]; exact h13) (by omega) (by omega) i8 (by omega) (by omega) (by omega) (by decide) ?_
  repeat (first | refine rs [] rfl rfl rfl rfl ?_ | refine rk rfl rfl ?_ | refine rgoh [] rfl rfl ?_ | refine rgeta (hi := rfl) (kk := ?_) | refine rialda (hi := rfl) (kk := ?_))
  refine rret rfl rfl ?_
  refine ⟨rfl, ?_, ?_, va_cpy wc wb 0 0 8, va_cpy mc mb 0 0 8, ?_, ?_, fun p hp => cpy8 hp, fun p hp => cpy8 hp⟩
  · exact fr_set (fr_set (fr_set (fr_set (fr_set fr_rf (by omega) (by omega)) (by omega) (by omega)) (by omega) (by omega)) (by omega) (by omega)) (by omega) (by omega)
  · simp (disch := omega) only [am_set_ne, am_set_eq]
    rfl
  · simp (disch := omega) only [am_set_ne, am_set_eq]
  · simp (disch := omega) only [am_set_ne, am_set_eq]
theorem cRep_head {fa' : Int32} {len' : Nat} {tx' : Nat → Int32} (R : cRep ⟨⟨len, tx⟩, fa, ⟨N, P, G, wa, me⟩, S, dd, ⟨rc, rx, rh⟩, ⟨bc, bw, bs⟩, sd, i0, i1⟩ h) (f : am_fr 1 11 h h') (t : pTop fa' h') (T : cTx len' tx' h') (J : pRj h') : cRep ⟨⟨len', tx'⟩, fa', ⟨N, P, G, wa, me⟩, S, dd, ⟨rc, rx, rh⟩, ⟨bc, bw, bs⟩, sd, i0, i1⟩ h' := by
  obtain ⟨x1, x2, x3, x4, x5, x6, ⟨tm, x7⟩, x8, x9, x10, x11, x12⟩ := R
  exact ⟨t, T, J, x4.fr f (by omega), x5.fr f (by omega), x6.fr f (by omega), ⟨tm, by rw [f.2 _ (by omega)]; exact x7⟩, x8.fr f (by omega), x9.fr f (by omega), x10.fr f (by omega), by rw [f.2 _ (by omega)]; exact x11, x12.fr f (by omega)⟩
def pnD : Pn := (0, 0, 0, 0, 0)
def scP (F : Int32) (ps : List Pn) : Sc := (fun p => (ps.getD p pnD).1, fun p => (ps.getD p pnD).2.2.2.1, fun p => bitv (ps.getD p pnD).2.2.2.2 0, fun p => bitv (ps.getD p pnD).2.2.2.2 1, F, 0, 0)
def o_line : Q → Int32 × Q
  | ⟨⟨len, tx⟩, fa, ⟨N, P, G, wa, me⟩, S, dd, ⟨rc, rx, rh⟩, ⟨bc, bw, bs⟩, sd, i0, i1⟩ => match prS len tx with
    | .inl e => (-10 - nI e.1, ⟨⟨0, tx⟩, nI e.2, ⟨N, P, G, wa, me⟩, S, dd, ⟨rc, rx, rh⟩, ⟨bc, bw, bs⟩, sd, i0, i1⟩)
    | .inr q => (nI q.2.2.2.length, ⟨⟨0, tx⟩, -1, ⟨q.1.toNatClampNeg, q.2.2.2.length, q.2.1, fun p => (q.2.2.2.getD p pnD).2.1, fun p => (q.2.2.2.getD p pnD).2.2.1⟩, scP q.2.2.1 q.2.2.2, [], ⟨0, rx, rh⟩, ⟨0, bw, bs⟩, sd, none, none⟩)
theorem v_lineF {k j : Nat} {i nu : Int32} {h1 : am_H} (R : cRep ⟨⟨len, tx⟩, fa, ⟨N, P, G, wa, me⟩, S, dd, ⟨rc, rx, rh⟩, ⟨bc, bw, bs⟩, sd, i0, i1⟩ h) (f : am_fr 4 11 h h1) (hk : 0 < k ∧ k < 100) (h4 : h1.1 4 = rdc (nI k) (nI j) i nu) (hw : pRw h1) : am_R M_Sp_line (5, [.ref 1, .null], []) h1 (fun r h' => r = some (.int (-10 - nI k)) ∧ cRep ⟨⟨0, tx⟩, nI j, ⟨N, P, G, wa, me⟩, S, dd, ⟨rc, rx, rh⟩, ⟨bc, bw, bs⟩, sd, i0, i1⟩ h' ∧ am_fr 1 130 h h') := by
  have hT : cTx len tx h := R.2.1
  obtain ⟨t1, t2, t3⟩ := hT.fr f (by omega)
  have x1 : h1.1 1 = .inr (9, [.ref 2, .ref 4, .ref 11, .ref 14, .ref 17, .ref 20, .ref 21, .ref 113, .ref 117, .ref 120, .ref 121, .int fa]) := by rw [f.2 _ (by omega)]; exact R.1
  have z4 := h4
  rw [rdc_eq] at z4
  have hk0 : ¬ nI k = 0 := nI_ne0 hk.1 (by omega)
  repeat (first | refine rs [] rfl rfl rfl rfl ?_ | refine rk rfl rfl ?_ | refine rgoh [] rfl rfl ?_ | refine rgeta (hi := rfl) (kk := ?_) | refine rialda (hi := rfl) (kk := ?_))
  refine rputa (hi := rfl) (kk := ?_)
  repeat (first | refine rs [] rfl rfl rfl rfl ?_ | refine rk rfl rfl ?_ | refine rgoh [] rfl rfl ?_ | refine rgeta (hi := rfl) (kk := ?_) | refine rialda (hi := rfl) (kk := ?_))
  (first | refine rif rfl rfl (fun c1 => ?_) (fun c1 => ?_) | refine ric rfl rfl (fun c1 => ?_) (fun c1 => ?_))
  · exact absurd c1 hk0
  · repeat (first | refine rs [] rfl rfl rfl rfl ?_ | refine rk rfl rfl ?_ | refine rgoh [] rfl rfl ?_ | refine rgeta (hi := rfl) (kk := ?_) | refine rialda (hi := rfl) (kk := ?_))
    refine rputa (hi := rfl) (kk := ?_)
    repeat (first | refine rs [] rfl rfl rfl rfl ?_ | refine rk rfl rfl ?_ | refine rgoh [] rfl rfl ?_ | refine rgeta (hi := rfl) (kk := ?_) | refine rialda (hi := rfl) (kk := ?_))
    refine rret rfl rfl ?_
    have fA : am_fr 1 11 h (am_set (am_set h1 2 (.inr (7, [.ref 3, .int (nI 0)]))) 1 (.inr (9, [.ref 2, .ref 4, .ref 11, .ref 14, .ref 17, .ref 20, .ref 21, .ref 113, .ref 117, .ref 120, .ref 121, .int (nI j)]))) := fr_set (fr_set (fr_wd f (by omega) (by omega)) (by omega) (by omega)) (by omega) (by omega)
    have fB : am_fr 1 3 h1 (am_set (am_set h1 2 (.inr (7, [.ref 3, .int (nI 0)]))) 1 (.inr (9, [.ref 2, .ref 4, .ref 11, .ref 14, .ref 17, .ref 20, .ref 21, .ref 113, .ref 117, .ref 120, .ref 121, .int (nI j)]))) := fr_set (fr_set fr_rf (by omega) (by omega)) (by omega) (by omega)
    have J : pRj h1 := ⟨⟨_, _, _, _, h4⟩, hw⟩
    refine ⟨rfl, cRep_head R fA am_set_eq ⟨by omega, ?_, ?_⟩ (J.fr fB (by omega)), fr_wd fA (by omega) (by omega)⟩
    · rw [am_set_ne (by omega)]; exact am_set_eq
    · rw [am_set_ne (by omega), am_set_ne (by omega)]; exact t3
end CLineC
end
section
/-! the class's call line, told well -/
theorem pRd.fr {lo hi : Nat} {N G F : Int32} {ps : List Pn} {h h' : am_H} (f : am_fr lo hi h h') (hd : 11 ≤ lo ∨ hi ≤ 5) (q : pRd N G F ps h) : pRd N G F ps h' := by
  obtain ⟨wa, me, wh, mi, fe, fl, q1, q2, q3, q4, q5, q6, q7⟩ := q
  exact ⟨wa, me, wh, mi, fe, fl, by rw [f.2 _ (by omega)]; exact q1, by rw [f.2 _ (by omega)]; exact q2, by rw [f.2 _ (by omega)]; exact q3, by rw [f.2 _ (by omega)]; exact q4, by rw [f.2 _ (by omega)]; exact q5, by rw [f.2 _ (by omega)]; exact q6, q7⟩
theorem getD_at {ps : List Pn} {p : Nat} (hp : p < ps.length) : ps[p]? = some (ps.getD p pnD) := by
  rw [List.getD_eq_getElem?_getD, List.getElem?_eq_getElem hp]
  rfl
section CTold
variable {h h' : am_H} {len N P rc bc : Nat} {fa G sd : Int32} {tx wa me rx rh bw bs : Nat → Int32} {S S' : Sc} {dd dd' : List Sc} {i0 i1 i0' i1' : Im}
set_option maxHeartbeats 2000000 in
theorem v_lineG {n : Nat} {G1 F1 : Int32} {ps : List Pn} (R : cRep ⟨⟨0, tx⟩, -1, ⟨N, P, G, wa, me⟩, S, dd, ⟨rc, rx, rh⟩, ⟨bc, bw, bs⟩, sd, i0, i1⟩ h) (hn : n ≤ 8) (hps : ps.length ≤ 8) (hp : pRd (nI n) G1 F1 ps h) (h4 : ∃ z, h.1 4 = .inr (5, .ref 5 :: .ref 8 :: z)) : am_R M_Sp_line (27, [.ref 1, .null], []) h (fun r h' => r = some (.int (nI ps.length)) ∧ cRep ⟨⟨0, tx⟩, -1, ⟨n, ps.length, G1, fun p => (ps.getD p pnD).2.1, fun p => (ps.getD p pnD).2.2.1⟩, scP F1 ps, [], ⟨0, rx, rh⟩, ⟨0, bw, bs⟩, sd, none, none⟩ h' ∧ am_fr 11 130 h h') := by
  have hS : cSc P 14 S h := R.2.2.2.2.1
  have hD : cDd P dd h := R.2.2.2.2.2.2.2.1
  obtain ⟨z, h4⟩ := h4
  obtain ⟨x1, ⟨x2, x3, x4⟩, x5, ⟨x6, x7, waC, meC, x8, x9, x10, x11, x12⟩, ⟨wh, mi, fe, fl, x13, x14, x15, x16⟩, x17, ⟨tm, x18⟩, ⟨fi, ff, x19, x20, x21, x22, x23, x24, x25⟩, ⟨x26, ss, fd, x27, x28, x29, x30⟩, ⟨x31, x32, x33, x34⟩, x35, ⟨fi2, x36, x37, x38, x39, x40⟩⟩ := id R
  have y13 : h.1 14 = .inr (6, [.ref 15, .ref 16, .int fe, .int fl, .int _, .int _, .int _]) := x13
  have y14 : h.1 15 = iar wh := x14
  have y15 : h.1 16 = iar mi := x15
  unfold pTop at x1
  obtain ⟨wb, mb, whb, mib, feb, flb, p1, p2, p3, p4, p5, p6, p7⟩ := id hp
  repeat (first | refine rs [] rfl rfl rfl rfl ?_ | refine rk rfl rfl ?_ | refine rgoh [] rfl rfl ?_ | refine rgeta (hi := rfl) (kk := ?_) | refine rialda (hi := rfl) (kk := ?_))
  refine rcvt rfl rfl rfl rfl rfl x8 rfl (c_LtakeFrom x8 x9 x10 p1 p2 p3) ?_
  rintro r h3 ⟨rfl, f3, l1, w', m', l2, l3, l4, l5⟩
  show am_R M_Sp_line (33, [.ref 1, .null], []) _ _
  have e1 : h3.1 1 = .inr (9, [.ref 2, .ref 4, .ref 11, .ref 14, .ref 17, .ref 20, .ref 21, .ref 113, .ref 117, .ref 120, .ref 121, .int (-1)]) := by rw [f3.2 _ (by omega)]; exact x1
  have e4 : h3.1 4 = .inr (5, .ref 5 :: .ref 8 :: z) := by rw [f3.2 _ (by omega)]; exact h4
  have e14 := (f3.2 14 (by omega)).trans y13
  have hb : cSc ps.length 8 (scP F1 ps) h3 := by
    refine ⟨whb, mib, feb, flb, by rw [f3.2 _ (by omega)]; exact p4, by rw [f3.2 _ (by omega)]; exact p5, by rw [f3.2 _ (by omega)]; exact p6, fun p hp => ?_⟩
    obtain ⟨a1, a2, a3, a4, a5, a6⟩ := p7 p _ (getD_at hp)
    exact ⟨a1, a4, a5, a6⟩
  repeat (first | refine rs [] rfl rfl rfl rfl ?_ | refine rk rfl rfl ?_ | refine rgoh [] rfl rfl ?_ | refine rgeta (hi := rfl) (kk := ?_) | refine rialda (hi := rfl) (kk := ?_))
  refine rcvt rfl rfl rfl rfl rfl e14 rfl (c_takeFrom (hS.raw.fr f3 (by omega)) hb hps (by omega) (by omega) (by omega)) ?_
  rintro r h4' ⟨rfl, S4, f4⟩
  show am_R M_Sp_line (39, [.ref 1, .null], []) _ _
  have f34 : am_fr 11 17 h h4' := fr_tr (fr_wd f3 (by omega) (by omega)) f4 (by omega) (by omega)
  have k1 : h4'.1 1 = .inr (9, [.ref 2, .ref 4, .ref 11, .ref 14, .ref 17, .ref 20, .ref 21, .ref 113, .ref 117, .ref 120, .ref 121, .int (-1)]) := by rw [f34.2 _ (by omega)]; exact x1
  have k11 : h4'.1 11 = .inr (4, [.int (nI n), .int G1, .int (nI ps.length), .ref 12, .ref 13]) := by rw [f4.2 _ (by omega)]; exact l1
  have k21 : h4'.1 21 = .inr (1, [.ref 22, .int (nI fi), .int (nI dd.length)]) := by rw [f34.2 _ (by omega)]; exact x21
  have k113 : h4'.1 113 = .inr (8, [.ref 114, .ref 115, .int (nI rc), .ref 116, .int fd]) := by rw [f34.2 _ (by omega)]; exact x27
  have k117 : h4'.1 117 = .inr (0, [.ref 118, .ref 119, .int (nI bc)]) := by rw [f34.2 _ (by omega)]; exact x32
  have k121 : h4'.1 121 = .inl (.object "SpiteLine$Image", 2, .inr (.inr (.inr (.inr fi2)))) := by rw [f34.2 _ (by omega)]; exact x36
  obtain ⟨s0, kk0, m1, m2, -⟩ := id x39
  obtain ⟨s1, kk1, m3, m4, -⟩ := id x40
  have k122 : h4'.1 122 = .inr (3, [.ref 123, .int s0, .int kk0]) := by rw [f34.2 _ (by omega)]; exact m1
  have k126 : h4'.1 126 = .inr (3, [.ref 127, .int s1, .int kk1]) := by rw [f34.2 _ (by omega)]; exact m3
  repeat (first | refine rs [] rfl rfl rfl rfl ?_ | refine rk rfl rfl ?_ | refine rgoh [] rfl rfl ?_ | refine rgeta (hi := rfl) (kk := ?_) | refine rialda (hi := rfl) (kk := ?_))
  refine rputa (hi := rfl) (kk := ?_)
  repeat (first | refine rs [] rfl rfl rfl rfl ?_ | refine rk rfl rfl ?_ | refine rgoh [] rfl rfl ?_ | refine rgeta (hi := rfl) (kk := ?_) | refine rialda (hi := rfl) (kk := ?_))
  refine rputa (hi := rfl) (kk := ?_)
  repeat (first | refine rs [] rfl rfl rfl rfl ?_ | refine rk rfl rfl ?_ | refine rgoh [] rfl rfl ?_ | refine rgeta (hi := rfl) (kk := ?_) | refine rialda (hi := rfl) (kk := ?_))
  refine rputa (hi := rfl) (kk := ?_)
  repeat (first | refine rs [] rfl rfl rfl rfl ?_ | refine rk rfl rfl ?_ | refine rgoh [] rfl rfl ?_ | refine rgeta (hi := rfl) (kk := ?_) | refine rialda (hi := rfl) (kk := ?_))
  (first | refine rift rfl rfl ?_ | refine riff rfl rfl ?_ | refine rict rfl rfl ?_ | refine ricf rfl rfl ?_)
  repeat (first | refine rs [] rfl rfl rfl rfl ?_ | refine rk rfl rfl ?_ | refine rgoh [] rfl rfl ?_ | refine rgeta (hi := rfl) (kk := ?_) | refine rialda (hi := rfl) (kk := ?_))
  refine raald rfl (by simp (disch := omega) only [am_set_ne]; exact k121) (Or.inr rfl) 0 (by omega) (by omega) (by decide) x37 ?_
  repeat (first | refine rs [] rfl rfl rfl rfl ?_ | refine rk rfl rfl ?_ | refine rgoh [] rfl rfl ?_ | refine rgeta (hi := rfl) (kk := ?_) | refine rialda (hi := rfl) (kk := ?_))
  refine rputa (hi := rfl) (kk := ?_)
  repeat (first | refine rs [] rfl rfl rfl rfl ?_ | refine rk rfl rfl ?_ | refine rgoh [] rfl rfl ?_ | refine rgeta (hi := rfl) (kk := ?_) | refine rialda (hi := rfl) (kk := ?_))
  (first | refine rift rfl rfl ?_ | refine riff rfl rfl ?_ | refine rict rfl rfl ?_ | refine ricf rfl rfl ?_)
  repeat (first | refine rs [] rfl rfl rfl rfl ?_ | refine rk rfl rfl ?_ | refine rgoh [] rfl rfl ?_ | refine rgeta (hi := rfl) (kk := ?_) | refine rialda (hi := rfl) (kk := ?_))
  refine raald rfl (by simp (disch := omega) only [am_set_ne]; exact k121) (Or.inr rfl) 1 (by omega) (by omega) (by decide) x38 ?_
  repeat (first | refine rs [] rfl rfl rfl rfl ?_ | refine rk rfl rfl ?_ | refine rgoh [] rfl rfl ?_ | refine rgeta (hi := rfl) (kk := ?_) | refine rialda (hi := rfl) (kk := ?_))
  refine rputa (hi := rfl) (kk := ?_)
  repeat (first | refine rs [] rfl rfl rfl rfl ?_ | refine rk rfl rfl ?_ | refine rgoh [] rfl rfl ?_ | refine rgeta (hi := rfl) (kk := ?_) | refine rialda (hi := rfl) (kk := ?_))
  (first | refine rift rfl rfl ?_ | refine riff rfl rfl ?_ | refine rict rfl rfl ?_ | refine ricf rfl rfl ?_)
  repeat (first | refine rs [] rfl rfl rfl rfl ?_ | refine rk rfl rfl ?_ | refine rgoh [] rfl rfl ?_ | refine rgeta (hi := rfl) (kk := ?_) | refine rialda (hi := rfl) (kk := ?_))
  refine rret rfl rfl ?_
  have D1 : cDd ps.length [] (am_set h4' 21 (.inr (1, [.ref 22, .int (nI fi), .int 0]))) := cDd_nil (hD.fr f34 (by omega)) k21
  have gD : am_fr 113 130 (am_set h4' 21 (.inr (1, [.ref 22, .int (nI fi), .int 0]))) (am_set (am_set (am_set (am_set (am_set h4' 21 (.inr (1, [.ref 22, .int (nI fi), .int 0]))) 113 (.inr (8, [.ref 114, .ref 115, .int (nI 0), .ref 116, .int fd]))) 117 (.inr (0, [.ref 118, .ref 119, .int (nI 0)]))) 122 (.inr (3, [.ref 123, .int s0, .int 0]))) 126 (.inr (3, [.ref 127, .int s1, .int 0]))) := fr_set (fr_set (fr_set (fr_set fr_rf (by omega) (by omega)) (by omega) (by omega)) (by omega) (by omega)) (by omega) (by omega)
  have g4 : am_fr 21 130 h4' (am_set (am_set (am_set (am_set (am_set h4' 21 (.inr (1, [.ref 22, .int (nI fi), .int 0]))) 113 (.inr (8, [.ref 114, .ref 115, .int (nI 0), .ref 116, .int fd]))) 117 (.inr (0, [.ref 118, .ref 119, .int (nI 0)]))) 122 (.inr (3, [.ref 123, .int s0, .int 0]))) 126 (.inr (3, [.ref 127, .int s1, .int 0]))) := fr_set (fr_set (fr_set (fr_set (fr_set fr_rf (by omega) (by omega)) (by omega) (by omega)) (by omega) (by omega)) (by omega) (by omega)) (by omega) (by omega)
  have v113 : (am_set (am_set (am_set (am_set (am_set h4' 21 (.inr (1, [.ref 22, .int (nI fi), .int 0]))) 113 (.inr (8, [.ref 114, .ref 115, .int (nI 0), .ref 116, .int fd]))) 117 (.inr (0, [.ref 118, .ref 119, .int (nI 0)]))) 122 (.inr (3, [.ref 123, .int s0, .int 0]))) 126 (.inr (3, [.ref 127, .int s1, .int 0]))).1 113 = .inr (8, [.ref 114, .ref 115, .int (nI 0), .ref 116, .int fd]) := by simp (disch := omega) only [am_set_ne, am_set_eq]
  have v117 : (am_set (am_set (am_set (am_set (am_set h4' 21 (.inr (1, [.ref 22, .int (nI fi), .int 0]))) 113 (.inr (8, [.ref 114, .ref 115, .int (nI 0), .ref 116, .int fd]))) 117 (.inr (0, [.ref 118, .ref 119, .int (nI 0)]))) 122 (.inr (3, [.ref 123, .int s0, .int 0]))) 126 (.inr (3, [.ref 127, .int s1, .int 0]))).1 117 = .inr (0, [.ref 118, .ref 119, .int (nI 0)]) := by simp (disch := omega) only [am_set_ne, am_set_eq]
  have v122 : (am_set (am_set (am_set (am_set (am_set h4' 21 (.inr (1, [.ref 22, .int (nI fi), .int 0]))) 113 (.inr (8, [.ref 114, .ref 115, .int (nI 0), .ref 116, .int fd]))) 117 (.inr (0, [.ref 118, .ref 119, .int (nI 0)]))) 122 (.inr (3, [.ref 123, .int s0, .int 0]))) 126 (.inr (3, [.ref 127, .int s1, .int 0]))).1 122 = .inr (3, [.ref 123, .int s0, .int 0]) := by simp (disch := omega) only [am_set_ne, am_set_eq]
  have v126 : (am_set (am_set (am_set (am_set (am_set h4' 21 (.inr (1, [.ref 22, .int (nI fi), .int 0]))) 113 (.inr (8, [.ref 114, .ref 115, .int (nI 0), .ref 116, .int fd]))) 117 (.inr (0, [.ref 118, .ref 119, .int (nI 0)]))) 122 (.inr (3, [.ref 123, .int s0, .int 0]))) 126 (.inr (3, [.ref 127, .int s1, .int 0]))).1 126 = .inr (3, [.ref 127, .int s1, .int 0]) := am_set_eq
  have gO : ∀ k, k = 114 ∨ k = 115 ∨ k = 116 ∨ k = 118 ∨ k = 119 ∨ k = 120 ∨ k = 121 ∨ k = 123 ∨ k = 124 ∨ k = 125 ∨ k = 127 ∨ k = 128 ∨ k = 129 → (am_set (am_set (am_set (am_set (am_set h4' 21 (.inr (1, [.ref 22, .int (nI fi), .int 0]))) 113 (.inr (8, [.ref 114, .ref 115, .int (nI 0), .ref 116, .int fd]))) 117 (.inr (0, [.ref 118, .ref 119, .int (nI 0)]))) 122 (.inr (3, [.ref 123, .int s0, .int 0]))) 126 (.inr (3, [.ref 127, .int s1, .int 0]))).1 k = h.1 k := by
    intro k hk
    rw [am_set_ne (by omega), am_set_ne (by omega), am_set_ne (by omega), am_set_ne (by omega), am_set_ne (by omega)]
    exact f34.2 k (by omega)
  obtain ⟨H, eH⟩ : ∃ H, H = (am_set (am_set (am_set (am_set (am_set h4' 21 (.inr (1, [.ref 22, .int (nI fi), .int 0]))) 113 (.inr (8, [.ref 114, .ref 115, .int (nI 0), .ref 116, .int fd]))) 117 (.inr (0, [.ref 118, .ref 119, .int (nI 0)]))) 122 (.inr (3, [.ref 123, .int s0, .int 0]))) 126 (.inr (3, [.ref 127, .int s1, .int 0]))) := ⟨_, rfl⟩
  rw [← eH] at gD g4 v113 v117 v122 v126 gO
  have g34 : am_fr 11 130 h H := fr_tr (fr_wd f34 (by omega) (by omega)) g4 (by omega) (by omega)
  have r0 : cRaw 123 H := by
    obtain ⟨u1, u2, u3, u4, u5, u6, u7, a1, a2, a3⟩ := m2
    exact ⟨u1, u2, u3, u4, u5, u6, u7, by rw [gO _ (by omega)]; exact a1, by rw [gO _ (by omega)]; exact a2, by rw [gO _ (by omega)]; exact a3⟩
  have r1 : cRaw 127 H := by
    obtain ⟨u1, u2, u3, u4, u5, u6, u7, a1, a2, a3⟩ := m4
    exact ⟨u1, u2, u3, u4, u5, u6, u7, by rw [gO _ (by omega)]; exact a1, by rw [gO _ (by omega)]; exact a2, by rw [gO _ (by omega)]; exact a3⟩
  have fin : cRep ⟨⟨0, tx⟩, -1, ⟨n, ps.length, G1, fun p => (ps.getD p pnD).2.1, fun p => (ps.getD p pnD).2.2.1⟩, scP F1 ps, [], ⟨0, rx, rh⟩, ⟨0, bw, bs⟩, sd, none, none⟩ H := by
    refine ⟨by unfold pTop; rw [g34.2 _ (by omega)]; exact x1, R.2.1.fr g34 (by omega), R.2.2.1.fr g34 (by omega), ⟨hn, hps, w', m', by rw [g4.2 _ (by omega)]; exact k11, by rw [g4.2 _ (by omega), f4.2 _ (by omega)]; exact l2, by rw [g4.2 _ (by omega), f4.2 _ (by omega)]; exact l3, fun p hp => (l4 p (by omega)).trans (p7 p _ (getD_at hp)).2.1, fun p hp => (l5 p (by omega)).trans (p7 p _ (getD_at hp)).2.2.1⟩, S4.fr g4 (by omega), (x17.fr f34 (by omega)).fr g4 (by omega), ⟨tm, by rw [g4.2 _ (by omega), f34.2 _ (by omega)]; exact x18⟩, D1.fr gD (by omega), ⟨by omega, ss, fd, v113, by rw [gO _ (by omega)]; exact x28, by rw [gO _ (by omega)]; exact x29, by rw [gO _ (by omega)]; exact x30⟩, ⟨by omega, v117, by rw [gO _ (by omega)]; exact x33, by rw [gO _ (by omega)]; exact x34⟩, by rw [gO _ (by omega)]; exact x35, ⟨fi2, by rw [gO _ (by omega)]; exact x36, x37, x38, ⟨s0, 0, v122, r0, rfl⟩, ⟨s1, 0, v126, r1, rfl⟩⟩⟩
  subst eH
  exact ⟨rfl, fin, g34⟩
theorem v_line (R : cRep ⟨⟨len, tx⟩, fa, ⟨N, P, G, wa, me⟩, S, dd, ⟨rc, rx, rh⟩, ⟨bc, bw, bs⟩, sd, i0, i1⟩ h) : am_O M_Sp_line [.ref 1] (o_line ⟨⟨len, tx⟩, fa, ⟨N, P, G, wa, me⟩, S, dd, ⟨rc, rx, rh⟩, ⟨bc, bw, bs⟩, sd, i0, i1⟩) h := by
  have hT : cTx len tx h := R.2.1
  obtain ⟨⟨k0, j0, i0', nu0, h4⟩, hw⟩ : pRj h := R.2.2.1
  have x1 := R.1
  unfold pTop at x1
  have z4 := h4
  rw [rdc_eq] at z4
  unfold am_O o_line
  (try unfold am_E); unfold am_T
  dsimp only
  repeat (first | refine rs [] rfl rfl rfl rfl ?_ | refine rk rfl rfl ?_ | refine rgoh [] rfl rfl ?_ | refine rgeta (hi := rfl) (kk := ?_) | refine rialda (hi := rfl) (kk := ?_))
  refine rcvt rfl rfl rfl rfl rfl z4 rfl (c_read hT h4 hw) ?_
  rintro r h1 ⟨rfl, f1, q⟩
  show am_R M_Sp_line (5, [.ref 1, .null], []) _ _
  cases ep : prS len tx with
  | inl e =>
    rw [ep] at q
    obtain ⟨k, j⟩ := e
    obtain ⟨hk, ⟨i, nu, e4⟩, w⟩ := q
    exact v_lineF R f1 hk e4 w
  | inr qq =>
    rw [ep] at q
    obtain ⟨⟨i, nu, e4⟩, hp⟩ := q
    obtain ⟨⟨n, en, hn, -⟩, hps⟩ := prS_wf ep
    dsimp only
    rw [en] at hp
    rw [en, nI_clamp (by omega)]
    have y1 : h1.1 1 = .inr (9, [.ref 2, .ref 4, .ref 11, .ref 14, .ref 17, .ref 20, .ref 21, .ref 113, .ref 117, .ref 120, .ref 121, .int fa]) := by rw [f1.2 _ (by omega)]; exact x1
    obtain ⟨t1, t2, t3⟩ := hT.fr f1 (by omega)
    have w4 := e4
    rw [rdc_eq] at w4
    repeat (first | refine rs [] rfl rfl rfl rfl ?_ | refine rk rfl rfl ?_ | refine rgoh [] rfl rfl ?_ | refine rgeta (hi := rfl) (kk := ?_) | refine rialda (hi := rfl) (kk := ?_))
    refine rputa (hi := rfl) (kk := ?_)
    repeat (first | refine rs [] rfl rfl rfl rfl ?_ | refine rk rfl rfl ?_ | refine rgoh [] rfl rfl ?_ | refine rgeta (hi := rfl) (kk := ?_) | refine rialda (hi := rfl) (kk := ?_))
    (first | refine rift rfl rfl ?_ | refine riff rfl rfl ?_ | refine rict rfl rfl ?_ | refine ricf rfl rfl ?_)
    repeat (first | refine rs [] rfl rfl rfl rfl ?_ | refine rk rfl rfl ?_ | refine rgoh [] rfl rfl ?_ | refine rgeta (hi := rfl) (kk := ?_) | refine rialda (hi := rfl) (kk := ?_))
    refine rputa (hi := rfl) (kk := ?_)
    have fA : am_fr 1 11 h (am_set (am_set h1 2 (.inr (7, [.ref 3, .int (nI 0)]))) 1 (.inr (9, [.ref 2, .ref 4, .ref 11, .ref 14, .ref 17, .ref 20, .ref 21, .ref 113, .ref 117, .ref 120, .ref 121, .int (-1)]))) := fr_set (fr_set (fr_wd f1 (by omega) (by omega)) (by omega) (by omega)) (by omega) (by omega)
    have fB : am_fr 1 3 h1 (am_set (am_set h1 2 (.inr (7, [.ref 3, .int (nI 0)]))) 1 (.inr (9, [.ref 2, .ref 4, .ref 11, .ref 14, .ref 17, .ref 20, .ref 21, .ref 113, .ref 117, .ref 120, .ref 121, .int (-1)]))) := fr_set (fr_set fr_rf (by omega) (by omega)) (by omega) (by omega)
    have J : pRj h1 := ⟨⟨_, _, _, _, e4⟩, hp.raw⟩
    have RH := cRep_head (len' := 0) (tx' := tx) R fA am_set_eq ⟨by omega, by rw [am_set_ne (by omega)]; exact am_set_eq, by rw [am_set_ne (by omega), am_set_ne (by omega)]; exact t3⟩ (J.fr fB (by omega))
    have hp2 := hp.fr fB (by omega)
    refine am_R.imp (v_lineG RH hn hps hp2 ⟨_, by rw [am_set_ne (by omega), am_set_ne (by omega)]; exact w4⟩) ?_
    rintro r h2 ⟨rfl, R2, f2⟩
    exact ⟨rfl, R2, fr_tr (lo := 1) (hi := 130) (fr_wd fA (by omega) (by omega)) f2 (by omega) (by omega)⟩
end CTold
end
