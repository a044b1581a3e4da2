def lw_okq (q : MethodName × Nat) : Prop := (q.1.cls ≠ "java/lang/invoke/MethodHandle" ∧ q.1.cls ≠ "java/lang/invoke/VarHandle") ∧ Cond.instantiable q.1.cls q.2 ∈ tables_1 ∧ Cond.privateMethod q.1 ∈ tables_1 ∧ Cond.instanceMethod q.1 ∈ tables_1
theorem lw_p0 : lw_okq (⟨"CoreTerms$Terms", "made", "(IIIIII)I"⟩, 13) := ⟨⟨by decide +kernel, by decide +kernel⟩, List.mem_of_getElem? (i := 42) (by decide +kernel), List.mem_of_getElem? (i := 284) (by decide +kernel), List.mem_of_getElem? (i := 285) (by decide +kernel)⟩
theorem lw_p1 : lw_okq (⟨"CoreTerms$Terms", "usesOf", "(II)I"⟩, 13) := ⟨⟨by decide +kernel, by decide +kernel⟩, List.mem_of_getElem? (i := 42) (by decide +kernel), List.mem_of_getElem? (i := 401) (by decide +kernel), List.mem_of_getElem? (i := 402) (by decide +kernel)⟩
theorem lw_p2 : lw_okq (⟨"CoreTerms$Typist", "typeFor", "(I)I"⟩, 6) := ⟨⟨by decide +kernel, by decide +kernel⟩, List.mem_of_getElem? (i := 88) (by decide +kernel), List.mem_of_getElem? (i := 427) (by decide +kernel), List.mem_of_getElem? (i := 428) (by decide +kernel)⟩
theorem lw_p3 : lw_okq (⟨"CoreTerms$Typist", "typeForName", "(I)I"⟩, 6) := ⟨⟨by decide +kernel, by decide +kernel⟩, List.mem_of_getElem? (i := 88) (by decide +kernel), List.mem_of_getElem? (i := 432) (by decide +kernel), List.mem_of_getElem? (i := 433) (by decide +kernel)⟩
theorem lw_p4 : lw_okq (⟨"CoreTerms$Typist", "knownOf", "(I)I"⟩, 6) := ⟨⟨by decide +kernel, by decide +kernel⟩, List.mem_of_getElem? (i := 88) (by decide +kernel), List.mem_of_getElem? (i := 437) (by decide +kernel), List.mem_of_getElem? (i := 438) (by decide +kernel)⟩
theorem lw_p5 : lw_okq (⟨"CoreTerms$Typist", "faulty", "(II)I"⟩, 6) := ⟨⟨by decide +kernel, by decide +kernel⟩, List.mem_of_getElem? (i := 88) (by decide +kernel), List.mem_of_getElem? (i := 441) (by decide +kernel), List.mem_of_getElem? (i := 442) (by decide +kernel)⟩
theorem lw_p6 : lw_okq (⟨"CoreTerms$Typist", "typeForFunction", "(I)I"⟩, 6) := ⟨⟨by decide +kernel, by decide +kernel⟩, List.mem_of_getElem? (i := 88) (by decide +kernel), List.mem_of_getElem? (i := 445) (by decide +kernel), List.mem_of_getElem? (i := 446) (by decide +kernel)⟩
theorem lw_p7 : lw_okq (⟨"CoreTerms$Typist", "typeUnder", "(III)I"⟩, 6) := ⟨⟨by decide +kernel, by decide +kernel⟩, List.mem_of_getElem? (i := 88) (by decide +kernel), List.mem_of_getElem? (i := 451) (by decide +kernel), List.mem_of_getElem? (i := 452) (by decide +kernel)⟩
theorem lw_p8 : lw_okq (⟨"CoreTerms$Typist", "setKnown", "(II)V"⟩, 6) := ⟨⟨by decide +kernel, by decide +kernel⟩, List.mem_of_getElem? (i := 88) (by decide +kernel), List.mem_of_getElem? (i := 455) (by decide +kernel), List.mem_of_getElem? (i := 456) (by decide +kernel)⟩
theorem lw_p9 : lw_okq (⟨"CoreTerms$Typist", "typeForCall", "(I)I"⟩, 6) := ⟨⟨by decide +kernel, by decide +kernel⟩, List.mem_of_getElem? (i := 88) (by decide +kernel), List.mem_of_getElem? (i := 460) (by decide +kernel), List.mem_of_getElem? (i := 461) (by decide +kernel)⟩
theorem lw_p10 : lw_okq (⟨"CoreTerms$Typist", "typeThatIs", "(II)I"⟩, 6) := ⟨⟨by decide +kernel, by decide +kernel⟩, List.mem_of_getElem? (i := 88) (by decide +kernel), List.mem_of_getElem? (i := 466) (by decide +kernel), List.mem_of_getElem? (i := 467) (by decide +kernel)⟩
theorem lw_p11 : lw_okq (⟨"CoreTerms$Typist", "typeForLet", "(I)I"⟩, 6) := ⟨⟨by decide +kernel, by decide +kernel⟩, List.mem_of_getElem? (i := 88) (by decide +kernel), List.mem_of_getElem? (i := 471) (by decide +kernel), List.mem_of_getElem? (i := 472) (by decide +kernel)⟩
theorem lw_p12 : lw_okq (⟨"CoreTerms$Typist", "typeForSum", "(I)I"⟩, 6) := ⟨⟨by decide +kernel, by decide +kernel⟩, List.mem_of_getElem? (i := 88) (by decide +kernel), List.mem_of_getElem? (i := 475) (by decide +kernel), List.mem_of_getElem? (i := 476) (by decide +kernel)⟩
theorem lw_p13 : lw_okq (⟨"CoreTerms$Typist", "typeForChoice", "(I)I"⟩, 6) := ⟨⟨by decide +kernel, by decide +kernel⟩, List.mem_of_getElem? (i := 88) (by decide +kernel), List.mem_of_getElem? (i := 479) (by decide +kernel), List.mem_of_getElem? (i := 480) (by decide +kernel)⟩
theorem lw_p14 : lw_okq (⟨"CoreTerms$Comparer", "same", "(III)Z"⟩, 3) := ⟨⟨by decide +kernel, by decide +kernel⟩, List.mem_of_getElem? (i := 113) (by decide +kernel), List.mem_of_getElem? (i := 508) (by decide +kernel), List.mem_of_getElem? (i := 509) (by decide +kernel)⟩
theorem lw_p15 : lw_okq (⟨"CoreTerms$Comparer", "sameName", "(II)Z"⟩, 3) := ⟨⟨by decide +kernel, by decide +kernel⟩, List.mem_of_getElem? (i := 113) (by decide +kernel), List.mem_of_getElem? (i := 516) (by decide +kernel), List.mem_of_getElem? (i := 517) (by decide +kernel)⟩
def lw_privs_1 : List (MethodName × Nat) := [(⟨"CoreTerms$Terms", "made", "(IIIIII)I"⟩, 13), (⟨"CoreTerms$Terms", "usesOf", "(II)I"⟩, 13), (⟨"CoreTerms$Typist", "typeFor", "(I)I"⟩, 6), (⟨"CoreTerms$Typist", "typeForName", "(I)I"⟩, 6), (⟨"CoreTerms$Typist", "knownOf", "(I)I"⟩, 6), (⟨"CoreTerms$Typist", "faulty", "(II)I"⟩, 6), (⟨"CoreTerms$Typist", "typeForFunction", "(I)I"⟩, 6), (⟨"CoreTerms$Typist", "typeUnder", "(III)I"⟩, 6), (⟨"CoreTerms$Typist", "setKnown", "(II)V"⟩, 6), (⟨"CoreTerms$Typist", "typeForCall", "(I)I"⟩, 6), (⟨"CoreTerms$Typist", "typeThatIs", "(II)I"⟩, 6), (⟨"CoreTerms$Typist", "typeForLet", "(I)I"⟩, 6), (⟨"CoreTerms$Typist", "typeForSum", "(I)I"⟩, 6), (⟨"CoreTerms$Typist", "typeForChoice", "(I)I"⟩, 6), (⟨"CoreTerms$Comparer", "same", "(III)Z"⟩, 3), (⟨"CoreTerms$Comparer", "sameName", "(II)Z"⟩, 3)]
theorem lw_r1 : ∀ q ∈ lw_privs_1, lw_okq q := List.forall_mem_cons.mpr ⟨lw_p0, List.forall_mem_cons.mpr ⟨lw_p1, List.forall_mem_cons.mpr ⟨lw_p2, List.forall_mem_cons.mpr ⟨lw_p3, List.forall_mem_cons.mpr ⟨lw_p4, List.forall_mem_cons.mpr ⟨lw_p5, List.forall_mem_cons.mpr ⟨lw_p6, List.forall_mem_cons.mpr ⟨lw_p7, List.forall_mem_cons.mpr ⟨lw_p8, List.forall_mem_cons.mpr ⟨lw_p9, List.forall_mem_cons.mpr ⟨lw_p10, List.forall_mem_cons.mpr ⟨lw_p11, List.forall_mem_cons.mpr ⟨lw_p12, List.forall_mem_cons.mpr ⟨lw_p13, List.forall_mem_cons.mpr ⟨lw_p14, List.forall_mem_cons.mpr ⟨lw_p15, fun _ h => absurd h List.not_mem_nil⟩⟩⟩⟩⟩⟩⟩⟩⟩⟩⟩⟩⟩⟩⟩⟩
theorem lw_p16 : lw_okq (⟨"CoreTerms$Comparer", "sameUnder", "(IIIII)Z"⟩, 3) := ⟨⟨by decide +kernel, by decide +kernel⟩, List.mem_of_getElem? (i := 113) (by decide +kernel), List.mem_of_getElem? (i := 523) (by decide +kernel), List.mem_of_getElem? (i := 524) (by decide +kernel)⟩
theorem lw_p17 : lw_okq (⟨"CoreTerms$Putter", "into", "(III)I"⟩, 1) := ⟨⟨by decide +kernel, by decide +kernel⟩, List.mem_of_getElem? (i := 129) (by decide +kernel), List.mem_of_getElem? (i := 541) (by decide +kernel), List.mem_of_getElem? (i := 542) (by decide +kernel)⟩
theorem lw_p18 : lw_okq (⟨"CoreTerms$Putter", "intoFunction", "(III)I"⟩, 1) := ⟨⟨by decide +kernel, by decide +kernel⟩, List.mem_of_getElem? (i := 129) (by decide +kernel), List.mem_of_getElem? (i := 547) (by decide +kernel), List.mem_of_getElem? (i := 548) (by decide +kernel)⟩
theorem lw_p19 : lw_okq (⟨"CoreTerms$Putter", "letterFor", "(III)I"⟩, 1) := ⟨⟨by decide +kernel, by decide +kernel⟩, List.mem_of_getElem? (i := 129) (by decide +kernel), List.mem_of_getElem? (i := 553) (by decide +kernel), List.mem_of_getElem? (i := 554) (by decide +kernel)⟩
theorem lw_p20 : lw_okq (⟨"CoreTerms$Putter", "intoBody", "(IIIII)I"⟩, 1) := ⟨⟨by decide +kernel, by decide +kernel⟩, List.mem_of_getElem? (i := 129) (by decide +kernel), List.mem_of_getElem? (i := 557) (by decide +kernel), List.mem_of_getElem? (i := 558) (by decide +kernel)⟩
theorem lw_p21 : lw_okq (⟨"CoreTerms$Putter", "intoLet", "(III)I"⟩, 1) := ⟨⟨by decide +kernel, by decide +kernel⟩, List.mem_of_getElem? (i := 129) (by decide +kernel), List.mem_of_getElem? (i := 568) (by decide +kernel), List.mem_of_getElem? (i := 569) (by decide +kernel)⟩
theorem lw_p22 : lw_okq (⟨"CoreTerms$Putter", "intoParts", "(III)I"⟩, 1) := ⟨⟨by decide +kernel, by decide +kernel⟩, List.mem_of_getElem? (i := 129) (by decide +kernel), List.mem_of_getElem? (i := 573) (by decide +kernel), List.mem_of_getElem? (i := 574) (by decide +kernel)⟩
theorem lw_p23 : lw_okq (⟨"CoreTerms", "keptOrUndone", "(II)I"⟩, 10) := ⟨⟨by decide +kernel, by decide +kernel⟩, List.mem_of_getElem? (i := 14) (by decide +kernel), List.mem_of_getElem? (i := 578) (by decide +kernel), List.mem_of_getElem? (i := 579) (by decide +kernel)⟩
theorem lw_p24 : lw_okq (⟨"CoreTerms$Stepper", "stepOf", "(I)I"⟩, 2) := ⟨⟨by decide +kernel, by decide +kernel⟩, List.mem_of_getElem? (i := 139) (by decide +kernel), List.mem_of_getElem? (i := 590) (by decide +kernel), List.mem_of_getElem? (i := 591) (by decide +kernel)⟩
theorem lw_p25 : lw_okq (⟨"CoreTerms$Stepper", "stepOfCall", "(I)I"⟩, 2) := ⟨⟨by decide +kernel, by decide +kernel⟩, List.mem_of_getElem? (i := 139) (by decide +kernel), List.mem_of_getElem? (i := 595) (by decide +kernel), List.mem_of_getElem? (i := 596) (by decide +kernel)⟩
theorem lw_p26 : lw_okq (⟨"CoreTerms$Stepper", "stepOfFirst", "(I)I"⟩, 2) := ⟨⟨by decide +kernel, by decide +kernel⟩, List.mem_of_getElem? (i := 139) (by decide +kernel), List.mem_of_getElem? (i := 603) (by decide +kernel), List.mem_of_getElem? (i := 604) (by decide +kernel)⟩
theorem lw_p27 : lw_okq (⟨"CoreTerms$Stepper", "stepOfSum", "(I)I"⟩, 2) := ⟨⟨by decide +kernel, by decide +kernel⟩, List.mem_of_getElem? (i := 139) (by decide +kernel), List.mem_of_getElem? (i := 610) (by decide +kernel), List.mem_of_getElem? (i := 611) (by decide +kernel)⟩
theorem lw_p28 : lw_okq (⟨"CoreTerms$Stepper", "stepOfChoice", "(I)I"⟩, 2) := ⟨⟨by decide +kernel, by decide +kernel⟩, List.mem_of_getElem? (i := 139) (by decide +kernel), List.mem_of_getElem? (i := 616) (by decide +kernel), List.mem_of_getElem? (i := 617) (by decide +kernel)⟩
theorem lw_p29 : lw_okq (⟨"CoreTerms$Dropper", "withoutLets", "(I)I"⟩, 1) := ⟨⟨by decide +kernel, by decide +kernel⟩, List.mem_of_getElem? (i := 152) (by decide +kernel), List.mem_of_getElem? (i := 632) (by decide +kernel), List.mem_of_getElem? (i := 633) (by decide +kernel)⟩
theorem lw_p30 : lw_okq (⟨"CoreTerms$Printer", "writeTerm", "(I)V"⟩, 4) := ⟨⟨by decide +kernel, by decide +kernel⟩, List.mem_of_getElem? (i := 162) (by decide +kernel), List.mem_of_getElem? (i := 654) (by decide +kernel), List.mem_of_getElem? (i := 655) (by decide +kernel)⟩
theorem lw_p31 : lw_okq (⟨"CoreTerms$Printer", "writeNumber", "(II)V"⟩, 4) := ⟨⟨by decide +kernel, by decide +kernel⟩, List.mem_of_getElem? (i := 162) (by decide +kernel), List.mem_of_getElem? (i := 660) (by decide +kernel), List.mem_of_getElem? (i := 661) (by decide +kernel)⟩
def lw_privs_2 : List (MethodName × Nat) := [(⟨"CoreTerms$Comparer", "sameUnder", "(IIIII)Z"⟩, 3), (⟨"CoreTerms$Putter", "into", "(III)I"⟩, 1), (⟨"CoreTerms$Putter", "intoFunction", "(III)I"⟩, 1), (⟨"CoreTerms$Putter", "letterFor", "(III)I"⟩, 1), (⟨"CoreTerms$Putter", "intoBody", "(IIIII)I"⟩, 1), (⟨"CoreTerms$Putter", "intoLet", "(III)I"⟩, 1), (⟨"CoreTerms$Putter", "intoParts", "(III)I"⟩, 1), (⟨"CoreTerms", "keptOrUndone", "(II)I"⟩, 10), (⟨"CoreTerms$Stepper", "stepOf", "(I)I"⟩, 2), (⟨"CoreTerms$Stepper", "stepOfCall", "(I)I"⟩, 2), (⟨"CoreTerms$Stepper", "stepOfFirst", "(I)I"⟩, 2), (⟨"CoreTerms$Stepper", "stepOfSum", "(I)I"⟩, 2), (⟨"CoreTerms$Stepper", "stepOfChoice", "(I)I"⟩, 2), (⟨"CoreTerms$Dropper", "withoutLets", "(I)I"⟩, 1), (⟨"CoreTerms$Printer", "writeTerm", "(I)V"⟩, 4), (⟨"CoreTerms$Printer", "writeNumber", "(II)V"⟩, 4)]
theorem lw_r2 : ∀ q ∈ lw_privs_2, lw_okq q := List.forall_mem_cons.mpr ⟨lw_p16, List.forall_mem_cons.mpr ⟨lw_p17, List.forall_mem_cons.mpr ⟨lw_p18, List.forall_mem_cons.mpr ⟨lw_p19, List.forall_mem_cons.mpr ⟨lw_p20, List.forall_mem_cons.mpr ⟨lw_p21, List.forall_mem_cons.mpr ⟨lw_p22, List.forall_mem_cons.mpr ⟨lw_p23, List.forall_mem_cons.mpr ⟨lw_p24, List.forall_mem_cons.mpr ⟨lw_p25, List.forall_mem_cons.mpr ⟨lw_p26, List.forall_mem_cons.mpr ⟨lw_p27, List.forall_mem_cons.mpr ⟨lw_p28, List.forall_mem_cons.mpr ⟨lw_p29, List.forall_mem_cons.mpr ⟨lw_p30, List.forall_mem_cons.mpr ⟨lw_p31, fun _ h => absurd h List.not_mem_nil⟩⟩⟩⟩⟩⟩⟩⟩⟩⟩⟩⟩⟩⟩⟩⟩
theorem lw_p32 : lw_okq (⟨"CoreTerms$Printer", "write", "(I)V"⟩, 4) := ⟨⟨by decide +kernel, by decide +kernel⟩, List.mem_of_getElem? (i := 162) (by decide +kernel), List.mem_of_getElem? (i := 667) (by decide +kernel), List.mem_of_getElem? (i := 668) (by decide +kernel)⟩
theorem lw_p33 : lw_okq (⟨"CoreTerms$Printer", "writeLetter", "(I)V"⟩, 4) := ⟨⟨by decide +kernel, by decide +kernel⟩, List.mem_of_getElem? (i := 162) (by decide +kernel), List.mem_of_getElem? (i := 674) (by decide +kernel), List.mem_of_getElem? (i := 675) (by decide +kernel)⟩
theorem lw_p34 : lw_okq (⟨"CoreTerms$Printer", "writeFunction", "(I)V"⟩, 4) := ⟨⟨by decide +kernel, by decide +kernel⟩, List.mem_of_getElem? (i := 162) (by decide +kernel), List.mem_of_getElem? (i := 678) (by decide +kernel), List.mem_of_getElem? (i := 679) (by decide +kernel)⟩
theorem lw_p35 : lw_okq (⟨"CoreTerms$Printer", "writeType", "(I)V"⟩, 4) := ⟨⟨by decide +kernel, by decide +kernel⟩, List.mem_of_getElem? (i := 162) (by decide +kernel), List.mem_of_getElem? (i := 683) (by decide +kernel), List.mem_of_getElem? (i := 684) (by decide +kernel)⟩
theorem lw_p36 : lw_okq (⟨"CoreTerms$Printer", "writePair", "(II)V"⟩, 4) := ⟨⟨by decide +kernel, by decide +kernel⟩, List.mem_of_getElem? (i := 162) (by decide +kernel), List.mem_of_getElem? (i := 691) (by decide +kernel), List.mem_of_getElem? (i := 692) (by decide +kernel)⟩
theorem lw_p37 : lw_okq (⟨"CoreTerms$Printer", "writeLet", "(I)V"⟩, 4) := ⟨⟨by decide +kernel, by decide +kernel⟩, List.mem_of_getElem? (i := 162) (by decide +kernel), List.mem_of_getElem? (i := 696) (by decide +kernel), List.mem_of_getElem? (i := 697) (by decide +kernel)⟩
theorem lw_p38 : lw_okq (⟨"CoreTerms$Printer", "writeChoice", "(I)V"⟩, 4) := ⟨⟨by decide +kernel, by decide +kernel⟩, List.mem_of_getElem? (i := 162) (by decide +kernel), List.mem_of_getElem? (i := 700) (by decide +kernel), List.mem_of_getElem? (i := 701) (by decide +kernel)⟩
theorem lw_p39 : lw_okq (⟨"CoreTerms$Reader", "add", "(I)V"⟩, 5) := ⟨⟨by decide +kernel, by decide +kernel⟩, List.mem_of_getElem? (i := 182) (by decide +kernel), List.mem_of_getElem? (i := 721) (by decide +kernel), List.mem_of_getElem? (i := 722) (by decide +kernel)⟩
theorem lw_p40 : lw_okq (⟨"CoreTerms$Reader", "termHere", "(I)I"⟩, 5) := ⟨⟨by decide +kernel, by decide +kernel⟩, List.mem_of_getElem? (i := 182) (by decide +kernel), List.mem_of_getElem? (i := 748) (by decide +kernel), List.mem_of_getElem? (i := 749) (by decide +kernel)⟩
theorem lw_p41 : lw_okq (⟨"CoreTerms$Reader", "byteHere", "()I"⟩, 5) := ⟨⟨by decide +kernel, by decide +kernel⟩, List.mem_of_getElem? (i := 182) (by decide +kernel), List.mem_of_getElem? (i := 752) (by decide +kernel), List.mem_of_getElem? (i := 753) (by decide +kernel)⟩
theorem lw_p42 : lw_okq (⟨"CoreTerms$Reader", "wrongHere", "()I"⟩, 5) := ⟨⟨by decide +kernel, by decide +kernel⟩, List.mem_of_getElem? (i := 182) (by decide +kernel), List.mem_of_getElem? (i := 763) (by decide +kernel), List.mem_of_getElem? (i := 764) (by decide +kernel)⟩
theorem lw_p43 : lw_okq (⟨"CoreTerms$Reader", "functionHere", "(I)I"⟩, 5) := ⟨⟨by decide +kernel, by decide +kernel⟩, List.mem_of_getElem? (i := 182) (by decide +kernel), List.mem_of_getElem? (i := 767) (by decide +kernel), List.mem_of_getElem? (i := 768) (by decide +kernel)⟩
theorem lw_p44 : lw_okq (⟨"CoreTerms$Reader", "letterBehind", "(I)I"⟩, 5) := ⟨⟨by decide +kernel, by decide +kernel⟩, List.mem_of_getElem? (i := 182) (by decide +kernel), List.mem_of_getElem? (i := 771) (by decide +kernel), List.mem_of_getElem? (i := 772) (by decide +kernel)⟩
theorem lw_p45 : lw_okq (⟨"CoreTerms$Reader", "pass", "(I)I"⟩, 5) := ⟨⟨by decide +kernel, by decide +kernel⟩, List.mem_of_getElem? (i := 182) (by decide +kernel), List.mem_of_getElem? (i := 775) (by decide +kernel), List.mem_of_getElem? (i := 776) (by decide +kernel)⟩
theorem lw_p46 : lw_okq (⟨"CoreTerms$Reader", "typeHere", "(I)I"⟩, 5) := ⟨⟨by decide +kernel, by decide +kernel⟩, List.mem_of_getElem? (i := 182) (by decide +kernel), List.mem_of_getElem? (i := 779) (by decide +kernel), List.mem_of_getElem? (i := 780) (by decide +kernel)⟩
theorem lw_p47 : lw_okq (⟨"CoreTerms$Reader", "typeBehind", "(II)I"⟩, 5) := ⟨⟨by decide +kernel, by decide +kernel⟩, List.mem_of_getElem? (i := 182) (by decide +kernel), List.mem_of_getElem? (i := 786) (by decide +kernel), List.mem_of_getElem? (i := 787) (by decide +kernel)⟩
def lw_privs_3 : List (MethodName × Nat) := [(⟨"CoreTerms$Printer", "write", "(I)V"⟩, 4), (⟨"CoreTerms$Printer", "writeLetter", "(I)V"⟩, 4), (⟨"CoreTerms$Printer", "writeFunction", "(I)V"⟩, 4), (⟨"CoreTerms$Printer", "writeType", "(I)V"⟩, 4), (⟨"CoreTerms$Printer", "writePair", "(II)V"⟩, 4), (⟨"CoreTerms$Printer", "writeLet", "(I)V"⟩, 4), (⟨"CoreTerms$Printer", "writeChoice", "(I)V"⟩, 4), (⟨"CoreTerms$Reader", "add", "(I)V"⟩, 5), (⟨"CoreTerms$Reader", "termHere", "(I)I"⟩, 5), (⟨"CoreTerms$Reader", "byteHere", "()I"⟩, 5), (⟨"CoreTerms$Reader", "wrongHere", "()I"⟩, 5), (⟨"CoreTerms$Reader", "functionHere", "(I)I"⟩, 5), (⟨"CoreTerms$Reader", "letterBehind", "(I)I"⟩, 5), (⟨"CoreTerms$Reader", "pass", "(I)I"⟩, 5), (⟨"CoreTerms$Reader", "typeHere", "(I)I"⟩, 5), (⟨"CoreTerms$Reader", "typeBehind", "(II)I"⟩, 5)]
theorem lw_r3 : ∀ q ∈ lw_privs_3, lw_okq q := List.forall_mem_cons.mpr ⟨lw_p32, List.forall_mem_cons.mpr ⟨lw_p33, List.forall_mem_cons.mpr ⟨lw_p34, List.forall_mem_cons.mpr ⟨lw_p35, List.forall_mem_cons.mpr ⟨lw_p36, List.forall_mem_cons.mpr ⟨lw_p37, List.forall_mem_cons.mpr ⟨lw_p38, List.forall_mem_cons.mpr ⟨lw_p39, List.forall_mem_cons.mpr ⟨lw_p40, List.forall_mem_cons.mpr ⟨lw_p41, List.forall_mem_cons.mpr ⟨lw_p42, List.forall_mem_cons.mpr ⟨lw_p43, List.forall_mem_cons.mpr ⟨lw_p44, List.forall_mem_cons.mpr ⟨lw_p45, List.forall_mem_cons.mpr ⟨lw_p46, List.forall_mem_cons.mpr ⟨lw_p47, fun _ h => absurd h List.not_mem_nil⟩⟩⟩⟩⟩⟩⟩⟩⟩⟩⟩⟩⟩⟩⟩⟩
theorem lw_p48 : lw_okq (⟨"CoreTerms$Reader", "termBehind", "(II)I"⟩, 5) := ⟨⟨by decide +kernel, by decide +kernel⟩, List.mem_of_getElem? (i := 182) (by decide +kernel), List.mem_of_getElem? (i := 791) (by decide +kernel), List.mem_of_getElem? (i := 792) (by decide +kernel)⟩
theorem lw_p49 : lw_okq (⟨"CoreTerms$Reader", "pairHere", "(I)I"⟩, 5) := ⟨⟨by decide +kernel, by decide +kernel⟩, List.mem_of_getElem? (i := 182) (by decide +kernel), List.mem_of_getElem? (i := 796) (by decide +kernel), List.mem_of_getElem? (i := 797) (by decide +kernel)⟩
theorem lw_p50 : lw_okq (⟨"CoreTerms$Reader", "letHere", "(I)I"⟩, 5) := ⟨⟨by decide +kernel, by decide +kernel⟩, List.mem_of_getElem? (i := 182) (by decide +kernel), List.mem_of_getElem? (i := 801) (by decide +kernel), List.mem_of_getElem? (i := 802) (by decide +kernel)⟩
theorem lw_p51 : lw_okq (⟨"CoreTerms$Reader", "choiceHere", "(I)I"⟩, 5) := ⟨⟨by decide +kernel, by decide +kernel⟩, List.mem_of_getElem? (i := 182) (by decide +kernel), List.mem_of_getElem? (i := 806) (by decide +kernel), List.mem_of_getElem? (i := 807) (by decide +kernel)⟩
theorem lw_p52 : lw_okq (⟨"CoreTerms$Reader", "nameHere", "()I"⟩, 5) := ⟨⟨by decide +kernel, by decide +kernel⟩, List.mem_of_getElem? (i := 182) (by decide +kernel), List.mem_of_getElem? (i := 810) (by decide +kernel), List.mem_of_getElem? (i := 811) (by decide +kernel)⟩
theorem lw_p53 : lw_okq (⟨"CoreTerms$Reader", "numberHere", "()I"⟩, 5) := ⟨⟨by decide +kernel, by decide +kernel⟩, List.mem_of_getElem? (i := 182) (by decide +kernel), List.mem_of_getElem? (i := 815) (by decide +kernel), List.mem_of_getElem? (i := 816) (by decide +kernel)⟩
theorem lw_p54 : lw_okq (⟨"CoreTermsModel", "isType", "(I)Z"⟩, 43) := ⟨⟨by decide +kernel, by decide +kernel⟩, List.mem_of_getElem? (i := 837) (by decide +kernel), List.mem_of_getElem? (i := 977) (by decide +kernel), List.mem_of_getElem? (i := 978) (by decide +kernel)⟩
theorem lw_p55 : lw_okq (⟨"CoreTermsModel", "arrowOf", "(II)I"⟩, 43) := ⟨⟨by decide +kernel, by decide +kernel⟩, List.mem_of_getElem? (i := 837) (by decide +kernel), List.mem_of_getElem? (i := 984) (by decide +kernel), List.mem_of_getElem? (i := 985) (by decide +kernel)⟩
theorem lw_p56 : lw_okq (⟨"CoreTermsModel", "make", "(IIIIIII)I"⟩, 43) := ⟨⟨by decide +kernel, by decide +kernel⟩, List.mem_of_getElem? (i := 837) (by decide +kernel), List.mem_of_getElem? (i := 1003) (by decide +kernel), List.mem_of_getElem? (i := 1004) (by decide +kernel)⟩
theorem lw_p57 : lw_okq (⟨"CoreTermsModel", "part", "(II)I"⟩, 43) := ⟨⟨by decide +kernel, by decide +kernel⟩, List.mem_of_getElem? (i := 837) (by decide +kernel), List.mem_of_getElem? (i := 1010) (by decide +kernel), List.mem_of_getElem? (i := 1011) (by decide +kernel)⟩
theorem lw_p58 : lw_okq (⟨"CoreTermsModel", "freeOf", "(II)I"⟩, 43) := ⟨⟨by decide +kernel, by decide +kernel⟩, List.mem_of_getElem? (i := 837) (by decide +kernel), List.mem_of_getElem? (i := 1014) (by decide +kernel), List.mem_of_getElem? (i := 1015) (by decide +kernel)⟩
theorem lw_p59 : lw_okq (⟨"CoreTermsModel", "isTerm", "(I)Z"⟩, 43) := ⟨⟨by decide +kernel, by decide +kernel⟩, List.mem_of_getElem? (i := 837) (by decide +kernel), List.mem_of_getElem? (i := 1026) (by decide +kernel), List.mem_of_getElem? (i := 1027) (by decide +kernel)⟩
theorem lw_p60 : lw_okq (⟨"CoreTermsModel", "isFree", "(II)Z"⟩, 43) := ⟨⟨by decide +kernel, by decide +kernel⟩, List.mem_of_getElem? (i := 837) (by decide +kernel), List.mem_of_getElem? (i := 1047) (by decide +kernel), List.mem_of_getElem? (i := 1048) (by decide +kernel)⟩
theorem lw_p61 : lw_okq (⟨"CoreTermsModel", "push", "(I)V"⟩, 43) := ⟨⟨by decide +kernel, by decide +kernel⟩, List.mem_of_getElem? (i := 837) (by decide +kernel), List.mem_of_getElem? (i := 1059) (by decide +kernel), List.mem_of_getElem? (i := 1060) (by decide +kernel)⟩
theorem lw_p62 : lw_okq (⟨"CoreTermsModel", "faults", "(II)V"⟩, 43) := ⟨⟨by decide +kernel, by decide +kernel⟩, List.mem_of_getElem? (i := 837) (by decide +kernel), List.mem_of_getElem? (i := 1063) (by decide +kernel), List.mem_of_getElem? (i := 1064) (by decide +kernel)⟩
theorem lw_p63 : lw_okq (⟨"CoreTermsModel", "typeOfBinder", "(III)V"⟩, 43) := ⟨⟨by decide +kernel, by decide +kernel⟩, List.mem_of_getElem? (i := 837) (by decide +kernel), List.mem_of_getElem? (i := 1067) (by decide +kernel), List.mem_of_getElem? (i := 1068) (by decide +kernel)⟩
def lw_privs_4 : List (MethodName × Nat) := [(⟨"CoreTerms$Reader", "termBehind", "(II)I"⟩, 5), (⟨"CoreTerms$Reader", "pairHere", "(I)I"⟩, 5), (⟨"CoreTerms$Reader", "letHere", "(I)I"⟩, 5), (⟨"CoreTerms$Reader", "choiceHere", "(I)I"⟩, 5), (⟨"CoreTerms$Reader", "nameHere", "()I"⟩, 5), (⟨"CoreTerms$Reader", "numberHere", "()I"⟩, 5), (⟨"CoreTermsModel", "isType", "(I)Z"⟩, 43), (⟨"CoreTermsModel", "arrowOf", "(II)I"⟩, 43), (⟨"CoreTermsModel", "make", "(IIIIIII)I"⟩, 43), (⟨"CoreTermsModel", "part", "(II)I"⟩, 43), (⟨"CoreTermsModel", "freeOf", "(II)I"⟩, 43), (⟨"CoreTermsModel", "isTerm", "(I)Z"⟩, 43), (⟨"CoreTermsModel", "isFree", "(II)Z"⟩, 43), (⟨"CoreTermsModel", "push", "(I)V"⟩, 43), (⟨"CoreTermsModel", "faults", "(II)V"⟩, 43), (⟨"CoreTermsModel", "typeOfBinder", "(III)V"⟩, 43)]
theorem lw_r4 : ∀ q ∈ lw_privs_4, lw_okq q := List.forall_mem_cons.mpr ⟨lw_p48, List.forall_mem_cons.mpr ⟨lw_p49, List.forall_mem_cons.mpr ⟨lw_p50, List.forall_mem_cons.mpr ⟨lw_p51, List.forall_mem_cons.mpr ⟨lw_p52, List.forall_mem_cons.mpr ⟨lw_p53, List.forall_mem_cons.mpr ⟨lw_p54, List.forall_mem_cons.mpr ⟨lw_p55, List.forall_mem_cons.mpr ⟨lw_p56, List.forall_mem_cons.mpr ⟨lw_p57, List.forall_mem_cons.mpr ⟨lw_p58, List.forall_mem_cons.mpr ⟨lw_p59, List.forall_mem_cons.mpr ⟨lw_p60, List.forall_mem_cons.mpr ⟨lw_p61, List.forall_mem_cons.mpr ⟨lw_p62, List.forall_mem_cons.mpr ⟨lw_p63, fun _ h => absurd h List.not_mem_nil⟩⟩⟩⟩⟩⟩⟩⟩⟩⟩⟩⟩⟩⟩⟩⟩
theorem lw_p64 : lw_okq (⟨"CoreTermsModel", "binds", "(III)V"⟩, 43) := ⟨⟨by decide +kernel, by decide +kernel⟩, List.mem_of_getElem? (i := 837) (by decide +kernel), List.mem_of_getElem? (i := 1071) (by decide +kernel), List.mem_of_getElem? (i := 1072) (by decide +kernel)⟩
theorem lw_p65 : lw_okq (⟨"CoreTermsModel", "typeOfCall", "(III)V"⟩, 43) := ⟨⟨by decide +kernel, by decide +kernel⟩, List.mem_of_getElem? (i := 837) (by decide +kernel), List.mem_of_getElem? (i := 1075) (by decide +kernel), List.mem_of_getElem? (i := 1076) (by decide +kernel)⟩
theorem lw_p66 : lw_okq (⟨"CoreTermsModel", "typeOfNumbers", "(III)V"⟩, 43) := ⟨⟨by decide +kernel, by decide +kernel⟩, List.mem_of_getElem? (i := 837) (by decide +kernel), List.mem_of_getElem? (i := 1079) (by decide +kernel), List.mem_of_getElem? (i := 1080) (by decide +kernel)⟩
theorem lw_p67 : lw_okq (⟨"CoreTermsModel", "areAlike", "(II)Z"⟩, 43) := ⟨⟨by decide +kernel, by decide +kernel⟩, List.mem_of_getElem? (i := 837) (by decide +kernel), List.mem_of_getElem? (i := 1091) (by decide +kernel), List.mem_of_getElem? (i := 1092) (by decide +kernel)⟩
theorem lw_p68 : lw_okq (⟨"CoreTermsModel", "isLikeHere", "(II)Z"⟩, 43) := ⟨⟨by decide +kernel, by decide +kernel⟩, List.mem_of_getElem? (i := 837) (by decide +kernel), List.mem_of_getElem? (i := 1095) (by decide +kernel), List.mem_of_getElem? (i := 1096) (by decide +kernel)⟩
theorem lw_p69 : lw_okq (⟨"CoreTermsModel", "putOf", "(III)I"⟩, 43) := ⟨⟨by decide +kernel, by decide +kernel⟩, List.mem_of_getElem? (i := 837) (by decide +kernel), List.mem_of_getElem? (i := 1107) (by decide +kernel), List.mem_of_getElem? (i := 1108) (by decide +kernel)⟩
theorem lw_p70 : lw_okq (⟨"CoreTermsModel", "pushPut", "(III)V"⟩, 43) := ⟨⟨by decide +kernel, by decide +kernel⟩, List.mem_of_getElem? (i := 837) (by decide +kernel), List.mem_of_getElem? (i := 1111) (by decide +kernel), List.mem_of_getElem? (i := 1112) (by decide +kernel)⟩
theorem lw_p71 : lw_okq (⟨"CoreTermsModel", "putTurn", "()V"⟩, 43) := ⟨⟨by decide +kernel, by decide +kernel⟩, List.mem_of_getElem? (i := 837) (by decide +kernel), List.mem_of_getElem? (i := 1115) (by decide +kernel), List.mem_of_getElem? (i := 1116) (by decide +kernel)⟩
theorem lw_p72 : lw_okq (⟨"CoreTermsModel", "putBody", "(III)V"⟩, 43) := ⟨⟨by decide +kernel, by decide +kernel⟩, List.mem_of_getElem? (i := 837) (by decide +kernel), List.mem_of_getElem? (i := 1119) (by decide +kernel), List.mem_of_getElem? (i := 1120) (by decide +kernel)⟩
theorem lw_p73 : lw_okq (⟨"CoreTermsModel", "newLetter", "(II)I"⟩, 43) := ⟨⟨by decide +kernel, by decide +kernel⟩, List.mem_of_getElem? (i := 837) (by decide +kernel), List.mem_of_getElem? (i := 1123) (by decide +kernel), List.mem_of_getElem? (i := 1124) (by decide +kernel)⟩
theorem lw_p74 : lw_okq (⟨"CoreTermsModel", "remade", "(IIIII)I"⟩, 43) := ⟨⟨by decide +kernel, by decide +kernel⟩, List.mem_of_getElem? (i := 837) (by decide +kernel), List.mem_of_getElem? (i := 1127) (by decide +kernel), List.mem_of_getElem? (i := 1128) (by decide +kernel)⟩
theorem lw_p75 : lw_okq (⟨"CoreTermsModel", "putParts", "(III)V"⟩, 43) := ⟨⟨by decide +kernel, by decide +kernel⟩, List.mem_of_getElem? (i := 837) (by decide +kernel), List.mem_of_getElem? (i := 1131) (by decide +kernel), List.mem_of_getElem? (i := 1132) (by decide +kernel)⟩
theorem lw_p76 : lw_okq (⟨"CoreTermsModel", "stepOf", "(I)I"⟩, 43) := ⟨⟨by decide +kernel, by decide +kernel⟩, List.mem_of_getElem? (i := 837) (by decide +kernel), List.mem_of_getElem? (i := 1139) (by decide +kernel), List.mem_of_getElem? (i := 1140) (by decide +kernel)⟩
theorem lw_p77 : lw_okq (⟨"CoreTermsModel", "partToStep", "(I)I"⟩, 43) := ⟨⟨by decide +kernel, by decide +kernel⟩, List.mem_of_getElem? (i := 837) (by decide +kernel), List.mem_of_getElem? (i := 1143) (by decide +kernel), List.mem_of_getElem? (i := 1144) (by decide +kernel)⟩
theorem lw_p78 : lw_okq (⟨"CoreTermsModel", "stepHere", "(I)I"⟩, 43) := ⟨⟨by decide +kernel, by decide +kernel⟩, List.mem_of_getElem? (i := 837) (by decide +kernel), List.mem_of_getElem? (i := 1147) (by decide +kernel), List.mem_of_getElem? (i := 1148) (by decide +kernel)⟩
theorem lw_p79 : lw_okq (⟨"CoreTermsModel", "dropTurn", "()V"⟩, 43) := ⟨⟨by decide +kernel, by decide +kernel⟩, List.mem_of_getElem? (i := 837) (by decide +kernel), List.mem_of_getElem? (i := 1163) (by decide +kernel), List.mem_of_getElem? (i := 1164) (by decide +kernel)⟩
def lw_privs_5 : List (MethodName × Nat) := [(⟨"CoreTermsModel", "binds", "(III)V"⟩, 43), (⟨"CoreTermsModel", "typeOfCall", "(III)V"⟩, 43), (⟨"CoreTermsModel", "typeOfNumbers", "(III)V"⟩, 43), (⟨"CoreTermsModel", "areAlike", "(II)Z"⟩, 43), (⟨"CoreTermsModel", "isLikeHere", "(II)Z"⟩, 43), (⟨"CoreTermsModel", "putOf", "(III)I"⟩, 43), (⟨"CoreTermsModel", "pushPut", "(III)V"⟩, 43), (⟨"CoreTermsModel", "putTurn", "()V"⟩, 43), (⟨"CoreTermsModel", "putBody", "(III)V"⟩, 43), (⟨"CoreTermsModel", "newLetter", "(II)I"⟩, 43), (⟨"CoreTermsModel", "remade", "(IIIII)I"⟩, 43), (⟨"CoreTermsModel", "putParts", "(III)V"⟩, 43), (⟨"CoreTermsModel", "stepOf", "(I)I"⟩, 43), (⟨"CoreTermsModel", "partToStep", "(I)I"⟩, 43), (⟨"CoreTermsModel", "stepHere", "(I)I"⟩, 43), (⟨"CoreTermsModel", "dropTurn", "()V"⟩, 43)]
theorem lw_r5 : ∀ q ∈ lw_privs_5, lw_okq q := List.forall_mem_cons.mpr ⟨lw_p64, List.forall_mem_cons.mpr ⟨lw_p65, List.forall_mem_cons.mpr ⟨lw_p66, List.forall_mem_cons.mpr ⟨lw_p67, List.forall_mem_cons.mpr ⟨lw_p68, List.forall_mem_cons.mpr ⟨lw_p69, List.forall_mem_cons.mpr ⟨lw_p70, List.forall_mem_cons.mpr ⟨lw_p71, List.forall_mem_cons.mpr ⟨lw_p72, List.forall_mem_cons.mpr ⟨lw_p73, List.forall_mem_cons.mpr ⟨lw_p74, List.forall_mem_cons.mpr ⟨lw_p75, List.forall_mem_cons.mpr ⟨lw_p76, List.forall_mem_cons.mpr ⟨lw_p77, List.forall_mem_cons.mpr ⟨lw_p78, List.forall_mem_cons.mpr ⟨lw_p79, fun _ h => absurd h List.not_mem_nil⟩⟩⟩⟩⟩⟩⟩⟩⟩⟩⟩⟩⟩⟩⟩⟩
theorem lw_p80 : lw_okq (⟨"CoreTermsModel", "sayAt", "(II)V"⟩, 43) := ⟨⟨by decide +kernel, by decide +kernel⟩, List.mem_of_getElem? (i := 837) (by decide +kernel), List.mem_of_getElem? (i := 1171) (by decide +kernel), List.mem_of_getElem? (i := 1172) (by decide +kernel)⟩
theorem lw_p81 : lw_okq (⟨"CoreTermsModel", "sayNumber", "(I)V"⟩, 43) := ⟨⟨by decide +kernel, by decide +kernel⟩, List.mem_of_getElem? (i := 837) (by decide +kernel), List.mem_of_getElem? (i := 1175) (by decide +kernel), List.mem_of_getElem? (i := 1176) (by decide +kernel)⟩
theorem lw_p82 : lw_okq (⟨"CoreTermsModel", "say", "(I)V"⟩, 43) := ⟨⟨by decide +kernel, by decide +kernel⟩, List.mem_of_getElem? (i := 837) (by decide +kernel), List.mem_of_getElem? (i := 1179) (by decide +kernel), List.mem_of_getElem? (i := 1180) (by decide +kernel)⟩
theorem lw_p83 : lw_okq (⟨"CoreTermsModel", "sayType", "(I)V"⟩, 43) := ⟨⟨by decide +kernel, by decide +kernel⟩, List.mem_of_getElem? (i := 837) (by decide +kernel), List.mem_of_getElem? (i := 1185) (by decide +kernel), List.mem_of_getElem? (i := 1186) (by decide +kernel)⟩
theorem lw_p84 : lw_okq (⟨"CoreTermsModel", "readPart", "()V"⟩, 43) := ⟨⟨by decide +kernel, by decide +kernel⟩, List.mem_of_getElem? (i := 837) (by decide +kernel), List.mem_of_getElem? (i := 1205) (by decide +kernel), List.mem_of_getElem? (i := 1206) (by decide +kernel)⟩
theorem lw_p85 : lw_okq (⟨"CoreTermsModel", "byteHere", "()I"⟩, 43) := ⟨⟨by decide +kernel, by decide +kernel⟩, List.mem_of_getElem? (i := 837) (by decide +kernel), List.mem_of_getElem? (i := 1209) (by decide +kernel), List.mem_of_getElem? (i := 1210) (by decide +kernel)⟩
theorem lw_p86 : lw_okq (⟨"CoreTermsModel", "must", "(I)V"⟩, 43) := ⟨⟨by decide +kernel, by decide +kernel⟩, List.mem_of_getElem? (i := 837) (by decide +kernel), List.mem_of_getElem? (i := 1213) (by decide +kernel), List.mem_of_getElem? (i := 1214) (by decide +kernel)⟩
theorem lw_p87 : lw_okq (⟨"CoreTermsModel", "made", "(I)V"⟩, 43) := ⟨⟨by decide +kernel, by decide +kernel⟩, List.mem_of_getElem? (i := 837) (by decide +kernel), List.mem_of_getElem? (i := 1217) (by decide +kernel), List.mem_of_getElem? (i := 1218) (by decide +kernel)⟩
theorem lw_p88 : lw_okq (⟨"CoreTermsModel", "readBegin", "()V"⟩, 43) := ⟨⟨by decide +kernel, by decide +kernel⟩, List.mem_of_getElem? (i := 837) (by decide +kernel), List.mem_of_getElem? (i := 1224) (by decide +kernel), List.mem_of_getElem? (i := 1225) (by decide +kernel)⟩
theorem lw_p89 : lw_okq (⟨"CoreTermsModel", "readNumber", "()V"⟩, 43) := ⟨⟨by decide +kernel, by decide +kernel⟩, List.mem_of_getElem? (i := 837) (by decide +kernel), List.mem_of_getElem? (i := 1228) (by decide +kernel), List.mem_of_getElem? (i := 1229) (by decide +kernel)⟩
theorem lw_p90 : lw_okq (⟨"CoreTermsModel", "mustLetter", "()I"⟩, 43) := ⟨⟨by decide +kernel, by decide +kernel⟩, List.mem_of_getElem? (i := 837) (by decide +kernel), List.mem_of_getElem? (i := 1235) (by decide +kernel), List.mem_of_getElem? (i := 1236) (by decide +kernel)⟩
theorem lw_p91 : lw_okq (⟨"CoreTermsModel", "readType", "()I"⟩, 43) := ⟨⟨by decide +kernel, by decide +kernel⟩, List.mem_of_getElem? (i := 837) (by decide +kernel), List.mem_of_getElem? (i := 1239) (by decide +kernel), List.mem_of_getElem? (i := 1240) (by decide +kernel)⟩
def lw_privs_6 : List (MethodName × Nat) := [(⟨"CoreTermsModel", "sayAt", "(II)V"⟩, 43), (⟨"CoreTermsModel", "sayNumber", "(I)V"⟩, 43), (⟨"CoreTermsModel", "say", "(I)V"⟩, 43), (⟨"CoreTermsModel", "sayType", "(I)V"⟩, 43), (⟨"CoreTermsModel", "readPart", "()V"⟩, 43), (⟨"CoreTermsModel", "byteHere", "()I"⟩, 43), (⟨"CoreTermsModel", "must", "(I)V"⟩, 43), (⟨"CoreTermsModel", "made", "(I)V"⟩, 43), (⟨"CoreTermsModel", "readBegin", "()V"⟩, 43), (⟨"CoreTermsModel", "readNumber", "()V"⟩, 43), (⟨"CoreTermsModel", "mustLetter", "()I"⟩, 43), (⟨"CoreTermsModel", "readType", "()I"⟩, 43)]
theorem lw_r6 : ∀ q ∈ lw_privs_6, lw_okq q := List.forall_mem_cons.mpr ⟨lw_p80, List.forall_mem_cons.mpr ⟨lw_p81, List.forall_mem_cons.mpr ⟨lw_p82, List.forall_mem_cons.mpr ⟨lw_p83, List.forall_mem_cons.mpr ⟨lw_p84, List.forall_mem_cons.mpr ⟨lw_p85, List.forall_mem_cons.mpr ⟨lw_p86, List.forall_mem_cons.mpr ⟨lw_p87, List.forall_mem_cons.mpr ⟨lw_p88, List.forall_mem_cons.mpr ⟨lw_p89, List.forall_mem_cons.mpr ⟨lw_p90, List.forall_mem_cons.mpr ⟨lw_p91, fun _ h => absurd h List.not_mem_nil⟩⟩⟩⟩⟩⟩⟩⟩⟩⟩⟩⟩
def lw_privs : List (MethodName × Nat) := lw_privs_1 ++ (lw_privs_2 ++ (lw_privs_3 ++ (lw_privs_4 ++ (lw_privs_5 ++ (lw_privs_6)))))
def lw_tbl : List Cond := k2_sels lw_privs ++ tables_1
theorem lw_privs_ok : ∀ q ∈ lw_privs, lw_okq q := by
  show ∀ q ∈ lw_privs_1 ++ (lw_privs_2 ++ (lw_privs_3 ++ (lw_privs_4 ++ (lw_privs_5 ++ (lw_privs_6))))), lw_okq q
  exact List.forall_mem_append.mpr ⟨lw_r1, List.forall_mem_append.mpr ⟨lw_r2, List.forall_mem_append.mpr ⟨lw_r3, List.forall_mem_append.mpr ⟨lw_r4, List.forall_mem_append.mpr ⟨lw_r5, lw_r6⟩⟩⟩⟩⟩
def RX0 : String := "CoreTerms$Comparer"
def TX0 : u_T := fun k => match k with
  | 0 => ("CoreTerms$Comparer", "terms", "LCoreTerms$Terms;", true)
  | 1 => ("CoreTerms$Comparer", "leftLevel", "[I", true)
  | _ => ("CoreTerms$Comparer", "rightLevel", "[I", true)
def tyX0 : Nat → FieldType := fun k => match k with
  | 0 => .object "CoreTerms$Terms"
  | 1 => .array .int
  | _ => .array .int
abbrev wsX00 : List Cond := u_ws RX0 TX0 3
theorem nmX0 : ∀ a, a < 3 → ∀ b, b < 3 → a ≠ b → (TX0 a).2.1 ≠ (TX0 b).2.1 := by decide +kernel
theorem tyX0_ok : ∀ k, k < 3 → parseFieldDescriptor (TX0 k).2.2.1 = some (tyX0 k) := by decide +kernel
abbrev cX0_init : ByteArray := prog_2_method_1_code
def yX0_init : MethodName := ⟨RX0, "<init>", "(LCoreTerms$Terms;)V"⟩
abbrev cX0_areAlike : ByteArray := prog_2_method_2_code
def yX0_areAlike : MethodName := ⟨RX0, "areAlike", "(II)Z"⟩
abbrev cX0_same : ByteArray := prog_2_method_3_code
def yX0_same : MethodName := ⟨RX0, "same", "(III)Z"⟩
abbrev cX0_sameName : ByteArray := prog_2_method_4_code
def yX0_sameName : MethodName := ⟨RX0, "sameName", "(II)Z"⟩
abbrev cX0_sameUnder : ByteArray := prog_2_method_5_code
def yX0_sameUnder : MethodName := ⟨RX0, "sameUnder", "(IIIII)Z"⟩
def RX1 : String := "CoreTerms$Dropper"
def TX1 : u_T := fun k => match k with
  | _ => ("CoreTerms$Dropper", "terms", "LCoreTerms$Terms;", true)
def tyX1 : Nat → FieldType := fun k => match k with
  | _ => .object "CoreTerms$Terms"
abbrev wsX10 : List Cond := u_ws RX1 TX1 1
theorem nmX1 : ∀ a, a < 1 → ∀ b, b < 1 → a ≠ b → (TX1 a).2.1 ≠ (TX1 b).2.1 := by decide +kernel
theorem tyX1_ok : ∀ k, k < 1 → parseFieldDescriptor (TX1 k).2.2.1 = some (tyX1 k) := by decide +kernel
abbrev cX1_init : ByteArray := prog_3_method_1_code
def yX1_init : MethodName := ⟨RX1, "<init>", "(LCoreTerms$Terms;)V"⟩
abbrev cX1_withoutLets : ByteArray := prog_3_method_2_code
def yX1_withoutLets : MethodName := ⟨RX1, "withoutLets", "(I)I"⟩
def RX2 : String := "CoreTerms$Printer"
def TX2 : u_T := fun k => match k with
  | 0 => ("CoreTerms$Printer", "types", "LCoreTerms$Types;", true)
  | 1 => ("CoreTerms$Printer", "terms", "LCoreTerms$Terms;", true)
  | 2 => ("CoreTerms$Printer", "bytes", "[B", true)
  | _ => ("CoreTerms$Printer", "length", "I", false)
def tyX2 : Nat → FieldType := fun k => match k with
  | 0 => .object "CoreTerms$Types"
  | 1 => .object "CoreTerms$Terms"
  | 2 => .array .byte
  | _ => .int
abbrev wsX20 : List Cond := u_ws RX2 TX2 4
theorem nmX2 : ∀ a, a < 4 → ∀ b, b < 4 → a ≠ b → (TX2 a).2.1 ≠ (TX2 b).2.1 := by decide +kernel
theorem tyX2_ok : ∀ k, k < 4 → parseFieldDescriptor (TX2 k).2.2.1 = some (tyX2 k) := by decide +kernel
abbrev cX2_init : ByteArray := prog_4_method_1_code
def yX2_init : MethodName := ⟨RX2, "<init>", "(LCoreTerms$Types;LCoreTerms$Terms;)V"⟩
abbrev cX2_printLength : ByteArray := prog_4_method_2_code
def yX2_printLength : MethodName := ⟨RX2, "printLength", "()I"⟩
abbrev cX2_byteAt : ByteArray := prog_4_method_3_code
def yX2_byteAt : MethodName := ⟨RX2, "byteAt", "(I)I"⟩
abbrev cX2_show : ByteArray := prog_4_method_4_code
def yX2_show : MethodName := ⟨RX2, "show", "(I)I"⟩
abbrev cX2_writeTerm : ByteArray := prog_4_method_5_code
def yX2_writeTerm : MethodName := ⟨RX2, "writeTerm", "(I)V"⟩
abbrev cX2_writeNumber : ByteArray := prog_4_method_6_code
def yX2_writeNumber : MethodName := ⟨RX2, "writeNumber", "(II)V"⟩
abbrev cX2_writeFunction : ByteArray := prog_4_method_7_code
def yX2_writeFunction : MethodName := ⟨RX2, "writeFunction", "(I)V"⟩
abbrev cX2_writeLet : ByteArray := prog_4_method_8_code
def yX2_writeLet : MethodName := ⟨RX2, "writeLet", "(I)V"⟩
abbrev cX2_writePair : ByteArray := prog_4_method_9_code
def yX2_writePair : MethodName := ⟨RX2, "writePair", "(II)V"⟩
abbrev cX2_writeChoice : ByteArray := prog_4_method_10_code
def yX2_writeChoice : MethodName := ⟨RX2, "writeChoice", "(I)V"⟩
abbrev cX2_writeType : ByteArray := prog_4_method_11_code
def yX2_writeType : MethodName := ⟨RX2, "writeType", "(I)V"⟩
abbrev cX2_writeLetter : ByteArray := prog_4_method_12_code
def yX2_writeLetter : MethodName := ⟨RX2, "writeLetter", "(I)V"⟩
abbrev cX2_write : ByteArray := prog_4_method_13_code
def yX2_write : MethodName := ⟨RX2, "write", "(I)V"⟩
def RX3 : String := "CoreTerms$Putter"
def TX3 : u_T := fun k => match k with
  | _ => ("CoreTerms$Putter", "terms", "LCoreTerms$Terms;", true)
def tyX3 : Nat → FieldType := fun k => match k with
  | _ => .object "CoreTerms$Terms"
abbrev wsX30 : List Cond := u_ws RX3 TX3 1
theorem nmX3 : ∀ a, a < 1 → ∀ b, b < 1 → a ≠ b → (TX3 a).2.1 ≠ (TX3 b).2.1 := by decide +kernel
theorem tyX3_ok : ∀ k, k < 1 → parseFieldDescriptor (TX3 k).2.2.1 = some (tyX3 k) := by decide +kernel
abbrev cX3_init : ByteArray := prog_5_method_1_code
def yX3_init : MethodName := ⟨RX3, "<init>", "(LCoreTerms$Terms;)V"⟩
abbrev cX3_into : ByteArray := prog_5_method_2_code
def yX3_into : MethodName := ⟨RX3, "into", "(III)I"⟩
abbrev cX3_intoParts : ByteArray := prog_5_method_3_code
def yX3_intoParts : MethodName := ⟨RX3, "intoParts", "(III)I"⟩
abbrev cX3_intoFunction : ByteArray := prog_5_method_4_code
def yX3_intoFunction : MethodName := ⟨RX3, "intoFunction", "(III)I"⟩
abbrev cX3_intoLet : ByteArray := prog_5_method_5_code
def yX3_intoLet : MethodName := ⟨RX3, "intoLet", "(III)I"⟩
abbrev cX3_letterFor : ByteArray := prog_5_method_6_code
def yX3_letterFor : MethodName := ⟨RX3, "letterFor", "(III)I"⟩
abbrev cX3_intoBody : ByteArray := prog_5_method_7_code
def yX3_intoBody : MethodName := ⟨RX3, "intoBody", "(IIIII)I"⟩
def RX4 : String := "CoreTerms$Reader"
def TX4 : u_T := fun k => match k with
  | 0 => ("CoreTerms$Reader", "types", "LCoreTerms$Types;", true)
  | 1 => ("CoreTerms$Reader", "terms", "LCoreTerms$Terms;", true)
  | 2 => ("CoreTerms$Reader", "tape", "[B", true)
  | 3 => ("CoreTerms$Reader", "length", "I", false)
  | _ => ("CoreTerms$Reader", "place", "I", false)
def tyX4 : Nat → FieldType := fun k => match k with
  | 0 => .object "CoreTerms$Types"
  | 1 => .object "CoreTerms$Terms"
  | 2 => .array .byte
  | 3 => .int
  | _ => .int
abbrev wsX40 : List Cond := u_ws RX4 TX4 5
theorem nmX4 : ∀ a, a < 5 → ∀ b, b < 5 → a ≠ b → (TX4 a).2.1 ≠ (TX4 b).2.1 := by decide +kernel
theorem tyX4_ok : ∀ k, k < 5 → parseFieldDescriptor (TX4 k).2.2.1 = some (tyX4 k) := by decide +kernel
abbrev cX4_init : ByteArray := prog_6_method_1_code
def yX4_init : MethodName := ⟨RX4, "<init>", "(LCoreTerms$Types;LCoreTerms$Terms;)V"⟩
abbrev cX4_tapeLength : ByteArray := prog_6_method_2_code
def yX4_tapeLength : MethodName := ⟨RX4, "tapeLength", "()I"⟩
abbrev cX4_addBytes : ByteArray := prog_6_method_3_code
def yX4_addBytes : MethodName := ⟨RX4, "addBytes", "(JI)I"⟩
abbrev cX4_takeFrom : ByteArray := prog_6_method_4_code
def yX4_takeFrom : MethodName := ⟨RX4, "takeFrom", "(LCoreTerms$Printer;)I"⟩
abbrev cX4_wholeTape : ByteArray := prog_6_method_5_code
def yX4_wholeTape : MethodName := ⟨RX4, "wholeTape", "()I"⟩
abbrev cX4_add : ByteArray := prog_6_method_6_code
def yX4_add : MethodName := ⟨RX4, "add", "(I)V"⟩
abbrev cX4_termHere : ByteArray := prog_6_method_7_code
def yX4_termHere : MethodName := ⟨RX4, "termHere", "(I)I"⟩
abbrev cX4_nameHere : ByteArray := prog_6_method_8_code
def yX4_nameHere : MethodName := ⟨RX4, "nameHere", "()I"⟩
abbrev cX4_numberHere : ByteArray := prog_6_method_9_code
def yX4_numberHere : MethodName := ⟨RX4, "numberHere", "()I"⟩
abbrev cX4_functionHere : ByteArray := prog_6_method_10_code
def yX4_functionHere : MethodName := ⟨RX4, "functionHere", "(I)I"⟩
abbrev cX4_pairHere : ByteArray := prog_6_method_11_code
def yX4_pairHere : MethodName := ⟨RX4, "pairHere", "(I)I"⟩
abbrev cX4_letHere : ByteArray := prog_6_method_12_code
def yX4_letHere : MethodName := ⟨RX4, "letHere", "(I)I"⟩
abbrev cX4_choiceHere : ByteArray := prog_6_method_13_code
def yX4_choiceHere : MethodName := ⟨RX4, "choiceHere", "(I)I"⟩
abbrev cX4_typeHere : ByteArray := prog_6_method_14_code
def yX4_typeHere : MethodName := ⟨RX4, "typeHere", "(I)I"⟩
abbrev cX4_termBehind : ByteArray := prog_6_method_15_code
def yX4_termBehind : MethodName := ⟨RX4, "termBehind", "(II)I"⟩
abbrev cX4_typeBehind : ByteArray := prog_6_method_16_code
def yX4_typeBehind : MethodName := ⟨RX4, "typeBehind", "(II)I"⟩
abbrev cX4_letterBehind : ByteArray := prog_6_method_17_code
def yX4_letterBehind : MethodName := ⟨RX4, "letterBehind", "(I)I"⟩
abbrev cX4_pass : ByteArray := prog_6_method_18_code
def yX4_pass : MethodName := ⟨RX4, "pass", "(I)I"⟩
abbrev cX4_byteHere : ByteArray := prog_6_method_19_code
def yX4_byteHere : MethodName := ⟨RX4, "byteHere", "()I"⟩
abbrev cX4_wrongHere : ByteArray := prog_6_method_20_code
def yX4_wrongHere : MethodName := ⟨RX4, "wrongHere", "()I"⟩
abbrev cX4_beginsTerm : ByteArray := prog_6_method_21_code
def yX4_beginsTerm : MethodName := ⟨RX4, "beginsTerm", "(I)Z"⟩
abbrev cX4_beginsType : ByteArray := prog_6_method_22_code
def yX4_beginsType : MethodName := ⟨RX4, "beginsType", "(I)Z"⟩
abbrev cX4_isDigit : ByteArray := prog_6_method_23_code
def yX4_isDigit : MethodName := ⟨RX4, "isDigit", "(I)Z"⟩
def RX5 : String := "CoreTerms$Stepper"
def TX5 : u_T := fun k => match k with
  | 0 => ("CoreTerms$Stepper", "terms", "LCoreTerms$Terms;", true)
  | _ => ("CoreTerms$Stepper", "putter", "LCoreTerms$Putter;", true)
def tyX5 : Nat → FieldType := fun k => match k with
  | 0 => .object "CoreTerms$Terms"
  | _ => .object "CoreTerms$Putter"
abbrev wsX50 : List Cond := u_ws RX5 TX5 2
theorem nmX5 : ∀ a, a < 2 → ∀ b, b < 2 → a ≠ b → (TX5 a).2.1 ≠ (TX5 b).2.1 := by decide +kernel
theorem tyX5_ok : ∀ k, k < 2 → parseFieldDescriptor (TX5 k).2.2.1 = some (tyX5 k) := by decide +kernel
abbrev cX5_init : ByteArray := prog_7_method_1_code
def yX5_init : MethodName := ⟨RX5, "<init>", "(LCoreTerms$Terms;LCoreTerms$Putter;)V"⟩
abbrev cX5_stepOf : ByteArray := prog_7_method_2_code
def yX5_stepOf : MethodName := ⟨RX5, "stepOf", "(I)I"⟩
abbrev cX5_stepOfCall : ByteArray := prog_7_method_3_code
def yX5_stepOfCall : MethodName := ⟨RX5, "stepOfCall", "(I)I"⟩
abbrev cX5_stepOfSum : ByteArray := prog_7_method_4_code
def yX5_stepOfSum : MethodName := ⟨RX5, "stepOfSum", "(I)I"⟩
abbrev cX5_stepOfChoice : ByteArray := prog_7_method_5_code
def yX5_stepOfChoice : MethodName := ⟨RX5, "stepOfChoice", "(I)I"⟩
abbrev cX5_stepOfFirst : ByteArray := prog_7_method_6_code
def yX5_stepOfFirst : MethodName := ⟨RX5, "stepOfFirst", "(I)I"⟩
def RX6 : String := "CoreTerms$Terms"
def TX6 : u_T := fun k => match k with
  | 0 => ("CoreTerms$Terms", "types", "LCoreTerms$Types;", true)
  | 1 => ("CoreTerms$Terms", "kind", "[I", true)
  | 2 => ("CoreTerms$Terms", "number", "[I", true)
  | 3 => ("CoreTerms$Terms", "letter", "[I", true)
  | 4 => ("CoreTerms$Terms", "type", "[I", true)
  | 5 => ("CoreTerms$Terms", "first", "[I", true)
  | 6 => ("CoreTerms$Terms", "second", "[I", true)
  | 7 => ("CoreTerms$Terms", "third", "[I", true)
  | 8 => ("CoreTerms$Terms", "size", "[I", true)
  | 9 => ("CoreTerms$Terms", "depth", "[I", true)
  | 10 => ("CoreTerms$Terms", "freeLetters", "[I", true)
  | 11 => ("CoreTerms$Terms", "width", "[I", true)
  | _ => ("CoreTerms$Terms", "total", "I", false)
def tyX6 : Nat → FieldType := fun k => match k with
  | 0 => .object "CoreTerms$Types"
  | 1 => .array .int
  | 2 => .array .int
  | 3 => .array .int
  | 4 => .array .int
  | 5 => .array .int
  | 6 => .array .int
  | 7 => .array .int
  | 8 => .array .int
  | 9 => .array .int
  | 10 => .array .int
  | 11 => .array .int
  | _ => .int
abbrev wsX60 : List Cond := u_ws RX6 TX6 13
theorem nmX6 : ∀ a, a < 13 → ∀ b, b < 13 → a ≠ b → (TX6 a).2.1 ≠ (TX6 b).2.1 := by decide +kernel
theorem tyX6_ok : ∀ k, k < 13 → parseFieldDescriptor (TX6 k).2.2.1 = some (tyX6 k) := by decide +kernel
abbrev cX6_init : ByteArray := prog_8_method_1_code
def yX6_init : MethodName := ⟨RX6, "<init>", "(LCoreTerms$Types;)V"⟩
abbrev cX6_total : ByteArray := prog_8_method_2_code
def yX6_total : MethodName := ⟨RX6, "total", "()I"⟩
abbrev cX6_has : ByteArray := prog_8_method_3_code
def yX6_has : MethodName := ⟨RX6, "has", "(I)Z"⟩
abbrev cX6_kindOf : ByteArray := prog_8_method_4_code
def yX6_kindOf : MethodName := ⟨RX6, "kindOf", "(I)I"⟩
abbrev cX6_numberOf : ByteArray := prog_8_method_5_code
def yX6_numberOf : MethodName := ⟨RX6, "numberOf", "(I)I"⟩
abbrev cX6_letterOf : ByteArray := prog_8_method_6_code
def yX6_letterOf : MethodName := ⟨RX6, "letterOf", "(I)I"⟩
abbrev cX6_typeOf : ByteArray := prog_8_method_7_code
def yX6_typeOf : MethodName := ⟨RX6, "typeOf", "(I)I"⟩
abbrev cX6_firstOf : ByteArray := prog_8_method_8_code
def yX6_firstOf : MethodName := ⟨RX6, "firstOf", "(I)I"⟩
abbrev cX6_secondOf : ByteArray := prog_8_method_9_code
def yX6_secondOf : MethodName := ⟨RX6, "secondOf", "(I)I"⟩
abbrev cX6_thirdOf : ByteArray := prog_8_method_10_code
def yX6_thirdOf : MethodName := ⟨RX6, "thirdOf", "(I)I"⟩
abbrev cX6_sizeOf : ByteArray := prog_8_method_11_code
def yX6_sizeOf : MethodName := ⟨RX6, "sizeOf", "(I)I"⟩
abbrev cX6_depthOf : ByteArray := prog_8_method_12_code
def yX6_depthOf : MethodName := ⟨RX6, "depthOf", "(I)I"⟩
abbrev cX6_freeLettersOf : ByteArray := prog_8_method_13_code
def yX6_freeLettersOf : MethodName := ⟨RX6, "freeLettersOf", "(I)I"⟩
abbrev cX6_widthOf : ByteArray := prog_8_method_14_code
def yX6_widthOf : MethodName := ⟨RX6, "widthOf", "(I)I"⟩
abbrev cX6_isFree : ByteArray := prog_8_method_15_code
def yX6_isFree : MethodName := ⟨RX6, "isFree", "(II)Z"⟩
abbrev cX6_usesOf : ByteArray := prog_8_method_16_code
def yX6_usesOf : MethodName := ⟨RX6, "usesOf", "(II)I"⟩
abbrev cX6_newNumber : ByteArray := prog_8_method_17_code
def yX6_newNumber : MethodName := ⟨RX6, "newNumber", "(I)I"⟩
abbrev cX6_newName : ByteArray := prog_8_method_18_code
def yX6_newName : MethodName := ⟨RX6, "newName", "(I)I"⟩
abbrev cX6_newFunction : ByteArray := prog_8_method_19_code
def yX6_newFunction : MethodName := ⟨RX6, "newFunction", "(III)I"⟩
abbrev cX6_newLet : ByteArray := prog_8_method_20_code
def yX6_newLet : MethodName := ⟨RX6, "newLet", "(III)I"⟩
abbrev cX6_newJoined : ByteArray := prog_8_method_21_code
def yX6_newJoined : MethodName := ⟨RX6, "newJoined", "(IIII)I"⟩
abbrev cX6_withParts : ByteArray := prog_8_method_22_code
def yX6_withParts : MethodName := ⟨RX6, "withParts", "(IIIII)I"⟩
abbrev cX6_cutTo : ByteArray := prog_8_method_23_code
def yX6_cutTo : MethodName := ⟨RX6, "cutTo", "(I)V"⟩
abbrev cX6_made : ByteArray := prog_8_method_24_code
def yX6_made : MethodName := ⟨RX6, "made", "(IIIIII)I"⟩
abbrev cX6_freeLettersFor : ByteArray := prog_8_method_25_code
def yX6_freeLettersFor : MethodName := ⟨RX6, "freeLettersFor", "(IIIII)I"⟩
abbrev cX6_marksOf : ByteArray := prog_8_method_26_code
def yX6_marksOf : MethodName := ⟨RX6, "marksOf", "(I)I"⟩
abbrev cX6_digitsOf : ByteArray := prog_8_method_27_code
def yX6_digitsOf : MethodName := ⟨RX6, "digitsOf", "(I)I"⟩
abbrev cX6_bit : ByteArray := prog_8_method_28_code
def yX6_bit : MethodName := ⟨RX6, "bit", "(I)I"⟩
def RX7 : String := "CoreTerms$Types"
def TX7 : u_T := fun k => match k with
  | 0 => ("CoreTerms$Types", "from", "[I", true)
  | 1 => ("CoreTerms$Types", "to", "[I", true)
  | 2 => ("CoreTerms$Types", "length", "[I", true)
  | _ => ("CoreTerms$Types", "total", "I", false)
def tyX7 : Nat → FieldType := fun k => match k with
  | 0 => .array .int
  | 1 => .array .int
  | 2 => .array .int
  | _ => .int
abbrev wsX70 : List Cond := u_ws RX7 TX7 4
theorem nmX7 : ∀ a, a < 4 → ∀ b, b < 4 → a ≠ b → (TX7 a).2.1 ≠ (TX7 b).2.1 := by decide +kernel
theorem tyX7_ok : ∀ k, k < 4 → parseFieldDescriptor (TX7 k).2.2.1 = some (tyX7 k) := by decide +kernel
abbrev cX7_init : ByteArray := prog_9_method_1_code
def yX7_init : MethodName := ⟨RX7, "<init>", "()V"⟩
abbrev cX7_total : ByteArray := prog_9_method_2_code
def yX7_total : MethodName := ⟨RX7, "total", "()I"⟩
abbrev cX7_has : ByteArray := prog_9_method_3_code
def yX7_has : MethodName := ⟨RX7, "has", "(I)Z"⟩
abbrev cX7_fromOf : ByteArray := prog_9_method_4_code
def yX7_fromOf : MethodName := ⟨RX7, "fromOf", "(I)I"⟩
abbrev cX7_toOf : ByteArray := prog_9_method_5_code
def yX7_toOf : MethodName := ⟨RX7, "toOf", "(I)I"⟩
abbrev cX7_lengthOf : ByteArray := prog_9_method_6_code
def yX7_lengthOf : MethodName := ⟨RX7, "lengthOf", "(I)I"⟩
abbrev cX7_arrowOf : ByteArray := prog_9_method_7_code
def yX7_arrowOf : MethodName := ⟨RX7, "arrowOf", "(II)I"⟩
abbrev cX7_cutTo : ByteArray := prog_9_method_8_code
def yX7_cutTo : MethodName := ⟨RX7, "cutTo", "(I)V"⟩
def RX8 : String := "CoreTerms$Typist"
def TX8 : u_T := fun k => match k with
  | 0 => ("CoreTerms$Typist", "types", "LCoreTerms$Types;", true)
  | 1 => ("CoreTerms$Typist", "terms", "LCoreTerms$Terms;", true)
  | 2 => ("CoreTerms$Typist", "declared", "[I", true)
  | 3 => ("CoreTerms$Typist", "known", "[I", true)
  | 4 => ("CoreTerms$Typist", "fault", "I", false)
  | _ => ("CoreTerms$Typist", "faultAt", "I", false)
def tyX8 : Nat → FieldType := fun k => match k with
  | 0 => .object "CoreTerms$Types"
  | 1 => .object "CoreTerms$Terms"
  | 2 => .array .int
  | 3 => .array .int
  | 4 => .int
  | _ => .int
abbrev wsX80 : List Cond := u_ws RX8 TX8 6
theorem nmX8 : ∀ a, a < 6 → ∀ b, b < 6 → a ≠ b → (TX8 a).2.1 ≠ (TX8 b).2.1 := by decide +kernel
theorem tyX8_ok : ∀ k, k < 6 → parseFieldDescriptor (TX8 k).2.2.1 = some (tyX8 k) := by decide +kernel
abbrev cX8_init : ByteArray := prog_10_method_1_code
def yX8_init : MethodName := ⟨RX8, "<init>", "(LCoreTerms$Types;LCoreTerms$Terms;)V"⟩
abbrev cX8_setDeclared : ByteArray := prog_10_method_2_code
def yX8_setDeclared : MethodName := ⟨RX8, "setDeclared", "(II)V"⟩
abbrev cX8_latestFault : ByteArray := prog_10_method_3_code
def yX8_latestFault : MethodName := ⟨RX8, "latestFault", "()I"⟩
abbrev cX8_latestFaultAt : ByteArray := prog_10_method_4_code
def yX8_latestFaultAt : MethodName := ⟨RX8, "latestFaultAt", "()I"⟩
abbrev cX8_wholeTypeOf : ByteArray := prog_10_method_5_code
def yX8_wholeTypeOf : MethodName := ⟨RX8, "wholeTypeOf", "(I)I"⟩
abbrev cX8_typeFor : ByteArray := prog_10_method_6_code
def yX8_typeFor : MethodName := ⟨RX8, "typeFor", "(I)I"⟩
abbrev cX8_typeForName : ByteArray := prog_10_method_7_code
def yX8_typeForName : MethodName := ⟨RX8, "typeForName", "(I)I"⟩
abbrev cX8_typeForFunction : ByteArray := prog_10_method_8_code
def yX8_typeForFunction : MethodName := ⟨RX8, "typeForFunction", "(I)I"⟩
abbrev cX8_typeForCall : ByteArray := prog_10_method_9_code
def yX8_typeForCall : MethodName := ⟨RX8, "typeForCall", "(I)I"⟩
abbrev cX8_typeForLet : ByteArray := prog_10_method_10_code
def yX8_typeForLet : MethodName := ⟨RX8, "typeForLet", "(I)I"⟩
abbrev cX8_typeForSum : ByteArray := prog_10_method_11_code
def yX8_typeForSum : MethodName := ⟨RX8, "typeForSum", "(I)I"⟩
abbrev cX8_typeForChoice : ByteArray := prog_10_method_12_code
def yX8_typeForChoice : MethodName := ⟨RX8, "typeForChoice", "(I)I"⟩
abbrev cX8_typeThatIs : ByteArray := prog_10_method_13_code
def yX8_typeThatIs : MethodName := ⟨RX8, "typeThatIs", "(II)I"⟩
abbrev cX8_typeUnder : ByteArray := prog_10_method_14_code
def yX8_typeUnder : MethodName := ⟨RX8, "typeUnder", "(III)I"⟩
abbrev cX8_knownOf : ByteArray := prog_10_method_15_code
def yX8_knownOf : MethodName := ⟨RX8, "knownOf", "(I)I"⟩
abbrev cX8_setKnown : ByteArray := prog_10_method_16_code
def yX8_setKnown : MethodName := ⟨RX8, "setKnown", "(II)V"⟩
abbrev cX8_faulty : ByteArray := prog_10_method_17_code
def yX8_faulty : MethodName := ⟨RX8, "faulty", "(II)I"⟩
def RX9 : String := "CoreTerms"
def TX9 : u_T := fun k => match k with
  | 0 => ("CoreTerms", "types", "LCoreTerms$Types;", true)
  | 1 => ("CoreTerms", "terms", "LCoreTerms$Terms;", true)
  | 2 => ("CoreTerms", "typist", "LCoreTerms$Typist;", true)
  | 3 => ("CoreTerms", "comparer", "LCoreTerms$Comparer;", true)
  | 4 => ("CoreTerms", "putter", "LCoreTerms$Putter;", true)
  | 5 => ("CoreTerms", "stepper", "LCoreTerms$Stepper;", true)
  | 6 => ("CoreTerms", "dropper", "LCoreTerms$Dropper;", true)
  | 7 => ("CoreTerms", "printer", "LCoreTerms$Printer;", true)
  | 8 => ("CoreTerms", "reader", "LCoreTerms$Reader;", true)
  | _ => ("CoreTerms", "stepsRun", "I", false)
def tyX9 : Nat → FieldType := fun k => match k with
  | 0 => .object "CoreTerms$Types"
  | 1 => .object "CoreTerms$Terms"
  | 2 => .object "CoreTerms$Typist"
  | 3 => .object "CoreTerms$Comparer"
  | 4 => .object "CoreTerms$Putter"
  | 5 => .object "CoreTerms$Stepper"
  | 6 => .object "CoreTerms$Dropper"
  | 7 => .object "CoreTerms$Printer"
  | 8 => .object "CoreTerms$Reader"
  | _ => .int
abbrev wsX90 : List Cond := u_ws RX9 TX9 10
theorem nmX9 : ∀ a, a < 10 → ∀ b, b < 10 → a ≠ b → (TX9 a).2.1 ≠ (TX9 b).2.1 := by decide +kernel
theorem tyX9_ok : ∀ k, k < 10 → parseFieldDescriptor (TX9 k).2.2.1 = some (tyX9 k) := by decide +kernel
abbrev cX9_init : ByteArray := prog_1_method_1_code
def yX9_init : MethodName := ⟨RX9, "<init>", "()V"⟩
abbrev cX9_arrow : ByteArray := prog_1_method_2_code
def yX9_arrow : MethodName := ⟨RX9, "arrow", "(II)I"⟩
abbrev cX9_side : ByteArray := prog_1_method_3_code
def yX9_side : MethodName := ⟨RX9, "side", "(II)I"⟩
abbrev cX9_declare : ByteArray := prog_1_method_4_code
def yX9_declare : MethodName := ⟨RX9, "declare", "(II)I"⟩
abbrev cX9_number : ByteArray := prog_1_method_5_code
def yX9_number : MethodName := ⟨RX9, "number", "(I)I"⟩
abbrev cX9_name : ByteArray := prog_1_method_6_code
def yX9_name : MethodName := ⟨RX9, "name", "(I)I"⟩
abbrev cX9_function : ByteArray := prog_1_method_7_code
def yX9_function : MethodName := ⟨RX9, "function", "(III)I"⟩
abbrev cX9_let : ByteArray := prog_1_method_8_code
def yX9_let : MethodName := ⟨RX9, "let", "(III)I"⟩
abbrev cX9_join : ByteArray := prog_1_method_9_code
def yX9_join : MethodName := ⟨RX9, "join", "(IIII)I"⟩
abbrev cX9_told : ByteArray := prog_1_method_10_code
def yX9_told : MethodName := ⟨RX9, "told", "(II)J"⟩
abbrev cX9_free : ByteArray := prog_1_method_11_code
def yX9_free : MethodName := ⟨RX9, "free", "(I)I"⟩
abbrev cX9_uses : ByteArray := prog_1_method_12_code
def yX9_uses : MethodName := ⟨RX9, "uses", "(II)I"⟩
abbrev cX9_type : ByteArray := prog_1_method_13_code
def yX9_type : MethodName := ⟨RX9, "type", "(I)I"⟩
abbrev cX9_fault : ByteArray := prog_1_method_14_code
def yX9_fault : MethodName := ⟨RX9, "fault", "(I)I"⟩
abbrev cX9_alike : ByteArray := prog_1_method_15_code
def yX9_alike : MethodName := ⟨RX9, "alike", "(II)I"⟩
abbrev cX9_least : ByteArray := prog_1_method_16_code
def yX9_least : MethodName := ⟨RX9, "least", "(I)I"⟩
abbrev cX9_put : ByteArray := prog_1_method_17_code
def yX9_put : MethodName := ⟨RX9, "put", "(III)I"⟩
abbrev cX9_step : ByteArray := prog_1_method_18_code
def yX9_step : MethodName := ⟨RX9, "step", "(I)I"⟩
abbrev cX9_run : ByteArray := prog_1_method_19_code
def yX9_run : MethodName := ⟨RX9, "run", "(II)I"⟩
abbrev cX9_ran : ByteArray := prog_1_method_20_code
def yX9_ran : MethodName := ⟨RX9, "ran", "()I"⟩
abbrev cX9_drop : ByteArray := prog_1_method_21_code
def yX9_drop : MethodName := ⟨RX9, "drop", "(I)I"⟩
abbrev cX9_print : ByteArray := prog_1_method_22_code
def yX9_print : MethodName := ⟨RX9, "print", "(I)I"⟩
abbrev cX9_at : ByteArray := prog_1_method_23_code
def yX9_at : MethodName := ⟨RX9, "at", "(I)I"⟩
abbrev cX9_feed : ByteArray := prog_1_method_24_code
def yX9_feed : MethodName := ⟨RX9, "feed", "(JI)I"⟩
abbrev cX9_copy : ByteArray := prog_1_method_25_code
def yX9_copy : MethodName := ⟨RX9, "copy", "()I"⟩
abbrev cX9_read : ByteArray := prog_1_method_26_code
def yX9_read : MethodName := ⟨RX9, "read", "()I"⟩
abbrev cX9_count : ByteArray := prog_1_method_27_code
def yX9_count : MethodName := ⟨RX9, "count", "(I)I"⟩
abbrev cX9_clear : ByteArray := prog_1_method_28_code
def yX9_clear : MethodName := ⟨RX9, "clear", "()I"⟩
abbrev cX9_keptOrUndone : ByteArray := prog_1_method_29_code
def yX9_keptOrUndone : MethodName := ⟨RX9, "keptOrUndone", "(II)I"⟩
abbrev cX9_isLetter : ByteArray := prog_1_method_30_code
def yX9_isLetter : MethodName := ⟨RX9, "isLetter", "(I)Z"⟩
def RX10 : String := "CoreTermsModel"
def TX10 : u_T := fun k => match k with
  | 0 => ("CoreTermsModel", "types", "I", false)
  | 1 => ("CoreTermsModel", "from", "[I", true)
  | 2 => ("CoreTermsModel", "to", "[I", true)
  | 3 => ("CoreTermsModel", "lengths", "[I", true)
  | 4 => ("CoreTermsModel", "declared", "[I", true)
  | 5 => ("CoreTermsModel", "terms", "I", false)
  | 6 => ("CoreTermsModel", "kinds", "[I", true)
  | 7 => ("CoreTermsModel", "numbers", "[I", true)
  | 8 => ("CoreTermsModel", "letters", "[I", true)
  | 9 => ("CoreTermsModel", "typeOf", "[I", true)
  | 10 => ("CoreTermsModel", "parts", "[I", true)
  | 11 => ("CoreTermsModel", "sizes", "[I", true)
  | 12 => ("CoreTermsModel", "depths", "[I", true)
  | 13 => ("CoreTermsModel", "frees", "[I", true)
  | 14 => ("CoreTermsModel", "top", "I", false)
  | 15 => ("CoreTermsModel", "pileTerm", "[I", true)
  | 16 => ("CoreTermsModel", "pileStage", "[I", true)
  | 17 => ("CoreTermsModel", "pileA", "[I", true)
  | 18 => ("CoreTermsModel", "pileB", "[I", true)
  | 19 => ("CoreTermsModel", "pileC", "[I", true)
  | 20 => ("CoreTermsModel", "pileX", "[I", true)
  | 21 => ("CoreTermsModel", "pileU", "[I", true)
  | 22 => ("CoreTermsModel", "got", "I", false)
  | 23 => ("CoreTermsModel", "env", "[I", true)
  | 24 => ("CoreTermsModel", "fault", "I", false)
  | 25 => ("CoreTermsModel", "faultAt", "I", false)
  | 26 => ("CoreTermsModel", "ofOne", "[I", true)
  | 27 => ("CoreTermsModel", "ofOther", "[I", true)
  | 28 => ("CoreTermsModel", "binders", "I", false)
  | 29 => ("CoreTermsModel", "way", "[I", true)
  | 30 => ("CoreTermsModel", "wayPart", "[I", true)
  | 31 => ("CoreTermsModel", "ran", "I", false)
  | 32 => ("CoreTermsModel", "text", "[I", true)
  | 33 => ("CoreTermsModel", "textMany", "I", false)
  | 34 => ("CoreTermsModel", "page", "[I", true)
  | 35 => ("CoreTermsModel", "pageMany", "I", false)
  | 36 => ("CoreTermsModel", "isOver", "Z", false)
  | 37 => ("CoreTermsModel", "typePile", "[I", true)
  | 38 => ("CoreTermsModel", "typeStage", "[I", true)
  | 39 => ("CoreTermsModel", "tape", "[I", true)
  | 40 => ("CoreTermsModel", "tapeMany", "I", false)
  | 41 => ("CoreTermsModel", "place", "I", false)
  | _ => ("CoreTermsModel", "fails", "I", false)
def tyX10 : Nat → FieldType := fun k => match k with
  | 0 => .int
  | 1 => .array .int
  | 2 => .array .int
  | 3 => .array .int
  | 4 => .array .int
  | 5 => .int
  | 6 => .array .int
  | 7 => .array .int
  | 8 => .array .int
  | 9 => .array .int
  | 10 => .array .int
  | 11 => .array .int
  | 12 => .array .int
  | 13 => .array .int
  | 14 => .int
  | 15 => .array .int
  | 16 => .array .int
  | 17 => .array .int
  | 18 => .array .int
  | 19 => .array .int
  | 20 => .array .int
  | 21 => .array .int
  | 22 => .int
  | 23 => .array .int
  | 24 => .int
  | 25 => .int
  | 26 => .array .int
  | 27 => .array .int
  | 28 => .int
  | 29 => .array .int
  | 30 => .array .int
  | 31 => .int
  | 32 => .array .int
  | 33 => .int
  | 34 => .array .int
  | 35 => .int
  | 36 => .boolean
  | 37 => .array .int
  | 38 => .array .int
  | 39 => .array .int
  | 40 => .int
  | 41 => .int
  | _ => .int
abbrev wsX100 : List Cond := u_ws RX10 TX10 43
theorem nmX10 : ∀ a, a < 43 → ∀ b, b < 43 → a ≠ b → (TX10 a).2.1 ≠ (TX10 b).2.1 := by decide +kernel
theorem tyX10_ok : ∀ k, k < 43 → parseFieldDescriptor (TX10 k).2.2.1 = some (tyX10 k) := by decide +kernel
abbrev cX10_in : ByteArray := prog_12_method_2_code
def yX10_in : MethodName := ⟨RX10, "in", "(III)Z"⟩
abbrev cX10_isLetter : ByteArray := prog_12_method_3_code
def yX10_isLetter : MethodName := ⟨RX10, "isLetter", "(I)Z"⟩
abbrev cX10_init : ByteArray := prog_12_method_4_code
def yX10_init : MethodName := ⟨RX10, "<init>", "()V"⟩
abbrev cX10_isType : ByteArray := prog_12_method_5_code
def yX10_isType : MethodName := ⟨RX10, "isType", "(I)Z"⟩
abbrev cX10_arrowOf : ByteArray := prog_12_method_6_code
def yX10_arrowOf : MethodName := ⟨RX10, "arrowOf", "(II)I"⟩
abbrev cX10_arrow : ByteArray := prog_12_method_7_code
def yX10_arrow : MethodName := ⟨RX10, "arrow", "(II)I"⟩
abbrev cX10_side : ByteArray := prog_12_method_8_code
def yX10_side : MethodName := ⟨RX10, "side", "(II)I"⟩
abbrev cX10_declare : ByteArray := prog_12_method_9_code
def yX10_declare : MethodName := ⟨RX10, "declare", "(II)I"⟩
abbrev cX10_isTerm : ByteArray := prog_12_method_10_code
def yX10_isTerm : MethodName := ⟨RX10, "isTerm", "(I)Z"⟩
abbrev cX10_partsOf : ByteArray := prog_12_method_11_code
def yX10_partsOf : MethodName := ⟨RX10, "partsOf", "(I)I"⟩
abbrev cX10_part : ByteArray := prog_12_method_12_code
def yX10_part : MethodName := ⟨RX10, "part", "(II)I"⟩
abbrev cX10_freeOf : ByteArray := prog_12_method_13_code
def yX10_freeOf : MethodName := ⟨RX10, "freeOf", "(II)I"⟩
abbrev cX10_isFree : ByteArray := prog_12_method_14_code
def yX10_isFree : MethodName := ⟨RX10, "isFree", "(II)Z"⟩
abbrev cX10_make : ByteArray := prog_12_method_15_code
def yX10_make : MethodName := ⟨RX10, "make", "(IIIIIII)I"⟩
abbrev cX10_number : ByteArray := prog_12_method_16_code
def yX10_number : MethodName := ⟨RX10, "number", "(I)I"⟩
abbrev cX10_name : ByteArray := prog_12_method_17_code
def yX10_name : MethodName := ⟨RX10, "name", "(I)I"⟩
abbrev cX10_function : ByteArray := prog_12_method_18_code
def yX10_function : MethodName := ⟨RX10, "function", "(III)I"⟩
abbrev cX10_let : ByteArray := prog_12_method_19_code
def yX10_let : MethodName := ⟨RX10, "let", "(III)I"⟩
abbrev cX10_join : ByteArray := prog_12_method_20_code
def yX10_join : MethodName := ⟨RX10, "join", "(IIII)I"⟩
abbrev cX10_told : ByteArray := prog_12_method_21_code
def yX10_told : MethodName := ⟨RX10, "told", "(II)J"⟩
abbrev cX10_free : ByteArray := prog_12_method_22_code
def yX10_free : MethodName := ⟨RX10, "free", "(I)I"⟩
abbrev cX10_uses : ByteArray := prog_12_method_23_code
def yX10_uses : MethodName := ⟨RX10, "uses", "(II)I"⟩
abbrev cX10_push : ByteArray := prog_12_method_24_code
def yX10_push : MethodName := ⟨RX10, "push", "(I)V"⟩
abbrev cX10_faults : ByteArray := prog_12_method_25_code
def yX10_faults : MethodName := ⟨RX10, "faults", "(II)V"⟩
abbrev cX10_binds : ByteArray := prog_12_method_26_code
def yX10_binds : MethodName := ⟨RX10, "binds", "(III)V"⟩
abbrev cX10_typeOfNumbers : ByteArray := prog_12_method_27_code
def yX10_typeOfNumbers : MethodName := ⟨RX10, "typeOfNumbers", "(III)V"⟩
abbrev cX10_typeOfCall : ByteArray := prog_12_method_28_code
def yX10_typeOfCall : MethodName := ⟨RX10, "typeOfCall", "(III)V"⟩
abbrev cX10_typeOfBinder : ByteArray := prog_12_method_29_code
def yX10_typeOfBinder : MethodName := ⟨RX10, "typeOfBinder", "(III)V"⟩
abbrev cX10_type : ByteArray := prog_12_method_30_code
def yX10_type : MethodName := ⟨RX10, "type", "(I)I"⟩
abbrev cX10_fault : ByteArray := prog_12_method_31_code
def yX10_fault : MethodName := ⟨RX10, "fault", "(I)I"⟩
abbrev cX10_areAlike : ByteArray := prog_12_method_32_code
def yX10_areAlike : MethodName := ⟨RX10, "areAlike", "(II)Z"⟩
abbrev cX10_isLikeHere : ByteArray := prog_12_method_33_code
def yX10_isLikeHere : MethodName := ⟨RX10, "isLikeHere", "(II)Z"⟩
abbrev cX10_alike : ByteArray := prog_12_method_34_code
def yX10_alike : MethodName := ⟨RX10, "alike", "(II)I"⟩
abbrev cX10_least : ByteArray := prog_12_method_35_code
def yX10_least : MethodName := ⟨RX10, "least", "(I)I"⟩
abbrev cX10_pushPut : ByteArray := prog_12_method_36_code
def yX10_pushPut : MethodName := ⟨RX10, "pushPut", "(III)V"⟩
abbrev cX10_newLetter : ByteArray := prog_12_method_37_code
def yX10_newLetter : MethodName := ⟨RX10, "newLetter", "(II)I"⟩
abbrev cX10_remade : ByteArray := prog_12_method_38_code
def yX10_remade : MethodName := ⟨RX10, "remade", "(IIIII)I"⟩
abbrev cX10_putBody : ByteArray := prog_12_method_39_code
def yX10_putBody : MethodName := ⟨RX10, "putBody", "(III)V"⟩
abbrev cX10_putParts : ByteArray := prog_12_method_40_code
def yX10_putParts : MethodName := ⟨RX10, "putParts", "(III)V"⟩
abbrev cX10_putTurn : ByteArray := prog_12_method_41_code
def yX10_putTurn : MethodName := ⟨RX10, "putTurn", "()V"⟩
abbrev cX10_putOf : ByteArray := prog_12_method_42_code
def yX10_putOf : MethodName := ⟨RX10, "putOf", "(III)I"⟩
abbrev cX10_put : ByteArray := prog_12_method_43_code
def yX10_put : MethodName := ⟨RX10, "put", "(III)I"⟩
abbrev cX10_partToStep : ByteArray := prog_12_method_44_code
def yX10_partToStep : MethodName := ⟨RX10, "partToStep", "(I)I"⟩
abbrev cX10_stepHere : ByteArray := prog_12_method_45_code
def yX10_stepHere : MethodName := ⟨RX10, "stepHere", "(I)I"⟩
abbrev cX10_stepOf : ByteArray := prog_12_method_46_code
def yX10_stepOf : MethodName := ⟨RX10, "stepOf", "(I)I"⟩
abbrev cX10_step : ByteArray := prog_12_method_47_code
def yX10_step : MethodName := ⟨RX10, "step", "(I)I"⟩
abbrev cX10_run : ByteArray := prog_12_method_48_code
def yX10_run : MethodName := ⟨RX10, "run", "(II)I"⟩
abbrev cX10_ran : ByteArray := prog_12_method_49_code
def yX10_ran : MethodName := ⟨RX10, "ran", "()I"⟩
abbrev cX10_dropTurn : ByteArray := prog_12_method_50_code
def yX10_dropTurn : MethodName := ⟨RX10, "dropTurn", "()V"⟩
abbrev cX10_drop : ByteArray := prog_12_method_51_code
def yX10_drop : MethodName := ⟨RX10, "drop", "(I)I"⟩
abbrev cX10_say : ByteArray := prog_12_method_52_code
def yX10_say : MethodName := ⟨RX10, "say", "(I)V"⟩
abbrev cX10_sayNumber : ByteArray := prog_12_method_53_code
def yX10_sayNumber : MethodName := ⟨RX10, "sayNumber", "(I)V"⟩
abbrev cX10_sayType : ByteArray := prog_12_method_54_code
def yX10_sayType : MethodName := ⟨RX10, "sayType", "(I)V"⟩
abbrev cX10_sayAt : ByteArray := prog_12_method_55_code
def yX10_sayAt : MethodName := ⟨RX10, "sayAt", "(II)V"⟩
abbrev cX10_print : ByteArray := prog_12_method_56_code
def yX10_print : MethodName := ⟨RX10, "print", "(I)I"⟩
abbrev cX10_at : ByteArray := prog_12_method_57_code
def yX10_at : MethodName := ⟨RX10, "at", "(I)I"⟩
abbrev cX10_feed : ByteArray := prog_12_method_58_code
def yX10_feed : MethodName := ⟨RX10, "feed", "(JI)I"⟩
abbrev cX10_copy : ByteArray := prog_12_method_59_code
def yX10_copy : MethodName := ⟨RX10, "copy", "()I"⟩
abbrev cX10_byteHere : ByteArray := prog_12_method_60_code
def yX10_byteHere : MethodName := ⟨RX10, "byteHere", "()I"⟩
abbrev cX10_must : ByteArray := prog_12_method_61_code
def yX10_must : MethodName := ⟨RX10, "must", "(I)V"⟩
abbrev cX10_mustLetter : ByteArray := prog_12_method_62_code
def yX10_mustLetter : MethodName := ⟨RX10, "mustLetter", "()I"⟩
abbrev cX10_made : ByteArray := prog_12_method_63_code
def yX10_made : MethodName := ⟨RX10, "made", "(I)V"⟩
abbrev cX10_readType : ByteArray := prog_12_method_64_code
def yX10_readType : MethodName := ⟨RX10, "readType", "()I"⟩
abbrev cX10_readNumber : ByteArray := prog_12_method_65_code
def yX10_readNumber : MethodName := ⟨RX10, "readNumber", "()V"⟩
abbrev cX10_readBegin : ByteArray := prog_12_method_66_code
def yX10_readBegin : MethodName := ⟨RX10, "readBegin", "()V"⟩
abbrev cX10_readPart : ByteArray := prog_12_method_67_code
def yX10_readPart : MethodName := ⟨RX10, "readPart", "()V"⟩
abbrev cX10_begins : ByteArray := prog_12_method_68_code
def yX10_begins : MethodName := ⟨RX10, "begins", "(I)Z"⟩
abbrev cX10_read : ByteArray := prog_12_method_69_code
def yX10_read : MethodName := ⟨RX10, "read", "()I"⟩
abbrev cX10_count : ByteArray := prog_12_method_70_code
def yX10_count : MethodName := ⟨RX10, "count", "(I)I"⟩
abbrev cX10_clear : ByteArray := prog_12_method_71_code
def yX10_clear : MethodName := ⟨RX10, "clear", "()I"⟩
def RJ9 : String := "java/lang/Math"
def RL : String := "CoreTermsLaw"
abbrev cL_law : ByteArray := code
def yL_law : MethodName := ⟨RL, "law", "([I)Z"⟩
def wsL_law_r1 : List Cond := [Cond.classLink RL 7 RX9, Cond.instantiable RX9 10, Cond.initialized RX9, Cond.classLink RL 10 RX10, Cond.instantiable RX10 43, Cond.initialized RX10, Cond.constantLong RL 107 (4294967295), Cond.methodLink RL 9 yX9_init, Cond.instanceMethod yX9_init, Cond.code yX9_init cX9_init 1 none, Cond.methodLink RX9 1 objectInit, Cond.instanceMethod objectInit, Cond.code objectInit ⟨#[0xb1]⟩ 1 none, Cond.classLink RX9 7 RX7, Cond.instantiable RX7 4, Cond.initialized RX7, Cond.fieldLink RX9 10 "CoreTerms" "types" "LCoreTerms$Types;", Cond.classLink RX9 16 RX6, Cond.instantiable RX6 13, Cond.initialized RX6, Cond.fieldLink RX9 21 "CoreTerms" "terms" "LCoreTerms$Terms;", Cond.classLink RX9 25 RX8, Cond.instantiable RX8 6, Cond.initialized RX8]
def wsL_law_r2 : List Cond := [Cond.fieldLink RX9 30 "CoreTerms" "typist" "LCoreTerms$Typist;", Cond.classLink RX9 34 RX0, Cond.instantiable RX0 3, Cond.initialized RX0, Cond.fieldLink RX9 39 "CoreTerms" "comparer" "LCoreTerms$Comparer;", Cond.classLink RX9 43 RX3, Cond.instantiable RX3 1, Cond.initialized RX3, Cond.fieldLink RX9 46 "CoreTerms" "putter" "LCoreTerms$Putter;", Cond.classLink RX9 50 RX5, Cond.instantiable RX5 2, Cond.initialized RX5, Cond.fieldLink RX9 55 "CoreTerms" "stepper" "LCoreTerms$Stepper;", Cond.classLink RX9 59 RX1, Cond.instantiable RX1 1, Cond.initialized RX1, Cond.fieldLink RX9 62 "CoreTerms" "dropper" "LCoreTerms$Dropper;", Cond.classLink RX9 66 RX2, Cond.instantiable RX2 4, Cond.initialized RX2, Cond.fieldLink RX9 69 "CoreTerms" "printer" "LCoreTerms$Printer;", Cond.classLink RX9 73 RX4, Cond.instantiable RX4 5, Cond.initialized RX4]
def wsL_law_r3 : List Cond := [Cond.fieldLink RX9 76 "CoreTerms" "reader" "LCoreTerms$Reader;", Cond.fieldLink RX9 80 "CoreTerms" "stepsRun" "I", Cond.methodLink RX9 9 yX7_init, Cond.instanceMethod yX7_init, Cond.code yX7_init cX7_init 1 none, Cond.methodLink RX7 3 objectInit, Cond.arrayClass .int, Cond.fieldLink RX7 9 "CoreTerms$Types" "from" "[I", Cond.fieldLink RX7 15 "CoreTerms$Types" "to" "[I", Cond.fieldLink RX7 18 "CoreTerms$Types" "length" "[I", Cond.fieldLink RX7 21 "CoreTerms$Types" "total" "I", Cond.methodLink RX9 18 yX6_init, Cond.instanceMethod yX6_init, Cond.code yX6_init cX6_init 2 none, Cond.methodLink RX6 3 objectInit, Cond.fieldLink RX6 9 "CoreTerms$Terms" "kind" "[I", Cond.fieldLink RX6 15 "CoreTerms$Terms" "number" "[I", Cond.fieldLink RX6 18 "CoreTerms$Terms" "letter" "[I", Cond.fieldLink RX6 21 "CoreTerms$Terms" "type" "[I", Cond.fieldLink RX6 24 "CoreTerms$Terms" "first" "[I", Cond.fieldLink RX6 27 "CoreTerms$Terms" "second" "[I", Cond.fieldLink RX6 30 "CoreTerms$Terms" "third" "[I", Cond.fieldLink RX6 33 "CoreTerms$Terms" "size" "[I", Cond.fieldLink RX6 36 "CoreTerms$Terms" "depth" "[I"]
def wsL_law_r4 : List Cond := [Cond.fieldLink RX6 39 "CoreTerms$Terms" "freeLetters" "[I", Cond.fieldLink RX6 42 "CoreTerms$Terms" "width" "[I", Cond.fieldLink RX6 45 "CoreTerms$Terms" "types" "LCoreTerms$Types;", Cond.fieldLink RX6 49 "CoreTerms$Terms" "total" "I", Cond.methodLink RX9 27 yX8_init, Cond.instanceMethod yX8_init, Cond.code yX8_init cX8_init 4 none, Cond.methodLink RX8 3 objectInit, Cond.fieldLink RX8 9 "CoreTerms$Typist" "declared" "[I", Cond.fieldLink RX8 15 "CoreTerms$Typist" "known" "[I", Cond.fieldLink RX8 18 "CoreTerms$Typist" "types" "LCoreTerms$Types;", Cond.fieldLink RX8 22 "CoreTerms$Typist" "terms" "LCoreTerms$Terms;", Cond.fieldLink RX8 26 "CoreTerms$Typist" "fault" "I", Cond.fieldLink RX8 30 "CoreTerms$Typist" "faultAt" "I", Cond.methodLink RX9 36 yX0_init, Cond.instanceMethod yX0_init, Cond.code yX0_init cX0_init 2 none, Cond.methodLink RX0 3 objectInit, Cond.fieldLink RX0 9 "CoreTerms$Comparer" "leftLevel" "[I", Cond.fieldLink RX0 15 "CoreTerms$Comparer" "rightLevel" "[I", Cond.fieldLink RX0 18 "CoreTerms$Comparer" "terms" "LCoreTerms$Terms;", Cond.methodLink RX9 45 yX3_init, Cond.instanceMethod yX3_init, Cond.code yX3_init cX3_init 2 none]
def wsL_law_r5 : List Cond := [Cond.methodLink RX3 3 objectInit, Cond.fieldLink RX3 9 "CoreTerms$Putter" "terms" "LCoreTerms$Terms;", Cond.methodLink RX9 52 yX5_init, Cond.instanceMethod yX5_init, Cond.code yX5_init cX5_init 3 none, Cond.methodLink RX5 3 objectInit, Cond.fieldLink RX5 9 "CoreTerms$Stepper" "terms" "LCoreTerms$Terms;", Cond.fieldLink RX5 15 "CoreTerms$Stepper" "putter" "LCoreTerms$Putter;", Cond.methodLink RX9 61 yX1_init, Cond.instanceMethod yX1_init, Cond.code yX1_init cX1_init 2 none, Cond.methodLink RX1 3 objectInit, Cond.fieldLink RX1 9 "CoreTerms$Dropper" "terms" "LCoreTerms$Terms;", Cond.methodLink RX9 68 yX2_init, Cond.instanceMethod yX2_init, Cond.code yX2_init cX2_init 3 none, Cond.methodLink RX2 3 objectInit, Cond.arrayClass .byte, Cond.fieldLink RX2 9 "CoreTerms$Printer" "bytes" "[B", Cond.fieldLink RX2 15 "CoreTerms$Printer" "types" "LCoreTerms$Types;", Cond.fieldLink RX2 19 "CoreTerms$Printer" "terms" "LCoreTerms$Terms;", Cond.fieldLink RX2 23 "CoreTerms$Printer" "length" "I", Cond.methodLink RX9 75 yX4_init, Cond.instanceMethod yX4_init]
def wsL_law_r6 : List Cond := [Cond.code yX4_init cX4_init 3 none, Cond.methodLink RX4 3 objectInit, Cond.fieldLink RX4 9 "CoreTerms$Reader" "tape" "[B", Cond.fieldLink RX4 15 "CoreTerms$Reader" "types" "LCoreTerms$Types;", Cond.fieldLink RX4 19 "CoreTerms$Reader" "terms" "LCoreTerms$Terms;", Cond.fieldLink RX4 23 "CoreTerms$Reader" "length" "I", Cond.fieldLink RX4 27 "CoreTerms$Reader" "place" "I", Cond.methodLink RL 12 yX10_init, Cond.instanceMethod yX10_init, Cond.code yX10_init cX10_init 2 none, Cond.methodLink RX10 7 objectInit, Cond.fieldLink RX10 13 "CoreTermsModel" "types" "I", Cond.fieldLink RX10 17 "CoreTermsModel" "from" "[I", Cond.fieldLink RX10 21 "CoreTermsModel" "to" "[I", Cond.fieldLink RX10 24 "CoreTermsModel" "lengths" "[I", Cond.fieldLink RX10 27 "CoreTermsModel" "declared" "[I", Cond.fieldLink RX10 30 "CoreTermsModel" "kinds" "[I", Cond.fieldLink RX10 33 "CoreTermsModel" "numbers" "[I", Cond.fieldLink RX10 36 "CoreTermsModel" "letters" "[I", Cond.fieldLink RX10 39 "CoreTermsModel" "typeOf" "[I", Cond.fieldLink RX10 42 "CoreTermsModel" "parts" "[I", Cond.fieldLink RX10 45 "CoreTermsModel" "sizes" "[I", Cond.fieldLink RX10 48 "CoreTermsModel" "depths" "[I", Cond.fieldLink RX10 51 "CoreTermsModel" "frees" "[I"]
def wsL_law_r7 : List Cond := [Cond.fieldLink RX10 54 "CoreTermsModel" "pileTerm" "[I", Cond.fieldLink RX10 57 "CoreTermsModel" "pileStage" "[I", Cond.fieldLink RX10 60 "CoreTermsModel" "pileA" "[I", Cond.fieldLink RX10 63 "CoreTermsModel" "pileB" "[I", Cond.fieldLink RX10 66 "CoreTermsModel" "pileC" "[I", Cond.fieldLink RX10 69 "CoreTermsModel" "pileX" "[I", Cond.fieldLink RX10 72 "CoreTermsModel" "pileU" "[I", Cond.fieldLink RX10 75 "CoreTermsModel" "env" "[I", Cond.fieldLink RX10 78 "CoreTermsModel" "faultAt" "I", Cond.fieldLink RX10 81 "CoreTermsModel" "ofOne" "[I", Cond.fieldLink RX10 84 "CoreTermsModel" "ofOther" "[I", Cond.fieldLink RX10 87 "CoreTermsModel" "way" "[I", Cond.fieldLink RX10 90 "CoreTermsModel" "wayPart" "[I", Cond.fieldLink RX10 93 "CoreTermsModel" "text" "[I", Cond.fieldLink RX10 96 "CoreTermsModel" "page" "[I", Cond.fieldLink RX10 99 "CoreTermsModel" "typePile" "[I", Cond.fieldLink RX10 102 "CoreTermsModel" "typeStage" "[I", Cond.fieldLink RX10 105 "CoreTermsModel" "tape" "[I", Cond.methodLink RL 13 yX9_arrow, Cond.instanceMethod yX9_arrow, Cond.selects RX9 yX9_arrow yX9_arrow, Cond.code yX9_arrow cX9_arrow 3 (some .int), Cond.methodLink RX9 84 yX7_has, Cond.instanceMethod yX7_has]
def wsL_law_r8 : List Cond := [Cond.selects RX7 yX7_has yX7_has, Cond.code yX7_has cX7_has 2 (some .boolean), Cond.methodLink RX9 88 yX7_arrowOf, Cond.instanceMethod yX7_arrowOf, Cond.selects RX7 yX7_arrowOf yX7_arrowOf, Cond.code yX7_arrowOf cX7_arrowOf 4 (some .int), Cond.methodLink RX7 29 yX7_lengthOf, Cond.instanceMethod yX7_lengthOf, Cond.selects RX7 yX7_lengthOf yX7_lengthOf, Cond.code yX7_lengthOf cX7_lengthOf 2 (some .int), Cond.methodLink RX7 25 yX7_has, Cond.methodLink RL 17 yX10_arrow, Cond.instanceMethod yX10_arrow, Cond.selects RX10 yX10_arrow yX10_arrow, Cond.code yX10_arrow cX10_arrow 3 (some .int), Cond.methodLink RX10 108 yX10_isType, Cond.instanceMethod yX10_isType, Cond.selects RX10 yX10_isType yX10_isType, Cond.code yX10_isType cX10_isType 2 (some .boolean), Cond.methodLink RX10 3 yX10_in, Cond.static yX10_in, Cond.code yX10_in cX10_in 3 (some .boolean), Cond.methodLink RX10 112 yX10_arrowOf, Cond.instanceMethod yX10_arrowOf]
def wsL_law_r9 : List Cond := [Cond.selects RX10 yX10_arrowOf yX10_arrowOf, Cond.code yX10_arrowOf cX10_arrowOf 4 (some .int), Cond.methodLink RL 18 yX9_side, Cond.instanceMethod yX9_side, Cond.selects RX9 yX9_side yX9_side, Cond.code yX9_side cX9_side 3 (some .int), Cond.methodLink RX9 92 yX7_fromOf, Cond.instanceMethod yX7_fromOf, Cond.selects RX7 yX7_fromOf yX7_fromOf, Cond.code yX7_fromOf cX7_fromOf 2 (some .int), Cond.methodLink RX9 96 yX7_toOf, Cond.instanceMethod yX7_toOf, Cond.selects RX7 yX7_toOf yX7_toOf, Cond.code yX7_toOf cX7_toOf 2 (some .int), Cond.methodLink RL 21 yX10_side, Cond.instanceMethod yX10_side, Cond.selects RX10 yX10_side yX10_side, Cond.code yX10_side cX10_side 3 (some .int), Cond.methodLink RL 22 yX9_declare, Cond.instanceMethod yX9_declare, Cond.selects RX9 yX9_declare yX9_declare, Cond.code yX9_declare cX9_declare 3 (some .int), Cond.methodLink RX9 99 yX9_isLetter, Cond.static yX9_isLetter]
def wsL_law_r10 : List Cond := [Cond.code yX9_isLetter cX9_isLetter 1 (some .boolean), Cond.methodLink RX9 102 yX8_setDeclared, Cond.instanceMethod yX8_setDeclared, Cond.selects RX8 yX8_setDeclared yX8_setDeclared, Cond.code yX8_setDeclared cX8_setDeclared 3 none, Cond.methodLink RL 25 yX10_declare, Cond.instanceMethod yX10_declare, Cond.selects RX10 yX10_declare yX10_declare, Cond.code yX10_declare cX10_declare 3 (some .int), Cond.methodLink RX10 116 yX10_isLetter, Cond.static yX10_isLetter, Cond.code yX10_isLetter cX10_isLetter 1 (some .boolean), Cond.methodLink RL 26 yX9_number, Cond.instanceMethod yX9_number, Cond.selects RX9 yX9_number yX9_number, Cond.code yX9_number cX9_number 2 (some .int), Cond.methodLink RX9 106 yX6_newNumber, Cond.instanceMethod yX6_newNumber, Cond.selects RX6 yX6_newNumber yX6_newNumber, Cond.code yX6_newNumber cX6_newNumber 3 (some .int), Cond.methodLink RX6 87 yX6_made, Cond.instanceMethod yX6_made, Cond.selects RX6 yX6_made yX6_made, Cond.code yX6_made cX6_made 10 (some .int)]
def wsL_law_r11 : List Cond := [Cond.methodLink RX6 103 Lib.Math.max.name, Cond.static Lib.Math.max.name, Cond.initialized "java/lang/Math", Cond.code Lib.Math.max.name Lib.Math.max.code 2 (some .int), Cond.methodLink RX6 97 yX6_sizeOf, Cond.instanceMethod yX6_sizeOf, Cond.selects RX6 yX6_sizeOf yX6_sizeOf, Cond.code yX6_sizeOf cX6_sizeOf 2 (some .int), Cond.methodLink RX6 53 yX6_has, Cond.instanceMethod yX6_has, Cond.selects RX6 yX6_has yX6_has, Cond.code yX6_has cX6_has 2 (some .boolean), Cond.methodLink RX6 100 yX6_depthOf, Cond.instanceMethod yX6_depthOf, Cond.selects RX6 yX6_depthOf yX6_depthOf, Cond.code yX6_depthOf cX6_depthOf 2 (some .int), Cond.methodLink RX6 61 yX6_bit, Cond.static yX6_bit, Cond.code yX6_bit cX6_bit 1 (some .int), Cond.methodLink RX6 57 yX6_freeLettersOf, Cond.instanceMethod yX6_freeLettersOf, Cond.selects RX6 yX6_freeLettersOf yX6_freeLettersOf, Cond.code yX6_freeLettersOf cX6_freeLettersOf 2 (some .int), Cond.methodLink RX6 108 yX6_freeLettersFor]
def wsL_law_r12 : List Cond := [Cond.static yX6_freeLettersFor, Cond.code yX6_freeLettersFor cX6_freeLettersFor 5 (some .int), Cond.methodLink RX6 112 yX6_marksOf, Cond.static yX6_marksOf, Cond.code yX6_marksOf cX6_marksOf 1 (some .int), Cond.methodLink RX6 115 yX7_lengthOf, Cond.methodLink RX6 120 yX6_widthOf, Cond.instanceMethod yX6_widthOf, Cond.selects RX6 yX6_widthOf yX6_widthOf, Cond.code yX6_widthOf cX6_widthOf 2 (some .int), Cond.methodLink RX6 91 yX6_digitsOf, Cond.static yX6_digitsOf, Cond.code yX6_digitsOf cX6_digitsOf 4 (some .int), Cond.methodLink RL 30 yX10_number, Cond.instanceMethod yX10_number, Cond.selects RX10 yX10_number yX10_number, Cond.code yX10_number cX10_number 2 (some .int), Cond.methodLink RX10 132 yX10_make, Cond.instanceMethod yX10_make, Cond.selects RX10 yX10_make yX10_make, Cond.code yX10_make cX10_make 15 (some .int), Cond.fieldLink RX10 119 "CoreTermsModel" "terms" "I", Cond.methodLink RX10 122 yX10_partsOf, Cond.static yX10_partsOf]
def wsL_law_r13 : List Cond := [Cond.code yX10_partsOf cX10_partsOf 1 (some .int), Cond.methodLink RX10 126 yX10_part, Cond.instanceMethod yX10_part, Cond.selects RX10 yX10_part yX10_part, Cond.code yX10_part cX10_part 3 (some .int), Cond.methodLink RX10 129 yX10_freeOf, Cond.instanceMethod yX10_freeOf, Cond.selects RX10 yX10_freeOf yX10_freeOf, Cond.code yX10_freeOf cX10_freeOf 3 (some .int), Cond.methodLink RL 31 yX9_name, Cond.instanceMethod yX9_name, Cond.selects RX9 yX9_name yX9_name, Cond.code yX9_name cX9_name 2 (some .int), Cond.methodLink RX9 109 yX6_newName, Cond.instanceMethod yX6_newName, Cond.selects RX6 yX6_newName yX6_newName, Cond.code yX6_newName cX6_newName 2 (some .int), Cond.methodLink RL 34 yX10_name, Cond.instanceMethod yX10_name, Cond.selects RX10 yX10_name yX10_name, Cond.code yX10_name cX10_name 2 (some .int), Cond.methodLink RL 35 yX9_function, Cond.instanceMethod yX9_function, Cond.selects RX9 yX9_function yX9_function]
def wsL_law_r14 : List Cond := [Cond.code yX9_function cX9_function 4 (some .int), Cond.methodLink RX9 112 yX6_has, Cond.methodLink RX9 113 yX6_newFunction, Cond.instanceMethod yX6_newFunction, Cond.selects RX6 yX6_newFunction yX6_newFunction, Cond.code yX6_newFunction cX6_newFunction 4 (some .int), Cond.methodLink RL 39 yX10_function, Cond.instanceMethod yX10_function, Cond.selects RX10 yX10_function yX10_function, Cond.code yX10_function cX10_function 4 (some .int), Cond.methodLink RX10 136 yX10_isTerm, Cond.instanceMethod yX10_isTerm, Cond.selects RX10 yX10_isTerm yX10_isTerm, Cond.code yX10_isTerm cX10_isTerm 2 (some .boolean), Cond.methodLink RL 40 yX9_let, Cond.instanceMethod yX9_let, Cond.selects RX9 yX9_let yX9_let, Cond.code yX9_let cX9_let 4 (some .int), Cond.methodLink RX9 117 yX6_newLet, Cond.instanceMethod yX6_newLet, Cond.selects RX6 yX6_newLet yX6_newLet, Cond.code yX6_newLet cX6_newLet 4 (some .int), Cond.methodLink RL 43 yX10_let, Cond.instanceMethod yX10_let]
def wsL_law_r15 : List Cond := [Cond.selects RX10 yX10_let yX10_let, Cond.code yX10_let cX10_let 4 (some .int), Cond.methodLink RL 44 yX9_join, Cond.instanceMethod yX9_join, Cond.selects RX9 yX9_join yX9_join, Cond.code yX9_join cX9_join 5 (some .int), Cond.methodLink RX9 120 yX6_newJoined, Cond.instanceMethod yX6_newJoined, Cond.selects RX6 yX6_newJoined yX6_newJoined, Cond.code yX6_newJoined cX6_newJoined 5 (some .int), Cond.methodLink RL 48 yX10_join, Cond.instanceMethod yX10_join, Cond.selects RX10 yX10_join yX10_join, Cond.code yX10_join cX10_join 6 (some .int), Cond.methodLink RL 49 yX9_told, Cond.instanceMethod yX9_told, Cond.selects RX9 yX9_told yX9_told, Cond.code yX9_told cX9_told 3 (some .long), Cond.constantLong RX9 124 (-1), Cond.methodLink RX9 126 yX6_kindOf, Cond.instanceMethod yX6_kindOf, Cond.selects RX6 yX6_kindOf yX6_kindOf, Cond.code yX6_kindOf cX6_kindOf 2 (some .int), Cond.methodLink RX9 129 yX6_sizeOf]
def wsL_law_r16 : List Cond := [Cond.methodLink RX9 132 yX6_depthOf, Cond.methodLink RX9 135 yX6_numberOf, Cond.instanceMethod yX6_numberOf, Cond.selects RX6 yX6_numberOf yX6_numberOf, Cond.code yX6_numberOf cX6_numberOf 2 (some .int), Cond.methodLink RX9 138 yX6_letterOf, Cond.instanceMethod yX6_letterOf, Cond.selects RX6 yX6_letterOf yX6_letterOf, Cond.code yX6_letterOf cX6_letterOf 2 (some .int), Cond.methodLink RX9 141 yX6_typeOf, Cond.instanceMethod yX6_typeOf, Cond.selects RX6 yX6_typeOf yX6_typeOf, Cond.code yX6_typeOf cX6_typeOf 2 (some .int), Cond.methodLink RX9 144 yX6_firstOf, Cond.instanceMethod yX6_firstOf, Cond.selects RX6 yX6_firstOf yX6_firstOf, Cond.code yX6_firstOf cX6_firstOf 2 (some .int), Cond.methodLink RX9 147 yX6_secondOf, Cond.instanceMethod yX6_secondOf, Cond.selects RX6 yX6_secondOf yX6_secondOf, Cond.code yX6_secondOf cX6_secondOf 2 (some .int), Cond.methodLink RX9 150 yX6_thirdOf, Cond.instanceMethod yX6_thirdOf, Cond.selects RX6 yX6_thirdOf yX6_thirdOf]
def wsL_law_r17 : List Cond := [Cond.code yX6_thirdOf cX6_thirdOf 2 (some .int), Cond.methodLink RL 53 yX10_told, Cond.instanceMethod yX10_told, Cond.selects RX10 yX10_told yX10_told, Cond.code yX10_told cX10_told 3 (some .long), Cond.constantLong RX10 139 (-1), Cond.methodLink RL 54 yX9_free, Cond.instanceMethod yX9_free, Cond.selects RX9 yX9_free yX9_free, Cond.code yX9_free cX9_free 2 (some .int), Cond.methodLink RX9 153 yX6_freeLettersOf, Cond.methodLink RL 57 yX10_free, Cond.instanceMethod yX10_free, Cond.selects RX10 yX10_free yX10_free, Cond.code yX10_free cX10_free 4 (some .int), Cond.methodLink RX10 141 yX10_isFree, Cond.instanceMethod yX10_isFree, Cond.selects RX10 yX10_isFree yX10_isFree, Cond.code yX10_isFree cX10_isFree 3 (some .boolean), Cond.methodLink RL 58 yX9_uses, Cond.instanceMethod yX9_uses, Cond.selects RX9 yX9_uses yX9_uses, Cond.code yX9_uses cX9_uses 3 (some .int), Cond.instanceMethod yX6_usesOf]
def wsL_law_r18 : List Cond := [Cond.selects RX6 yX6_usesOf yX6_usesOf, Cond.code yX6_usesOf cX6_usesOf 3 (some .int), Cond.methodLink RX6 64 yX6_isFree, Cond.instanceMethod yX6_isFree, Cond.selects RX6 yX6_isFree yX6_isFree, Cond.code yX6_isFree cX6_isFree 3 (some .boolean), Cond.methodLink RX6 68 yX6_kindOf, Cond.methodLink RX6 71 yX6_letterOf, Cond.methodLink RX6 74 yX6_firstOf, Cond.methodLink RX6 77 yX6_usesOf, Cond.methodLink RX6 81 yX6_secondOf, Cond.methodLink RX6 84 yX6_thirdOf, Cond.methodLink RL 61 yX10_uses, Cond.instanceMethod yX10_uses, Cond.selects RX10 yX10_uses yX10_uses, Cond.code yX10_uses cX10_uses 3 (some .int), Cond.methodLink RL 62 yX9_type, Cond.instanceMethod yX9_type, Cond.selects RX9 yX9_type yX9_type, Cond.code yX9_type cX9_type 2 (some .int), Cond.methodLink RX9 159 yX8_wholeTypeOf, Cond.instanceMethod yX8_wholeTypeOf, Cond.selects RX8 yX8_wholeTypeOf yX8_wholeTypeOf, Cond.code yX8_wholeTypeOf cX8_wholeTypeOf 4 (some .int)]
def wsL_law_r19 : List Cond := [Cond.methodLink RX8 37 yX7_total, Cond.instanceMethod yX7_total, Cond.selects RX7 yX7_total yX7_total, Cond.code yX7_total cX7_total 1 (some .int), Cond.methodLink RX8 43 yX8_typeFor, Cond.instanceMethod yX8_typeFor, Cond.selects RX8 yX8_typeFor yX8_typeFor, Cond.code yX8_typeFor cX8_typeFor 2 (some .int), Cond.methodLink RX8 51 yX6_kindOf, Cond.methodLink RX8 56 yX8_typeForName, Cond.instanceMethod yX8_typeForName, Cond.selects RX8 yX8_typeForName yX8_typeForName, Cond.code yX8_typeForName cX8_typeForName 3 (some .int), Cond.methodLink RX8 74 yX6_letterOf, Cond.methodLink RX8 77 yX8_knownOf, Cond.instanceMethod yX8_knownOf, Cond.selects RX8 yX8_knownOf yX8_knownOf, Cond.code yX8_knownOf cX8_knownOf 2 (some .int), Cond.methodLink RX8 80 yX8_faulty, Cond.instanceMethod yX8_faulty, Cond.selects RX8 yX8_faulty yX8_faulty, Cond.code yX8_faulty cX8_faulty 3 (some .int), Cond.methodLink RX8 59 yX8_typeForFunction, Cond.instanceMethod yX8_typeForFunction]
def wsL_law_r20 : List Cond := [Cond.selects RX8 yX8_typeForFunction yX8_typeForFunction, Cond.methodLink RX8 62 yX8_typeForCall, Cond.instanceMethod yX8_typeForCall, Cond.selects RX8 yX8_typeForCall yX8_typeForCall, Cond.methodLink RX8 65 yX8_typeForLet, Cond.instanceMethod yX8_typeForLet, Cond.selects RX8 yX8_typeForLet yX8_typeForLet, Cond.methodLink RX8 68 yX8_typeForSum, Cond.instanceMethod yX8_typeForSum, Cond.selects RX8 yX8_typeForSum yX8_typeForSum, Cond.methodLink RX8 71 yX8_typeForChoice, Cond.instanceMethod yX8_typeForChoice, Cond.selects RX8 yX8_typeForChoice yX8_typeForChoice, Cond.code yX8_typeForCall cX8_typeForCall 5 (some .int), Cond.methodLink RX8 87 yX6_firstOf, Cond.methodLink RX8 97 yX7_fromOf, Cond.methodLink RX8 100 yX6_secondOf, Cond.methodLink RX8 103 yX8_typeThatIs, Cond.instanceMethod yX8_typeThatIs, Cond.selects RX8 yX8_typeThatIs yX8_typeThatIs, Cond.methodLink RX8 106 yX7_toOf, Cond.code yX8_typeForChoice cX8_typeForChoice 4 (some .int), Cond.methodLink RX8 109 yX6_thirdOf, Cond.code yX8_typeForFunction cX8_typeForFunction 4 (some .int)]
def wsL_law_r21 : List Cond := [Cond.methodLink RX8 84 yX6_typeOf, Cond.methodLink RX8 90 yX8_typeUnder, Cond.instanceMethod yX8_typeUnder, Cond.selects RX8 yX8_typeUnder yX8_typeUnder, Cond.methodLink RX8 94 yX7_arrowOf, Cond.code yX8_typeForLet cX8_typeForLet 3 (some .int), Cond.code yX8_typeForSum cX8_typeForSum 3 (some .int), Cond.code yX8_typeThatIs cX8_typeThatIs 4 (some .int), Cond.code yX8_typeUnder cX8_typeUnder 6 (some .int), Cond.methodLink RX8 112 yX8_setKnown, Cond.instanceMethod yX8_setKnown, Cond.selects RX8 yX8_setKnown yX8_setKnown, Cond.code yX8_setKnown cX8_setKnown 3 none, Cond.methodLink RX8 47 yX7_cutTo, Cond.instanceMethod yX7_cutTo, Cond.selects RX7 yX7_cutTo yX7_cutTo, Cond.code yX7_cutTo cX7_cutTo 2 none, Cond.methodLink RL 65 yX10_type, Cond.instanceMethod yX10_type, Cond.selects RX10 yX10_type yX10_type, Cond.code yX10_type cX10_type 7 (some .int), Cond.fieldLink RX10 148 "CoreTermsModel" "fault" "I", Cond.fieldLink RX10 145 "CoreTermsModel" "top" "I", Cond.fieldLink RX10 151 "CoreTermsModel" "got" "I"]
def wsL_law_r22 : List Cond := [Cond.methodLink RX10 154 yX10_push, Cond.instanceMethod yX10_push, Cond.selects RX10 yX10_push yX10_push, Cond.code yX10_push cX10_push 2 none, Cond.methodLink RX10 158 yX10_faults, Cond.instanceMethod yX10_faults, Cond.selects RX10 yX10_faults yX10_faults, Cond.code yX10_faults cX10_faults 3 none, Cond.methodLink RX10 166 yX10_typeOfBinder, Cond.instanceMethod yX10_typeOfBinder, Cond.selects RX10 yX10_typeOfBinder yX10_typeOfBinder, Cond.code yX10_typeOfBinder cX10_typeOfBinder 6 none, Cond.methodLink RX10 162 yX10_binds, Cond.instanceMethod yX10_binds, Cond.selects RX10 yX10_binds yX10_binds, Cond.code yX10_binds cX10_binds 4 none, Cond.methodLink RX10 169 yX10_typeOfCall, Cond.instanceMethod yX10_typeOfCall, Cond.selects RX10 yX10_typeOfCall yX10_typeOfCall, Cond.code yX10_typeOfCall cX10_typeOfCall 4 none, Cond.methodLink RX10 172 yX10_typeOfNumbers, Cond.instanceMethod yX10_typeOfNumbers, Cond.selects RX10 yX10_typeOfNumbers yX10_typeOfNumbers, Cond.code yX10_typeOfNumbers cX10_typeOfNumbers 5 none]
def wsL_law_r23 : List Cond := [Cond.methodLink RL 66 yX9_fault, Cond.instanceMethod yX9_fault, Cond.selects RX9 yX9_fault yX9_fault, Cond.code yX9_fault cX9_fault 2 (some .int), Cond.methodLink RX9 162 yX8_latestFault, Cond.instanceMethod yX8_latestFault, Cond.selects RX8 yX8_latestFault yX8_latestFault, Cond.code yX8_latestFault cX8_latestFault 1 (some .int), Cond.methodLink RX9 166 yX8_latestFaultAt, Cond.instanceMethod yX8_latestFaultAt, Cond.selects RX8 yX8_latestFaultAt yX8_latestFaultAt, Cond.code yX8_latestFaultAt cX8_latestFaultAt 1 (some .int), Cond.methodLink RL 69 yX10_fault, Cond.instanceMethod yX10_fault, Cond.selects RX10 yX10_fault yX10_fault, Cond.code yX10_fault cX10_fault 2 (some .int), Cond.methodLink RL 70 yX9_alike, Cond.instanceMethod yX9_alike, Cond.selects RX9 yX9_alike yX9_alike, Cond.code yX9_alike cX9_alike 3 (some .int), Cond.methodLink RX9 169 yX0_areAlike, Cond.instanceMethod yX0_areAlike, Cond.selects RX0 yX0_areAlike yX0_areAlike, Cond.code yX0_areAlike cX0_areAlike 4 (some .boolean)]
def wsL_law_r24 : List Cond := [Cond.methodLink RX0 22 yX0_same, Cond.instanceMethod yX0_same, Cond.selects RX0 yX0_same yX0_same, Cond.code yX0_same cX0_same 5 (some .boolean), Cond.methodLink RX0 26 yX6_kindOf, Cond.methodLink RX0 32 yX6_sizeOf, Cond.methodLink RX0 35 yX6_numberOf, Cond.methodLink RX0 38 yX6_letterOf, Cond.methodLink RX0 41 yX0_sameName, Cond.instanceMethod yX0_sameName, Cond.selects RX0 yX0_sameName yX0_sameName, Cond.code yX0_sameName cX0_sameName 3 (some .boolean), Cond.methodLink RX0 45 yX6_typeOf, Cond.methodLink RX0 48 yX6_firstOf, Cond.methodLink RX0 51 yX0_sameUnder, Cond.instanceMethod yX0_sameUnder, Cond.selects RX0 yX0_sameUnder yX0_sameUnder, Cond.methodLink RX0 55 yX6_secondOf, Cond.methodLink RX0 58 yX6_thirdOf, Cond.code yX0_sameUnder cX0_sameUnder 11 (some .boolean), Cond.methodLink RL 73 yX10_alike, Cond.instanceMethod yX10_alike, Cond.selects RX10 yX10_alike yX10_alike, Cond.code yX10_alike cX10_alike 3 (some .int)]
def wsL_law_r25 : List Cond := [Cond.methodLink RX10 181 yX10_areAlike, Cond.instanceMethod yX10_areAlike, Cond.selects RX10 yX10_areAlike yX10_areAlike, Cond.code yX10_areAlike cX10_areAlike 10 (some .boolean), Cond.fieldLink RX10 175 "CoreTermsModel" "binders" "I", Cond.methodLink RX10 178 yX10_isLikeHere, Cond.instanceMethod yX10_isLikeHere, Cond.selects RX10 yX10_isLikeHere yX10_isLikeHere, Cond.code yX10_isLikeHere cX10_isLikeHere 5 (some .boolean), Cond.methodLink RL 74 yX9_least, Cond.instanceMethod yX9_least, Cond.selects RX9 yX9_least yX9_least, Cond.code yX9_least cX9_least 3 (some .int), Cond.methodLink RL 77 yX10_least, Cond.instanceMethod yX10_least, Cond.selects RX10 yX10_least yX10_least, Cond.code yX10_least cX10_least 3 (some .int), Cond.methodLink RL 78 yX9_put, Cond.instanceMethod yX9_put, Cond.selects RX9 yX9_put yX9_put, Cond.code yX9_put cX9_put 5 (some .int), Cond.methodLink RX9 173 yX6_total, Cond.instanceMethod yX6_total, Cond.selects RX6 yX6_total yX6_total]
def wsL_law_r26 : List Cond := [Cond.code yX6_total cX6_total 1 (some .int), Cond.instanceMethod yX3_into, Cond.selects RX3 yX3_into yX3_into, Cond.code yX3_into cX3_into 4 (some .int), Cond.methodLink RX3 15 yX6_isFree, Cond.methodLink RX3 21 yX6_kindOf, Cond.methodLink RX3 25 yX3_intoFunction, Cond.instanceMethod yX3_intoFunction, Cond.selects RX3 yX3_intoFunction yX3_intoFunction, Cond.methodLink RX3 29 yX3_intoLet, Cond.instanceMethod yX3_intoLet, Cond.selects RX3 yX3_intoLet yX3_intoLet, Cond.methodLink RX3 32 yX3_intoParts, Cond.instanceMethod yX3_intoParts, Cond.selects RX3 yX3_intoParts yX3_intoParts, Cond.code yX3_intoBody cX3_intoBody 8 (some .int), Cond.methodLink RX3 38 yX3_into, Cond.methodLink RX3 60 yX6_newName, Cond.code yX3_intoFunction cX3_intoFunction 7 (some .int), Cond.methodLink RX3 35 yX6_firstOf, Cond.methodLink RX3 47 yX6_letterOf, Cond.methodLink RX3 54 yX3_letterFor, Cond.instanceMethod yX3_letterFor, Cond.selects RX3 yX3_letterFor yX3_letterFor]
def wsL_law_r27 : List Cond := [Cond.code yX3_letterFor cX3_letterFor 5 (some .int), Cond.methodLink RX3 57 yX3_intoBody, Cond.instanceMethod yX3_intoBody, Cond.selects RX3 yX3_intoBody yX3_intoBody, Cond.methodLink RX3 50 yX6_withParts, Cond.instanceMethod yX6_withParts, Cond.selects RX6 yX6_withParts yX6_withParts, Cond.code yX6_withParts cX6_withParts 6 (some .int), Cond.methodLink RX6 94 yX6_typeOf, Cond.code yX3_intoLet cX3_intoLet 9 (some .int), Cond.methodLink RX3 41 yX6_secondOf, Cond.code yX3_intoParts cX3_intoParts 7 (some .int), Cond.methodLink RX3 44 yX6_thirdOf, Cond.methodLink RX9 179 yX9_keptOrUndone, Cond.instanceMethod yX9_keptOrUndone, Cond.selects RX9 yX9_keptOrUndone yX9_keptOrUndone, Cond.code yX9_keptOrUndone cX9_keptOrUndone 3 (some .int), Cond.methodLink RX9 212 yX6_cutTo, Cond.instanceMethod yX6_cutTo, Cond.selects RX6 yX6_cutTo yX6_cutTo, Cond.code yX6_cutTo cX6_cutTo 2 none, Cond.methodLink RL 81 yX10_put, Cond.instanceMethod yX10_put, Cond.selects RX10 yX10_put yX10_put]
def wsL_law_r28 : List Cond := [Cond.code yX10_put cX10_put 4 (some .int), Cond.methodLink RX10 203 yX10_putOf, Cond.instanceMethod yX10_putOf, Cond.selects RX10 yX10_putOf yX10_putOf, Cond.code yX10_putOf cX10_putOf 5 (some .int), Cond.methodLink RX10 184 yX10_pushPut, Cond.instanceMethod yX10_pushPut, Cond.selects RX10 yX10_pushPut yX10_pushPut, Cond.code yX10_pushPut cX10_pushPut 4 none, Cond.methodLink RX10 200 yX10_putTurn, Cond.instanceMethod yX10_putTurn, Cond.selects RX10 yX10_putTurn yX10_putTurn, Cond.code yX10_putTurn cX10_putTurn 5 none, Cond.methodLink RX10 194 yX10_putBody, Cond.instanceMethod yX10_putBody, Cond.selects RX10 yX10_putBody yX10_putBody, Cond.code yX10_putBody cX10_putBody 10 none, Cond.methodLink RX10 187 yX10_newLetter, Cond.instanceMethod yX10_newLetter, Cond.selects RX10 yX10_newLetter yX10_newLetter, Cond.code yX10_newLetter cX10_newLetter 4 (some .int), Cond.methodLink RX10 190 yX10_remade, Cond.instanceMethod yX10_remade, Cond.selects RX10 yX10_remade yX10_remade]
def wsL_law_r29 : List Cond := [Cond.code yX10_remade cX10_remade 7 (some .int), Cond.methodLink RX10 197 yX10_putParts, Cond.instanceMethod yX10_putParts, Cond.selects RX10 yX10_putParts yX10_putParts, Cond.code yX10_putParts cX10_putParts 5 none, Cond.methodLink RL 82 yX9_step, Cond.instanceMethod yX9_step, Cond.selects RX9 yX9_step yX9_step, Cond.code yX9_step cX9_step 3 (some .int), Cond.instanceMethod yX5_stepOf, Cond.selects RX5 yX5_stepOf yX5_stepOf, Cond.code yX5_stepOf cX5_stepOf 2 (some .int), Cond.methodLink RX5 19 yX6_kindOf, Cond.methodLink RX5 25 yX5_stepOfCall, Cond.instanceMethod yX5_stepOfCall, Cond.selects RX5 yX5_stepOfCall yX5_stepOfCall, Cond.methodLink RX5 28 yX6_secondOf, Cond.methodLink RX5 31 yX6_letterOf, Cond.methodLink RX5 34 yX6_firstOf, Cond.methodLink RX5 43 yX5_stepOfSum, Cond.instanceMethod yX5_stepOfSum, Cond.selects RX5 yX5_stepOfSum yX5_stepOfSum, Cond.methodLink RX5 46 yX5_stepOfChoice, Cond.instanceMethod yX5_stepOfChoice]
def wsL_law_r30 : List Cond := [Cond.selects RX5 yX5_stepOfChoice yX5_stepOfChoice, Cond.code yX5_stepOfCall cX5_stepOfCall 3 (some .int), Cond.methodLink RX5 49 yX5_stepOfFirst, Cond.instanceMethod yX5_stepOfFirst, Cond.selects RX5 yX5_stepOfFirst yX5_stepOfFirst, Cond.code yX5_stepOfChoice cX5_stepOfChoice 3 (some .int), Cond.methodLink RX5 52 yX6_numberOf, Cond.methodLink RX5 65 yX6_thirdOf, Cond.code yX5_stepOfFirst cX5_stepOfFirst 3 (some .int), Cond.methodLink RX5 58 yX5_stepOf, Cond.methodLink RX5 61 yX6_withParts, Cond.code yX5_stepOfSum cX5_stepOfSum 5 (some .int), Cond.methodLink RX5 55 yX6_newNumber, Cond.methodLink RL 85 yX10_step, Cond.instanceMethod yX10_step, Cond.selects RX10 yX10_step yX10_step, Cond.code yX10_step cX10_step 2 (some .int), Cond.methodLink RX10 213 yX10_stepOf, Cond.instanceMethod yX10_stepOf, Cond.selects RX10 yX10_stepOf yX10_stepOf, Cond.code yX10_stepOf cX10_stepOf 7 (some .int), Cond.methodLink RX10 207 yX10_partToStep, Cond.instanceMethod yX10_partToStep, Cond.selects RX10 yX10_partToStep yX10_partToStep]
def wsL_law_r31 : List Cond := [Cond.code yX10_partToStep cX10_partToStep 2 (some .int), Cond.methodLink RX10 210 yX10_stepHere, Cond.instanceMethod yX10_stepHere, Cond.selects RX10 yX10_stepHere yX10_stepHere, Cond.code yX10_stepHere cX10_stepHere 3 (some .int), Cond.methodLink RL 86 yX9_run, Cond.instanceMethod yX9_run, Cond.selects RX9 yX9_run yX9_run, Cond.code yX9_run cX9_run 8 (some .int), Cond.methodLink RL 89 yX10_run, Cond.instanceMethod yX10_run, Cond.selects RX10 yX10_run yX10_run, Cond.code yX10_run cX10_run 7 (some .int), Cond.fieldLink RX10 216 "CoreTermsModel" "ran" "I", Cond.methodLink RL 90 yX9_ran, Cond.instanceMethod yX9_ran, Cond.selects RX9 yX9_ran yX9_ran, Cond.code yX9_ran cX9_ran 1 (some .int), Cond.methodLink RL 94 yX10_ran, Cond.instanceMethod yX10_ran, Cond.selects RX10 yX10_ran yX10_ran, Cond.code yX10_ran cX10_ran 1 (some .int), Cond.methodLink RL 95 yX9_drop, Cond.instanceMethod yX9_drop]
def wsL_law_r32 : List Cond := [Cond.selects RX9 yX9_drop yX9_drop, Cond.code yX9_drop cX9_drop 3 (some .int), Cond.instanceMethod yX1_withoutLets, Cond.selects RX1 yX1_withoutLets yX1_withoutLets, Cond.code yX1_withoutLets cX1_withoutLets 5 (some .int), Cond.methodLink RX1 15 yX6_has, Cond.methodLink RX1 21 yX6_firstOf, Cond.methodLink RX1 25 yX1_withoutLets, Cond.methodLink RX1 28 yX6_secondOf, Cond.methodLink RX1 31 yX6_thirdOf, Cond.methodLink RX1 34 yX6_kindOf, Cond.methodLink RX1 37 yX6_letterOf, Cond.methodLink RX1 40 yX6_isFree, Cond.methodLink RX1 44 yX6_withParts, Cond.methodLink RL 98 yX10_drop, Cond.instanceMethod yX10_drop, Cond.selects RX10 yX10_drop yX10_drop, Cond.code yX10_drop cX10_drop 3 (some .int), Cond.methodLink RX10 219 yX10_dropTurn, Cond.instanceMethod yX10_dropTurn, Cond.selects RX10 yX10_dropTurn yX10_dropTurn, Cond.code yX10_dropTurn cX10_dropTurn 5 none, Cond.methodLink RL 99 yX9_print, Cond.instanceMethod yX9_print]
def wsL_law_r33 : List Cond := [Cond.selects RX9 yX9_print yX9_print, Cond.code yX9_print cX9_print 2 (some .int), Cond.methodLink RX9 188 yX2_show, Cond.instanceMethod yX2_show, Cond.selects RX2 yX2_show yX2_show, Cond.code yX2_show cX2_show 2 (some .int), Cond.methodLink RX2 27 yX6_widthOf, Cond.methodLink RX2 33 yX2_writeTerm, Cond.instanceMethod yX2_writeTerm, Cond.selects RX2 yX2_writeTerm yX2_writeTerm, Cond.code yX2_writeTerm cX2_writeTerm 2 none, Cond.methodLink RX2 37 yX6_kindOf, Cond.methodLink RX2 40 yX6_numberOf, Cond.methodLink RX2 43 yX2_writeNumber, Cond.instanceMethod yX2_writeNumber, Cond.selects RX2 yX2_writeNumber yX2_writeNumber, Cond.code yX2_writeNumber cX2_writeNumber 7 none, Cond.methodLink RX2 65 Lib.MathLoose.abs_long.x, Cond.static Lib.MathLoose.abs_long.x, Cond.code Lib.MathLoose.abs_long.x Lib.MathLoose.abs_long.code 2 (some .long), Cond.constantLong RX2 74 (48), Cond.constantLong RX2 76 (10), Cond.methodLink RX2 71 yX2_write, Cond.instanceMethod yX2_write]
def wsL_law_r34 : List Cond := [Cond.selects RX2 yX2_write yX2_write, Cond.code yX2_write cX2_write 2 none, Cond.methodLink RX2 47 yX6_letterOf, Cond.methodLink RX2 50 yX2_writeLetter, Cond.instanceMethod yX2_writeLetter, Cond.selects RX2 yX2_writeLetter yX2_writeLetter, Cond.code yX2_writeLetter cX2_writeLetter 2 none, Cond.methodLink RX2 53 yX2_writeFunction, Cond.instanceMethod yX2_writeFunction, Cond.selects RX2 yX2_writeFunction yX2_writeFunction, Cond.methodLink RX2 56 yX2_writePair, Cond.instanceMethod yX2_writePair, Cond.selects RX2 yX2_writePair yX2_writePair, Cond.methodLink RX2 59 yX2_writeLet, Cond.instanceMethod yX2_writeLet, Cond.selects RX2 yX2_writeLet yX2_writeLet, Cond.methodLink RX2 62 yX2_writeChoice, Cond.instanceMethod yX2_writeChoice, Cond.selects RX2 yX2_writeChoice yX2_writeChoice, Cond.code yX2_writeChoice cX2_writeChoice 2 none, Cond.methodLink RX2 84 yX6_firstOf, Cond.methodLink RX2 87 yX6_secondOf, Cond.methodLink RX2 90 yX6_thirdOf, Cond.code yX2_writeFunction cX2_writeFunction 2 none]
def wsL_law_r35 : List Cond := [Cond.methodLink RX2 78 yX6_typeOf, Cond.methodLink RX2 81 yX2_writeType, Cond.instanceMethod yX2_writeType, Cond.selects RX2 yX2_writeType yX2_writeType, Cond.code yX2_writeType cX2_writeType 2 none, Cond.methodLink RX2 93 yX7_has, Cond.methodLink RX2 99 yX7_fromOf, Cond.methodLink RX2 102 yX7_toOf, Cond.code yX2_writeLet cX2_writeLet 2 none, Cond.code yX2_writePair cX2_writePair 3 none, Cond.methodLink RL 102 yX10_print, Cond.instanceMethod yX10_print, Cond.selects RX10 yX10_print yX10_print, Cond.code yX10_print cX10_print 5 (some .int), Cond.fieldLink RX10 222 "CoreTermsModel" "pageMany" "I", Cond.fieldLink RX10 225 "CoreTermsModel" "isOver" "Z", Cond.fieldLink RX10 245 "CoreTermsModel" "textMany" "I", Cond.methodLink RX10 242 yX10_sayAt, Cond.instanceMethod yX10_sayAt, Cond.selects RX10 yX10_sayAt yX10_sayAt, Cond.code yX10_sayAt cX10_sayAt 4 none, Cond.methodLink RX10 236 yX10_sayNumber, Cond.instanceMethod yX10_sayNumber, Cond.selects RX10 yX10_sayNumber yX10_sayNumber]
def wsL_law_r36 : List Cond := [Cond.code yX10_sayNumber cX10_sayNumber 6 none, Cond.constantLong RX10 232 (9), Cond.constantLong RX10 234 (10), Cond.methodLink RX10 229 yX10_say, Cond.instanceMethod yX10_say, Cond.selects RX10 yX10_say yX10_say, Cond.code yX10_say cX10_say 2 none, Cond.methodLink RX10 239 yX10_sayType, Cond.instanceMethod yX10_sayType, Cond.selects RX10 yX10_sayType yX10_sayType, Cond.code yX10_sayType cX10_sayType 5 none, Cond.methodLink RL 103 yX9_at, Cond.instanceMethod yX9_at, Cond.selects RX9 yX9_at yX9_at, Cond.code yX9_at cX9_at 2 (some .int), Cond.methodLink RX9 191 yX2_byteAt, Cond.instanceMethod yX2_byteAt, Cond.selects RX2 yX2_byteAt yX2_byteAt, Cond.code yX2_byteAt cX2_byteAt 2 (some .int), Cond.methodLink RL 106 yX10_at, Cond.instanceMethod yX10_at, Cond.selects RX10 yX10_at yX10_at, Cond.code yX10_at cX10_at 2 (some .int), Cond.methodLink RL 109 yX9_feed]
def wsL_law_r37 : List Cond := [Cond.instanceMethod yX9_feed, Cond.selects RX9 yX9_feed yX9_feed, Cond.code yX9_feed cX9_feed 4 (some .int), Cond.methodLink RX9 194 yX4_addBytes, Cond.instanceMethod yX4_addBytes, Cond.selects RX4 yX4_addBytes yX4_addBytes, Cond.code yX4_addBytes cX4_addBytes 5 (some .int), Cond.methodLink RX4 30 yX4_add, Cond.instanceMethod yX4_add, Cond.selects RX4 yX4_add yX4_add, Cond.code yX4_add cX4_add 2 none, Cond.methodLink RL 113 yX10_feed, Cond.instanceMethod yX10_feed, Cond.selects RX10 yX10_feed yX10_feed, Cond.code yX10_feed cX10_feed 5 (some .int), Cond.fieldLink RX10 248 "CoreTermsModel" "tapeMany" "I", Cond.methodLink RL 114 yX9_copy, Cond.instanceMethod yX9_copy, Cond.selects RX9 yX9_copy yX9_copy, Cond.code yX9_copy cX9_copy 1 (some .int), Cond.methodLink RX9 198 yX4_takeFrom, Cond.instanceMethod yX4_takeFrom, Cond.selects RX4 yX4_takeFrom yX4_takeFrom, Cond.code yX4_takeFrom cX4_takeFrom 4 (some .int)]
def wsL_law_r38 : List Cond := [Cond.methodLink RX4 34 yX2_printLength, Cond.instanceMethod yX2_printLength, Cond.selects RX2 yX2_printLength yX2_printLength, Cond.code yX2_printLength cX2_printLength 1 (some .int), Cond.methodLink RX4 40 yX2_byteAt, Cond.methodLink RL 117 yX10_copy, Cond.instanceMethod yX10_copy, Cond.selects RX10 yX10_copy yX10_copy, Cond.code yX10_copy cX10_copy 2 (some .int), Cond.methodLink RL 118 yX9_read, Cond.instanceMethod yX9_read, Cond.selects RX9 yX9_read yX9_read, Cond.code yX9_read cX9_read 1 (some .int), Cond.methodLink RX9 202 yX4_wholeTape, Cond.instanceMethod yX4_wholeTape, Cond.selects RX4 yX4_wholeTape yX4_wholeTape, Cond.code yX4_wholeTape cX4_wholeTape 4 (some .int), Cond.methodLink RX4 44 yX6_total, Cond.methodLink RX4 49 yX7_total, Cond.methodLink RX4 52 yX4_termHere, Cond.instanceMethod yX4_termHere, Cond.selects RX4 yX4_termHere yX4_termHere, Cond.code yX4_termHere cX4_termHere 3 (some .int), Cond.methodLink RX4 62 yX4_byteHere]
def wsL_law_r39 : List Cond := [Cond.instanceMethod yX4_byteHere, Cond.selects RX4 yX4_byteHere yX4_byteHere, Cond.code yX4_byteHere cX4_byteHere 1 (some .int), Cond.methodLink RX4 65 yX4_beginsTerm, Cond.static yX4_beginsTerm, Cond.code yX4_beginsTerm cX4_beginsTerm 1 (some .boolean), Cond.methodLink RX4 93 yX4_isDigit, Cond.static yX4_isDigit, Cond.code yX4_isDigit cX4_isDigit 1 (some .boolean), Cond.methodLink RX4 55 yX4_wrongHere, Cond.instanceMethod yX4_wrongHere, Cond.selects RX4 yX4_wrongHere yX4_wrongHere, Cond.code yX4_wrongHere cX4_wrongHere 1 (some .int), Cond.methodLink RX4 69 yX4_functionHere, Cond.instanceMethod yX4_functionHere, Cond.selects RX4 yX4_functionHere yX4_functionHere, Cond.methodLink RX4 72 yX4_pairHere, Cond.instanceMethod yX4_pairHere, Cond.selects RX4 yX4_pairHere yX4_pairHere, Cond.methodLink RX4 75 yX4_letHere, Cond.instanceMethod yX4_letHere, Cond.selects RX4 yX4_letHere yX4_letHere, Cond.methodLink RX4 78 yX4_choiceHere, Cond.instanceMethod yX4_choiceHere]
def wsL_law_r40 : List Cond := [Cond.selects RX4 yX4_choiceHere yX4_choiceHere, Cond.methodLink RX4 84 yX4_nameHere, Cond.instanceMethod yX4_nameHere, Cond.selects RX4 yX4_nameHere yX4_nameHere, Cond.code yX4_nameHere cX4_nameHere 2 (some .int), Cond.methodLink RX4 90 yX6_newName, Cond.methodLink RX4 87 yX4_numberHere, Cond.instanceMethod yX4_numberHere, Cond.selects RX4 yX4_numberHere yX4_numberHere, Cond.code yX4_numberHere cX4_numberHere 4 (some .int), Cond.constantLong RX4 99 (10), Cond.methodLink RX4 96 yX6_newNumber, Cond.code yX4_choiceHere cX4_choiceHere 6 (some .int), Cond.methodLink RX4 110 yX4_termBehind, Cond.instanceMethod yX4_termBehind, Cond.selects RX4 yX4_termBehind yX4_termBehind, Cond.methodLink RX4 104 yX4_pass, Cond.instanceMethod yX4_pass, Cond.selects RX4 yX4_pass yX4_pass, Cond.code yX4_pass cX4_pass 2 (some .int), Cond.methodLink RX4 118 yX6_newJoined, Cond.code yX4_functionHere cX4_functionHere 6 (some .int), Cond.methodLink RX4 101 yX4_letterBehind, Cond.instanceMethod yX4_letterBehind]
def wsL_law_r41 : List Cond := [Cond.selects RX4 yX4_letterBehind yX4_letterBehind, Cond.code yX4_letterBehind cX4_letterBehind 4 (some .int), Cond.methodLink RX4 107 yX4_typeHere, Cond.instanceMethod yX4_typeHere, Cond.selects RX4 yX4_typeHere yX4_typeHere, Cond.code yX4_typeHere cX4_typeHere 6 (some .int), Cond.methodLink RX4 125 yX4_beginsType, Cond.static yX4_beginsType, Cond.code yX4_beginsType cX4_beginsType 1 (some .boolean), Cond.methodLink RX4 128 yX4_typeBehind, Cond.instanceMethod yX4_typeBehind, Cond.selects RX4 yX4_typeBehind yX4_typeBehind, Cond.methodLink RX4 131 yX7_arrowOf, Cond.code yX4_typeBehind cX4_typeBehind 4 (some .int), Cond.methodLink RX4 114 yX6_newFunction, Cond.code yX4_letHere cX4_letHere 5 (some .int), Cond.methodLink RX4 122 yX6_newLet, Cond.code yX4_pairHere cX4_pairHere 6 (some .int), Cond.code yX4_termBehind cX4_termBehind 4 (some .int), Cond.methodLink RX4 58 yX6_cutTo, Cond.methodLink RX4 61 yX7_cutTo, Cond.methodLink RL 121 yX10_read, Cond.instanceMethod yX10_read, Cond.selects RX10 yX10_read yX10_read]
def wsL_law_r42 : List Cond := [Cond.code yX10_read cX10_read 3 (some .int), Cond.fieldLink RX10 251 "CoreTermsModel" "place" "I", Cond.fieldLink RX10 254 "CoreTermsModel" "fails" "I", Cond.methodLink RX10 282 yX10_readPart, Cond.instanceMethod yX10_readPart, Cond.selects RX10 yX10_readPart yX10_readPart, Cond.code yX10_readPart cX10_readPart 6 none, Cond.methodLink RX10 257 yX10_byteHere, Cond.instanceMethod yX10_byteHere, Cond.selects RX10 yX10_byteHere yX10_byteHere, Cond.code yX10_byteHere cX10_byteHere 1 (some .int), Cond.methodLink RX10 261 yX10_must, Cond.instanceMethod yX10_must, Cond.selects RX10 yX10_must yX10_must, Cond.code yX10_must cX10_must 2 none, Cond.methodLink RX10 270 yX10_made, Cond.instanceMethod yX10_made, Cond.selects RX10 yX10_made yX10_made, Cond.code yX10_made cX10_made 2 none, Cond.methodLink RX10 285 yX10_begins, Cond.static yX10_begins, Cond.code yX10_begins cX10_begins 1 (some .boolean), Cond.methodLink RX10 288 yX10_readBegin, Cond.instanceMethod yX10_readBegin]
def wsL_law_r43 : List Cond := [Cond.selects RX10 yX10_readBegin yX10_readBegin, Cond.code yX10_readBegin cX10_readBegin 4 none, Cond.methodLink RX10 273 yX10_readNumber, Cond.instanceMethod yX10_readNumber, Cond.selects RX10 yX10_readNumber yX10_readNumber, Cond.code yX10_readNumber cX10_readNumber 7 none, Cond.constantLong RX10 264 (2147483648), Cond.constantLong RX10 266 (2147483647), Cond.constantLong RX10 268 (48), Cond.methodLink RX10 276 yX10_mustLetter, Cond.instanceMethod yX10_mustLetter, Cond.selects RX10 yX10_mustLetter yX10_mustLetter, Cond.code yX10_mustLetter cX10_mustLetter 2 (some .int), Cond.methodLink RX10 279 yX10_readType, Cond.instanceMethod yX10_readType, Cond.selects RX10 yX10_readType yX10_readType, Cond.code yX10_readType cX10_readType 4 (some .int), Cond.methodLink RL 122 yX9_count, Cond.instanceMethod yX9_count, Cond.selects RX9 yX9_count yX9_count, Cond.code yX9_count cX9_count 2 (some .int), Cond.methodLink RX9 205 yX7_total, Cond.methodLink RX9 206 yX4_tapeLength, Cond.instanceMethod yX4_tapeLength]
def wsL_law_r44 : List Cond := [Cond.selects RX4 yX4_tapeLength yX4_tapeLength, Cond.code yX4_tapeLength cX4_tapeLength 1 (some .int), Cond.methodLink RX9 209 yX2_printLength, Cond.methodLink RL 125 yX10_count, Cond.instanceMethod yX10_count, Cond.selects RX10 yX10_count yX10_count, Cond.code yX10_count cX10_count 2 (some .int), Cond.methodLink RL 126 yX9_clear, Cond.instanceMethod yX9_clear, Cond.selects RX9 yX9_clear yX9_clear, Cond.code yX9_clear cX9_clear 2 (some .int), Cond.methodLink RL 129 yX10_clear, Cond.instanceMethod yX10_clear, Cond.selects RX10 yX10_clear yX10_clear, Cond.code yX10_clear cX10_clear 2 (some .int)]
def wsL_law : List Cond := (wsL_law_r1 ++ (wsL_law_r2 ++ (wsL_law_r3 ++ (wsL_law_r4 ++ (wsL_law_r5 ++ (wsL_law_r6 ++ (wsL_law_r7 ++ (wsL_law_r8 ++ (wsL_law_r9 ++ (wsL_law_r10 ++ (wsL_law_r11 ++ (wsL_law_r12 ++ (wsL_law_r13 ++ (wsL_law_r14 ++ (wsL_law_r15 ++ (wsL_law_r16 ++ (wsL_law_r17 ++ (wsL_law_r18 ++ (wsL_law_r19 ++ (wsL_law_r20 ++ (wsL_law_r21 ++ (wsL_law_r22 ++ (wsL_law_r23 ++ (wsL_law_r24 ++ (wsL_law_r25 ++ (wsL_law_r26 ++ (wsL_law_r27 ++ (wsL_law_r28 ++ (wsL_law_r29 ++ (wsL_law_r30 ++ (wsL_law_r31 ++ (wsL_law_r32 ++ (wsL_law_r33 ++ (wsL_law_r34 ++ (wsL_law_r35 ++ (wsL_law_r36 ++ (wsL_law_r37 ++ (wsL_law_r38 ++ (wsL_law_r39 ++ (wsL_law_r40 ++ (wsL_law_r41 ++ (wsL_law_r42 ++ (wsL_law_r43 ++ wsL_law_r44))))))))))))))))))))))))))))))))))))))))))) ++ wsX90 ++ wsX100 ++ wsX70 ++ wsX60 ++ wsX80 ++ wsX00 ++ wsX30 ++ wsX50 ++ wsX10 ++ wsX20 ++ wsX40 ++ ([] : List Cond)
theorem inlX0 : ∀ w ∈ wsX00, w ∈ wsL_law := fun _ h => List.mem_append_left _ (List.mem_append_left _ (List.mem_append_left _ (List.mem_append_left _ (List.mem_append_left _ (List.mem_append_left _ (List.mem_append_right _ h))))))
theorem inlX1 : ∀ w ∈ wsX10, w ∈ wsL_law := fun _ h => List.mem_append_left _ (List.mem_append_left _ (List.mem_append_left _ (List.mem_append_right _ h)))
theorem inlX2 : ∀ w ∈ wsX20, w ∈ wsL_law := fun _ h => List.mem_append_left _ (List.mem_append_left _ (List.mem_append_right _ h))
theorem inlX3 : ∀ w ∈ wsX30, w ∈ wsL_law := fun _ h => List.mem_append_left _ (List.mem_append_left _ (List.mem_append_left _ (List.mem_append_left _ (List.mem_append_left _ (List.mem_append_right _ h)))))
theorem inlX4 : ∀ w ∈ wsX40, w ∈ wsL_law := fun _ h => List.mem_append_left _ (List.mem_append_right _ h)
theorem inlX5 : ∀ w ∈ wsX50, w ∈ wsL_law := fun _ h => List.mem_append_left _ (List.mem_append_left _ (List.mem_append_left _ (List.mem_append_left _ (List.mem_append_right _ h))))
theorem inlX6 : ∀ w ∈ wsX60, w ∈ wsL_law := fun _ h => List.mem_append_left _ (List.mem_append_left _ (List.mem_append_left _ (List.mem_append_left _ (List.mem_append_left _ (List.mem_append_left _ (List.mem_append_left _ (List.mem_append_left _ (List.mem_append_right _ h))))))))
theorem inlX7 : ∀ w ∈ wsX70, w ∈ wsL_law := fun _ h => List.mem_append_left _ (List.mem_append_left _ (List.mem_append_left _ (List.mem_append_left _ (List.mem_append_left _ (List.mem_append_left _ (List.mem_append_left _ (List.mem_append_left _ (List.mem_append_left _ (List.mem_append_right _ h)))))))))
theorem inlX8 : ∀ w ∈ wsX80, w ∈ wsL_law := fun _ h => List.mem_append_left _ (List.mem_append_left _ (List.mem_append_left _ (List.mem_append_left _ (List.mem_append_left _ (List.mem_append_left _ (List.mem_append_left _ (List.mem_append_right _ h)))))))
theorem inlX9 : ∀ w ∈ wsX90, w ∈ wsL_law := fun _ h => List.mem_append_left _ (List.mem_append_left _ (List.mem_append_left _ (List.mem_append_left _ (List.mem_append_left _ (List.mem_append_left _ (List.mem_append_left _ (List.mem_append_left _ (List.mem_append_left _ (List.mem_append_left _ (List.mem_append_left _ (List.mem_append_right _ h)))))))))))
theorem inlX10 : ∀ w ∈ wsX100, w ∈ wsL_law := fun _ h => List.mem_append_left _ (List.mem_append_left _ (List.mem_append_left _ (List.mem_append_left _ (List.mem_append_left _ (List.mem_append_left _ (List.mem_append_left _ (List.mem_append_left _ (List.mem_append_left _ (List.mem_append_left _ (List.mem_append_right _ h))))))))))
abbrev vwCl : List vw_C := [(RX0, TX0, 3), (RX1, TX1, 1), (RX2, TX2, 4), (RX3, TX3, 1), (RX4, TX4, 5), (RX5, TX5, 2), (RX6, TX6, 13), (RX7, TX7, 4), (RX8, TX8, 6), (RX9, TX9, 10), (RX10, TX10, 43)]
def jTb : List Cond := wsL_law
theorem mr_1 : ∀ w ∈ wsL_law_r1, w ∈ jTb := fun _ h => List.mem_append_left _ (List.mem_append_left _ (List.mem_append_left _ (List.mem_append_left _ (List.mem_append_left _ (List.mem_append_left _ (List.mem_append_left _ (List.mem_append_left _ (List.mem_append_left _ (List.mem_append_left _ (List.mem_append_left _ (List.mem_append_left _ (List.mem_append_left _ h))))))))))))
theorem mr_2 : ∀ w ∈ wsL_law_r2, w ∈ jTb := fun _ h => List.mem_append_left _ (List.mem_append_left _ (List.mem_append_left _ (List.mem_append_left _ (List.mem_append_left _ (List.mem_append_left _ (List.mem_append_left _ (List.mem_append_left _ (List.mem_append_left _ (List.mem_append_left _ (List.mem_append_left _ (List.mem_append_left _ (List.mem_append_right _ (List.mem_append_left _ h)))))))))))))
theorem mr_3 : ∀ w ∈ wsL_law_r3, w ∈ jTb := fun _ h => List.mem_append_left _ (List.mem_append_left _ (List.mem_append_left _ (List.mem_append_left _ (List.mem_append_left _ (List.mem_append_left _ (List.mem_append_left _ (List.mem_append_left _ (List.mem_append_left _ (List.mem_append_left _ (List.mem_append_left _ (List.mem_append_left _ (List.mem_append_right _ (List.mem_append_right _ (List.mem_append_left _ h))))))))))))))
theorem mr_4 : ∀ w ∈ wsL_law_r4, w ∈ jTb := fun _ h => List.mem_append_left _ (List.mem_append_left _ (List.mem_append_left _ (List.mem_append_left _ (List.mem_append_left _ (List.mem_append_left _ (List.mem_append_left _ (List.mem_append_left _ (List.mem_append_left _ (List.mem_append_left _ (List.mem_append_left _ (List.mem_append_left _ (List.mem_append_right _ (List.mem_append_right _ (List.mem_append_right _ (List.mem_append_left _ h)))))))))))))))
theorem mr_5 : ∀ w ∈ wsL_law_r5, w ∈ jTb := fun _ h => List.mem_append_left _ (List.mem_append_left _ (List.mem_append_left _ (List.mem_append_left _ (List.mem_append_left _ (List.mem_append_left _ (List.mem_append_left _ (List.mem_append_left _ (List.mem_append_left _ (List.mem_append_left _ (List.mem_append_left _ (List.mem_append_left _ (List.mem_append_right _ (List.mem_append_right _ (List.mem_append_right _ (List.mem_append_right _ (List.mem_append_left _ h))))))))))))))))
theorem mr_6 : ∀ w ∈ wsL_law_r6, w ∈ jTb := fun _ h => List.mem_append_left _ (List.mem_append_left _ (List.mem_append_left _ (List.mem_append_left _ (List.mem_append_left _ (List.mem_append_left _ (List.mem_append_left _ (List.mem_append_left _ (List.mem_append_left _ (List.mem_append_left _ (List.mem_append_left _ (List.mem_append_left _ (List.mem_append_right _ (List.mem_append_right _ (List.mem_append_right _ (List.mem_append_right _ (List.mem_append_right _ (List.mem_append_left _ h)))))))))))))))))
theorem mr_7 : ∀ w ∈ wsL_law_r7, w ∈ jTb := fun _ h => List.mem_append_left _ (List.mem_append_left _ (List.mem_append_left _ (List.mem_append_left _ (List.mem_append_left _ (List.mem_append_left _ (List.mem_append_left _ (List.mem_append_left _ (List.mem_append_left _ (List.mem_append_left _ (List.mem_append_left _ (List.mem_append_left _ (List.mem_append_right _ (List.mem_append_right _ (List.mem_append_right _ (List.mem_append_right _ (List.mem_append_right _ (List.mem_append_right _ (List.mem_append_left _ h))))))))))))))))))
theorem mr_8 : ∀ w ∈ wsL_law_r8, w ∈ jTb := fun _ h => List.mem_append_left _ (List.mem_append_left _ (List.mem_append_left _ (List.mem_append_left _ (List.mem_append_left _ (List.mem_append_left _ (List.mem_append_left _ (List.mem_append_left _ (List.mem_append_left _ (List.mem_append_left _ (List.mem_append_left _ (List.mem_append_left _ (List.mem_append_right _ (List.mem_append_right _ (List.mem_append_right _ (List.mem_append_right _ (List.mem_append_right _ (List.mem_append_right _ (List.mem_append_right _ (List.mem_append_left _ h)))))))))))))))))))
theorem mr_9 : ∀ w ∈ wsL_law_r9, w ∈ jTb := fun _ h => List.mem_append_left _ (List.mem_append_left _ (List.mem_append_left _ (List.mem_append_left _ (List.mem_append_left _ (List.mem_append_left _ (List.mem_append_left _ (List.mem_append_left _ (List.mem_append_left _ (List.mem_append_left _ (List.mem_append_left _ (List.mem_append_left _ (List.mem_append_right _ (List.mem_append_right _ (List.mem_append_right _ (List.mem_append_right _ (List.mem_append_right _ (List.mem_append_right _ (List.mem_append_right _ (List.mem_append_right _ (List.mem_append_left _ h))))))))))))))))))))
theorem mr_10 : ∀ w ∈ wsL_law_r10, w ∈ jTb := fun _ h => List.mem_append_left _ (List.mem_append_left _ (List.mem_append_left _ (List.mem_append_left _ (List.mem_append_left _ (List.mem_append_left _ (List.mem_append_left _ (List.mem_append_left _ (List.mem_append_left _ (List.mem_append_left _ (List.mem_append_left _ (List.mem_append_left _ (List.mem_append_right _ (List.mem_append_right _ (List.mem_append_right _ (List.mem_append_right _ (List.mem_append_right _ (List.mem_append_right _ (List.mem_append_right _ (List.mem_append_right _ (List.mem_append_right _ (List.mem_append_left _ h)))))))))))))))))))))
theorem mr_11 : ∀ w ∈ wsL_law_r11, w ∈ jTb := fun _ h => List.mem_append_left _ (List.mem_append_left _ (List.mem_append_left _ (List.mem_append_left _ (List.mem_append_left _ (List.mem_append_left _ (List.mem_append_left _ (List.mem_append_left _ (List.mem_append_left _ (List.mem_append_left _ (List.mem_append_left _ (List.mem_append_left _ (List.mem_append_right _ (List.mem_append_right _ (List.mem_append_right _ (List.mem_append_right _ (List.mem_append_right _ (List.mem_append_right _ (List.mem_append_right _ (List.mem_append_right _ (List.mem_append_right _ (List.mem_append_right _ (List.mem_append_left _ h))))))))))))))))))))))
theorem mr_12 : ∀ w ∈ wsL_law_r12, w ∈ jTb := fun _ h => List.mem_append_left _ (List.mem_append_left _ (List.mem_append_left _ (List.mem_append_left _ (List.mem_append_left _ (List.mem_append_left _ (List.mem_append_left _ (List.mem_append_left _ (List.mem_append_left _ (List.mem_append_left _ (List.mem_append_left _ (List.mem_append_left _ (List.mem_append_right _ (List.mem_append_right _ (List.mem_append_right _ (List.mem_append_right _ (List.mem_append_right _ (List.mem_append_right _ (List.mem_append_right _ (List.mem_append_right _ (List.mem_append_right _ (List.mem_append_right _ (List.mem_append_right _ (List.mem_append_left _ h)))))))))))))))))))))))
theorem mr_13 : ∀ w ∈ wsL_law_r13, w ∈ jTb := fun _ h => List.mem_append_left _ (List.mem_append_left _ (List.mem_append_left _ (List.mem_append_left _ (List.mem_append_left _ (List.mem_append_left _ (List.mem_append_left _ (List.mem_append_left _ (List.mem_append_left _ (List.mem_append_left _ (List.mem_append_left _ (List.mem_append_left _ (List.mem_append_right _ (List.mem_append_right _ (List.mem_append_right _ (List.mem_append_right _ (List.mem_append_right _ (List.mem_append_right _ (List.mem_append_right _ (List.mem_append_right _ (List.mem_append_right _ (List.mem_append_right _ (List.mem_append_right _ (List.mem_append_right _ (List.mem_append_left _ h))))))))))))))))))))))))
theorem mr_14 : ∀ w ∈ wsL_law_r14, w ∈ jTb := fun _ h => List.mem_append_left _ (List.mem_append_left _ (List.mem_append_left _ (List.mem_append_left _ (List.mem_append_left _ (List.mem_append_left _ (List.mem_append_left _ (List.mem_append_left _ (List.mem_append_left _ (List.mem_append_left _ (List.mem_append_left _ (List.mem_append_left _ (List.mem_append_right _ (List.mem_append_right _ (List.mem_append_right _ (List.mem_append_right _ (List.mem_append_right _ (List.mem_append_right _ (List.mem_append_right _ (List.mem_append_right _ (List.mem_append_right _ (List.mem_append_right _ (List.mem_append_right _ (List.mem_append_right _ (List.mem_append_right _ (List.mem_append_left _ h)))))))))))))))))))))))))
theorem mr_15 : ∀ w ∈ wsL_law_r15, w ∈ jTb := fun _ h => List.mem_append_left _ (List.mem_append_left _ (List.mem_append_left _ (List.mem_append_left _ (List.mem_append_left _ (List.mem_append_left _ (List.mem_append_left _ (List.mem_append_left _ (List.mem_append_left _ (List.mem_append_left _ (List.mem_append_left _ (List.mem_append_left _ (List.mem_append_right _ (List.mem_append_right _ (List.mem_append_right _ (List.mem_append_right _ (List.mem_append_right _ (List.mem_append_right _ (List.mem_append_right _ (List.mem_append_right _ (List.mem_append_right _ (List.mem_append_right _ (List.mem_append_right _ (List.mem_append_right _ (List.mem_append_right _ (List.mem_append_right _ (List.mem_append_left _ h))))))))))))))))))))))))))
theorem mr_16 : ∀ w ∈ wsL_law_r16, w ∈ jTb := fun _ h => List.mem_append_left _ (List.mem_append_left _ (List.mem_append_left _ (List.mem_append_left _ (List.mem_append_left _ (List.mem_append_left _ (List.mem_append_left _ (List.mem_append_left _ (List.mem_append_left _ (List.mem_append_left _ (List.mem_append_left _ (List.mem_append_left _ (List.mem_append_right _ (List.mem_append_right _ (List.mem_append_right _ (List.mem_append_right _ (List.mem_append_right _ (List.mem_append_right _ (List.mem_append_right _ (List.mem_append_right _ (List.mem_append_right _ (List.mem_append_right _ (List.mem_append_right _ (List.mem_append_right _ (List.mem_append_right _ (List.mem_append_right _ (List.mem_append_right _ (List.mem_append_left _ h)))))))))))))))))))))))))))
theorem mr_17 : ∀ w ∈ wsL_law_r17, w ∈ jTb := fun _ h => List.mem_append_left _ (List.mem_append_left _ (List.mem_append_left _ (List.mem_append_left _ (List.mem_append_left _ (List.mem_append_left _ (List.mem_append_left _ (List.mem_append_left _ (List.mem_append_left _ (List.mem_append_left _ (List.mem_append_left _ (List.mem_append_left _ (List.mem_append_right _ (List.mem_append_right _ (List.mem_append_right _ (List.mem_append_right _ (List.mem_append_right _ (List.mem_append_right _ (List.mem_append_right _ (List.mem_append_right _ (List.mem_append_right _ (List.mem_append_right _ (List.mem_append_right _ (List.mem_append_right _ (List.mem_append_right _ (List.mem_append_right _ (List.mem_append_right _ (List.mem_append_right _ (List.mem_append_left _ h))))))))))))))))))))))))))))
theorem mr_18 : ∀ w ∈ wsL_law_r18, w ∈ jTb := fun _ h => List.mem_append_left _ (List.mem_append_left _ (List.mem_append_left _ (List.mem_append_left _ (List.mem_append_left _ (List.mem_append_left _ (List.mem_append_left _ (List.mem_append_left _ (List.mem_append_left _ (List.mem_append_left _ (List.mem_append_left _ (List.mem_append_left _ (List.mem_append_right _ (List.mem_append_right _ (List.mem_append_right _ (List.mem_append_right _ (List.mem_append_right _ (List.mem_append_right _ (List.mem_append_right _ (List.mem_append_right _ (List.mem_append_right _ (List.mem_append_right _ (List.mem_append_right _ (List.mem_append_right _ (List.mem_append_right _ (List.mem_append_right _ (List.mem_append_right _ (List.mem_append_right _ (List.mem_append_right _ (List.mem_append_left _ h)))))))))))))))))))))))))))))
theorem mr_19 : ∀ w ∈ wsL_law_r19, w ∈ jTb := fun _ h => List.mem_append_left _ (List.mem_append_left _ (List.mem_append_left _ (List.mem_append_left _ (List.mem_append_left _ (List.mem_append_left _ (List.mem_append_left _ (List.mem_append_left _ (List.mem_append_left _ (List.mem_append_left _ (List.mem_append_left _ (List.mem_append_left _ (List.mem_append_right _ (List.mem_append_right _ (List.mem_append_right _ (List.mem_append_right _ (List.mem_append_right _ (List.mem_append_right _ (List.mem_append_right _ (List.mem_append_right _ (List.mem_append_right _ (List.mem_append_right _ (List.mem_append_right _ (List.mem_append_right _ (List.mem_append_right _ (List.mem_append_right _ (List.mem_append_right _ (List.mem_append_right _ (List.mem_append_right _ (List.mem_append_right _ (List.mem_append_left _ h))))))))))))))))))))))))))))))
theorem mr_20 : ∀ w ∈ wsL_law_r20, w ∈ jTb := fun _ h => List.mem_append_left _ (List.mem_append_left _ (List.mem_append_left _ (List.mem_append_left _ (List.mem_append_left _ (List.mem_append_left _ (List.mem_append_left _ (List.mem_append_left _ (List.mem_append_left _ (List.mem_append_left _ (List.mem_append_left _ (List.mem_append_left _ (List.mem_append_right _ (List.mem_append_right _ (List.mem_append_right _ (List.mem_append_right _ (List.mem_append_right _ (List.mem_append_right _ (List.mem_append_right _ (List.mem_append_right _ (List.mem_append_right _ (List.mem_append_right _ (List.mem_append_right _ (List.mem_append_right _ (List.mem_append_right _ (List.mem_append_right _ (List.mem_append_right _ (List.mem_append_right _ (List.mem_append_right _ (List.mem_append_right _ (List.mem_append_right _ (List.mem_append_left _ h)))))))))))))))))))))))))))))))
theorem mr_21 : ∀ w ∈ wsL_law_r21, w ∈ jTb := fun _ h => List.mem_append_left _ (List.mem_append_left _ (List.mem_append_left _ (List.mem_append_left _ (List.mem_append_left _ (List.mem_append_left _ (List.mem_append_left _ (List.mem_append_left _ (List.mem_append_left _ (List.mem_append_left _ (List.mem_append_left _ (List.mem_append_left _ (List.mem_append_right _ (List.mem_append_right _ (List.mem_append_right _ (List.mem_append_right _ (List.mem_append_right _ (List.mem_append_right _ (List.mem_append_right _ (List.mem_append_right _ (List.mem_append_right _ (List.mem_append_right _ (List.mem_append_right _ (List.mem_append_right _ (List.mem_append_right _ (List.mem_append_right _ (List.mem_append_right _ (List.mem_append_right _ (List.mem_append_right _ (List.mem_append_right _ (List.mem_append_right _ (List.mem_append_right _ (List.mem_append_left _ h))))))))))))))))))))))))))))))))
theorem mr_22 : ∀ w ∈ wsL_law_r22, w ∈ jTb := fun _ h => List.mem_append_left _ (List.mem_append_left _ (List.mem_append_left _ (List.mem_append_left _ (List.mem_append_left _ (List.mem_append_left _ (List.mem_append_left _ (List.mem_append_left _ (List.mem_append_left _ (List.mem_append_left _ (List.mem_append_left _ (List.mem_append_left _ (List.mem_append_right _ (List.mem_append_right _ (List.mem_append_right _ (List.mem_append_right _ (List.mem_append_right _ (List.mem_append_right _ (List.mem_append_right _ (List.mem_append_right _ (List.mem_append_right _ (List.mem_append_right _ (List.mem_append_right _ (List.mem_append_right _ (List.mem_append_right _ (List.mem_append_right _ (List.mem_append_right _ (List.mem_append_right _ (List.mem_append_right _ (List.mem_append_right _ (List.mem_append_right _ (List.mem_append_right _ (List.mem_append_right _ (List.mem_append_left _ h)))))))))))))))))))))))))))))))))
theorem mr_23 : ∀ w ∈ wsL_law_r23, w ∈ jTb := fun _ h => List.mem_append_left _ (List.mem_append_left _ (List.mem_append_left _ (List.mem_append_left _ (List.mem_append_left _ (List.mem_append_left _ (List.mem_append_left _ (List.mem_append_left _ (List.mem_append_left _ (List.mem_append_left _ (List.mem_append_left _ (List.mem_append_left _ (List.mem_append_right _ (List.mem_append_right _ (List.mem_append_right _ (List.mem_append_right _ (List.mem_append_right _ (List.mem_append_right _ (List.mem_append_right _ (List.mem_append_right _ (List.mem_append_right _ (List.mem_append_right _ (List.mem_append_right _ (List.mem_append_right _ (List.mem_append_right _ (List.mem_append_right _ (List.mem_append_right _ (List.mem_append_right _ (List.mem_append_right _ (List.mem_append_right _ (List.mem_append_right _ (List.mem_append_right _ (List.mem_append_right _ (List.mem_append_right _ (List.mem_append_left _ h))))))))))))))))))))))))))))))))))
theorem mr_24 : ∀ w ∈ wsL_law_r24, w ∈ jTb := fun _ h => List.mem_append_left _ (List.mem_append_left _ (List.mem_append_left _ (List.mem_append_left _ (List.mem_append_left _ (List.mem_append_left _ (List.mem_append_left _ (List.mem_append_left _ (List.mem_append_left _ (List.mem_append_left _ (List.mem_append_left _ (List.mem_append_left _ (List.mem_append_right _ (List.mem_append_right _ (List.mem_append_right _ (List.mem_append_right _ (List.mem_append_right _ (List.mem_append_right _ (List.mem_append_right _ (List.mem_append_right _ (List.mem_append_right _ (List.mem_append_right _ (List.mem_append_right _ (List.mem_append_right _ (List.mem_append_right _ (List.mem_append_right _ (List.mem_append_right _ (List.mem_append_right _ (List.mem_append_right _ (List.mem_append_right _ (List.mem_append_right _ (List.mem_append_right _ (List.mem_append_right _ (List.mem_append_right _ (List.mem_append_right _ (List.mem_append_left _ h)))))))))))))))))))))))))))))))))))
theorem mr_25 : ∀ w ∈ wsL_law_r25, w ∈ jTb := fun _ h => List.mem_append_left _ (List.mem_append_left _ (List.mem_append_left _ (List.mem_append_left _ (List.mem_append_left _ (List.mem_append_left _ (List.mem_append_left _ (List.mem_append_left _ (List.mem_append_left _ (List.mem_append_left _ (List.mem_append_left _ (List.mem_append_left _ (List.mem_append_right _ (List.mem_append_right _ (List.mem_append_right _ (List.mem_append_right _ (List.mem_append_right _ (List.mem_append_right _ (List.mem_append_right _ (List.mem_append_right _ (List.mem_append_right _ (List.mem_append_right _ (List.mem_append_right _ (List.mem_append_right _ (List.mem_append_right _ (List.mem_append_right _ (List.mem_append_right _ (List.mem_append_right _ (List.mem_append_right _ (List.mem_append_right _ (List.mem_append_right _ (List.mem_append_right _ (List.mem_append_right _ (List.mem_append_right _ (List.mem_append_right _ (List.mem_append_right _ (List.mem_append_left _ h))))))))))))))))))))))))))))))))))))
theorem mr_26 : ∀ w ∈ wsL_law_r26, w ∈ jTb := fun _ h => List.mem_append_left _ (List.mem_append_left _ (List.mem_append_left _ (List.mem_append_left _ (List.mem_append_left _ (List.mem_append_left _ (List.mem_append_left _ (List.mem_append_left _ (List.mem_append_left _ (List.mem_append_left _ (List.mem_append_left _ (List.mem_append_left _ (List.mem_append_right _ (List.mem_append_right _ (List.mem_append_right _ (List.mem_append_right _ (List.mem_append_right _ (List.mem_append_right _ (List.mem_append_right _ (List.mem_append_right _ (List.mem_append_right _ (List.mem_append_right _ (List.mem_append_right _ (List.mem_append_right _ (List.mem_append_right _ (List.mem_append_right _ (List.mem_append_right _ (List.mem_append_right _ (List.mem_append_right _ (List.mem_append_right _ (List.mem_append_right _ (List.mem_append_right _ (List.mem_append_right _ (List.mem_append_right _ (List.mem_append_right _ (List.mem_append_right _ (List.mem_append_right _ (List.mem_append_left _ h)))))))))))))))))))))))))))))))))))))
theorem mr_27 : ∀ w ∈ wsL_law_r27, w ∈ jTb := fun _ h => List.mem_append_left _ (List.mem_append_left _ (List.mem_append_left _ (List.mem_append_left _ (List.mem_append_left _ (List.mem_append_left _ (List.mem_append_left _ (List.mem_append_left _ (List.mem_append_left _ (List.mem_append_left _ (List.mem_append_left _ (List.mem_append_left _ (List.mem_append_right _ (List.mem_append_right _ (List.mem_append_right _ (List.mem_append_right _ (List.mem_append_right _ (List.mem_append_right _ (List.mem_append_right _ (List.mem_append_right _ (List.mem_append_right _ (List.mem_append_right _ (List.mem_append_right _ (List.mem_append_right _ (List.mem_append_right _ (List.mem_append_right _ (List.mem_append_right _ (List.mem_append_right _ (List.mem_append_right _ (List.mem_append_right _ (List.mem_append_right _ (List.mem_append_right _ (List.mem_append_right _ (List.mem_append_right _ (List.mem_append_right _ (List.mem_append_right _ (List.mem_append_right _ (List.mem_append_right _ (List.mem_append_left _ h))))))))))))))))))))))))))))))))))))))
theorem mr_28 : ∀ w ∈ wsL_law_r28, w ∈ jTb := fun _ h => List.mem_append_left _ (List.mem_append_left _ (List.mem_append_left _ (List.mem_append_left _ (List.mem_append_left _ (List.mem_append_left _ (List.mem_append_left _ (List.mem_append_left _ (List.mem_append_left _ (List.mem_append_left _ (List.mem_append_left _ (List.mem_append_left _ (List.mem_append_right _ (List.mem_append_right _ (List.mem_append_right _ (List.mem_append_right _ (List.mem_append_right _ (List.mem_append_right _ (List.mem_append_right _ (List.mem_append_right _ (List.mem_append_right _ (List.mem_append_right _ (List.mem_append_right _ (List.mem_append_right _ (List.mem_append_right _ (List.mem_append_right _ (List.mem_append_right _ (List.mem_append_right _ (List.mem_append_right _ (List.mem_append_right _ (List.mem_append_right _ (List.mem_append_right _ (List.mem_append_right _ (List.mem_append_right _ (List.mem_append_right _ (List.mem_append_right _ (List.mem_append_right _ (List.mem_append_right _ (List.mem_append_right _ (List.mem_append_left _ h)))))))))))))))))))))))))))))))))))))))
theorem mr_29 : ∀ w ∈ wsL_law_r29, w ∈ jTb := fun _ h => List.mem_append_left _ (List.mem_append_left _ (List.mem_append_left _ (List.mem_append_left _ (List.mem_append_left _ (List.mem_append_left _ (List.mem_append_left _ (List.mem_append_left _ (List.mem_append_left _ (List.mem_append_left _ (List.mem_append_left _ (List.mem_append_left _ (List.mem_append_right _ (List.mem_append_right _ (List.mem_append_right _ (List.mem_append_right _ (List.mem_append_right _ (List.mem_append_right _ (List.mem_append_right _ (List.mem_append_right _ (List.mem_append_right _ (List.mem_append_right _ (List.mem_append_right _ (List.mem_append_right _ (List.mem_append_right _ (List.mem_append_right _ (List.mem_append_right _ (List.mem_append_right _ (List.mem_append_right _ (List.mem_append_right _ (List.mem_append_right _ (List.mem_append_right _ (List.mem_append_right _ (List.mem_append_right _ (List.mem_append_right _ (List.mem_append_right _ (List.mem_append_right _ (List.mem_append_right _ (List.mem_append_right _ (List.mem_append_right _ (List.mem_append_left _ h))))))))))))))))))))))))))))))))))))))))
theorem mr_30 : ∀ w ∈ wsL_law_r30, w ∈ jTb := fun _ h => List.mem_append_left _ (List.mem_append_left _ (List.mem_append_left _ (List.mem_append_left _ (List.mem_append_left _ (List.mem_append_left _ (List.mem_append_left _ (List.mem_append_left _ (List.mem_append_left _ (List.mem_append_left _ (List.mem_append_left _ (List.mem_append_left _ (List.mem_append_right _ (List.mem_append_right _ (List.mem_append_right _ (List.mem_append_right _ (List.mem_append_right _ (List.mem_append_right _ (List.mem_append_right _ (List.mem_append_right _ (List.mem_append_right _ (List.mem_append_right _ (List.mem_append_right _ (List.mem_append_right _ (List.mem_append_right _ (List.mem_append_right _ (List.mem_append_right _ (List.mem_append_right _ (List.mem_append_right _ (List.mem_append_right _ (List.mem_append_right _ (List.mem_append_right _ (List.mem_append_right _ (List.mem_append_right _ (List.mem_append_right _ (List.mem_append_right _ (List.mem_append_right _ (List.mem_append_right _ (List.mem_append_right _ (List.mem_append_right _ (List.mem_append_right _ (List.mem_append_left _ h)))))))))))))))))))))))))))))))))))))))))
theorem mr_31 : ∀ w ∈ wsL_law_r31, w ∈ jTb := fun _ h => List.mem_append_left _ (List.mem_append_left _ (List.mem_append_left _ (List.mem_append_left _ (List.mem_append_left _ (List.mem_append_left _ (List.mem_append_left _ (List.mem_append_left _ (List.mem_append_left _ (List.mem_append_left _ (List.mem_append_left _ (List.mem_append_left _ (List.mem_append_right _ (List.mem_append_right _ (List.mem_append_right _ (List.mem_append_right _ (List.mem_append_right _ (List.mem_append_right _ (List.mem_append_right _ (List.mem_append_right _ (List.mem_append_right _ (List.mem_append_right _ (List.mem_append_right _ (List.mem_append_right _ (List.mem_append_right _ (List.mem_append_right _ (List.mem_append_right _ (List.mem_append_right _ (List.mem_append_right _ (List.mem_append_right _ (List.mem_append_right _ (List.mem_append_right _ (List.mem_append_right _ (List.mem_append_right _ (List.mem_append_right _ (List.mem_append_right _ (List.mem_append_right _ (List.mem_append_right _ (List.mem_append_right _ (List.mem_append_right _ (List.mem_append_right _ (List.mem_append_right _ (List.mem_append_left _ h))))))))))))))))))))))))))))))))))))))))))
theorem mr_32 : ∀ w ∈ wsL_law_r32, w ∈ jTb := fun _ h => List.mem_append_left _ (List.mem_append_left _ (List.mem_append_left _ (List.mem_append_left _ (List.mem_append_left _ (List.mem_append_left _ (List.mem_append_left _ (List.mem_append_left _ (List.mem_append_left _ (List.mem_append_left _ (List.mem_append_left _ (List.mem_append_left _ (List.mem_append_right _ (List.mem_append_right _ (List.mem_append_right _ (List.mem_append_right _ (List.mem_append_right _ (List.mem_append_right _ (List.mem_append_right _ (List.mem_append_right _ (List.mem_append_right _ (List.mem_append_right _ (List.mem_append_right _ (List.mem_append_right _ (List.mem_append_right _ (List.mem_append_right _ (List.mem_append_right _ (List.mem_append_right _ (List.mem_append_right _ (List.mem_append_right _ (List.mem_append_right _ (List.mem_append_right _ (List.mem_append_right _ (List.mem_append_right _ (List.mem_append_right _ (List.mem_append_right _ (List.mem_append_right _ (List.mem_append_right _ (List.mem_append_right _ (List.mem_append_right _ (List.mem_append_right _ (List.mem_append_right _ (List.mem_append_right _ (List.mem_append_left _ h)))))))))))))))))))))))))))))))))))))))))))
theorem mr_33 : ∀ w ∈ wsL_law_r33, w ∈ jTb := fun _ h => List.mem_append_left _ (List.mem_append_left _ (List.mem_append_left _ (List.mem_append_left _ (List.mem_append_left _ (List.mem_append_left _ (List.mem_append_left _ (List.mem_append_left _ (List.mem_append_left _ (List.mem_append_left _ (List.mem_append_left _ (List.mem_append_left _ (List.mem_append_right _ (List.mem_append_right _ (List.mem_append_right _ (List.mem_append_right _ (List.mem_append_right _ (List.mem_append_right _ (List.mem_append_right _ (List.mem_append_right _ (List.mem_append_right _ (List.mem_append_right _ (List.mem_append_right _ (List.mem_append_right _ (List.mem_append_right _ (List.mem_append_right _ (List.mem_append_right _ (List.mem_append_right _ (List.mem_append_right _ (List.mem_append_right _ (List.mem_append_right _ (List.mem_append_right _ (List.mem_append_right _ (List.mem_append_right _ (List.mem_append_right _ (List.mem_append_right _ (List.mem_append_right _ (List.mem_append_right _ (List.mem_append_right _ (List.mem_append_right _ (List.mem_append_right _ (List.mem_append_right _ (List.mem_append_right _ (List.mem_append_right _ (List.mem_append_left _ h))))))))))))))))))))))))))))))))))))))))))))
theorem mr_34 : ∀ w ∈ wsL_law_r34, w ∈ jTb := fun _ h => List.mem_append_left _ (List.mem_append_left _ (List.mem_append_left _ (List.mem_append_left _ (List.mem_append_left _ (List.mem_append_left _ (List.mem_append_left _ (List.mem_append_left _ (List.mem_append_left _ (List.mem_append_left _ (List.mem_append_left _ (List.mem_append_left _ (List.mem_append_right _ (List.mem_append_right _ (List.mem_append_right _ (List.mem_append_right _ (List.mem_append_right _ (List.mem_append_right _ (List.mem_append_right _ (List.mem_append_right _ (List.mem_append_right _ (List.mem_append_right _ (List.mem_append_right _ (List.mem_append_right _ (List.mem_append_right _ (List.mem_append_right _ (List.mem_append_right _ (List.mem_append_right _ (List.mem_append_right _ (List.mem_append_right _ (List.mem_append_right _ (List.mem_append_right _ (List.mem_append_right _ (List.mem_append_right _ (List.mem_append_right _ (List.mem_append_right _ (List.mem_append_right _ (List.mem_append_right _ (List.mem_append_right _ (List.mem_append_right _ (List.mem_append_right _ (List.mem_append_right _ (List.mem_append_right _ (List.mem_append_right _ (List.mem_append_right _ (List.mem_append_left _ h)))))))))))))))))))))))))))))))))))))))))))))
theorem mr_35 : ∀ w ∈ wsL_law_r35, w ∈ jTb := fun _ h => List.mem_append_left _ (List.mem_append_left _ (List.mem_append_left _ (List.mem_append_left _ (List.mem_append_left _ (List.mem_append_left _ (List.mem_append_left _ (List.mem_append_left _ (List.mem_append_left _ (List.mem_append_left _ (List.mem_append_left _ (List.mem_append_left _ (List.mem_append_right _ (List.mem_append_right _ (List.mem_append_right _ (List.mem_append_right _ (List.mem_append_right _ (List.mem_append_right _ (List.mem_append_right _ (List.mem_append_right _ (List.mem_append_right _ (List.mem_append_right _ (List.mem_append_right _ (List.mem_append_right _ (List.mem_append_right _ (List.mem_append_right _ (List.mem_append_right _ (List.mem_append_right _ (List.mem_append_right _ (List.mem_append_right _ (List.mem_append_right _ (List.mem_append_right _ (List.mem_append_right _ (List.mem_append_right _ (List.mem_append_right _ (List.mem_append_right _ (List.mem_append_right _ (List.mem_append_right _ (List.mem_append_right _ (List.mem_append_right _ (List.mem_append_right _ (List.mem_append_right _ (List.mem_append_right _ (List.mem_append_right _ (List.mem_append_right _ (List.mem_append_right _ (List.mem_append_left _ h))))))))))))))))))))))))))))))))))))))))))))))
theorem mr_36 : ∀ w ∈ wsL_law_r36, w ∈ jTb := fun _ h => List.mem_append_left _ (List.mem_append_left _ (List.mem_append_left _ (List.mem_append_left _ (List.mem_append_left _ (List.mem_append_left _ (List.mem_append_left _ (List.mem_append_left _ (List.mem_append_left _ (List.mem_append_left _ (List.mem_append_left _ (List.mem_append_left _ (List.mem_append_right _ (List.mem_append_right _ (List.mem_append_right _ (List.mem_append_right _ (List.mem_append_right _ (List.mem_append_right _ (List.mem_append_right _ (List.mem_append_right _ (List.mem_append_right _ (List.mem_append_right _ (List.mem_append_right _ (List.mem_append_right _ (List.mem_append_right _ (List.mem_append_right _ (List.mem_append_right _ (List.mem_append_right _ (List.mem_append_right _ (List.mem_append_right _ (List.mem_append_right _ (List.mem_append_right _ (List.mem_append_right _ (List.mem_append_right _ (List.mem_append_right _ (List.mem_append_right _ (List.mem_append_right _ (List.mem_append_right _ (List.mem_append_right _ (List.mem_append_right _ (List.mem_append_right _ (List.mem_append_right _ (List.mem_append_right _ (List.mem_append_right _ (List.mem_append_right _ (List.mem_append_right _ (List.mem_append_right _ (List.mem_append_left _ h)))))))))))))))))))))))))))))))))))))))))))))))
theorem mr_37 : ∀ w ∈ wsL_law_r37, w ∈ jTb := fun _ h => List.mem_append_left _ (List.mem_append_left _ (List.mem_append_left _ (List.mem_append_left _ (List.mem_append_left _ (List.mem_append_left _ (List.mem_append_left _ (List.mem_append_left _ (List.mem_append_left _ (List.mem_append_left _ (List.mem_append_left _ (List.mem_append_left _ (List.mem_append_right _ (List.mem_append_right _ (List.mem_append_right _ (List.mem_append_right _ (List.mem_append_right _ (List.mem_append_right _ (List.mem_append_right _ (List.mem_append_right _ (List.mem_append_right _ (List.mem_append_right _ (List.mem_append_right _ (List.mem_append_right _ (List.mem_append_right _ (List.mem_append_right _ (List.mem_append_right _ (List.mem_append_right _ (List.mem_append_right _ (List.mem_append_right _ (List.mem_append_right _ (List.mem_append_right _ (List.mem_append_right _ (List.mem_append_right _ (List.mem_append_right _ (List.mem_append_right _ (List.mem_append_right _ (List.mem_append_right _ (List.mem_append_right _ (List.mem_append_right _ (List.mem_append_right _ (List.mem_append_right _ (List.mem_append_right _ (List.mem_append_right _ (List.mem_append_right _ (List.mem_append_right _ (List.mem_append_right _ (List.mem_append_right _ (List.mem_append_left _ h))))))))))))))))))))))))))))))))))))))))))))))))
theorem mr_38 : ∀ w ∈ wsL_law_r38, w ∈ jTb := fun _ h => List.mem_append_left _ (List.mem_append_left _ (List.mem_append_left _ (List.mem_append_left _ (List.mem_append_left _ (List.mem_append_left _ (List.mem_append_left _ (List.mem_append_left _ (List.mem_append_left _ (List.mem_append_left _ (List.mem_append_left _ (List.mem_append_left _ (List.mem_append_right _ (List.mem_append_right _ (List.mem_append_right _ (List.mem_append_right _ (List.mem_append_right _ (List.mem_append_right _ (List.mem_append_right _ (List.mem_append_right _ (List.mem_append_right _ (List.mem_append_right _ (List.mem_append_right _ (List.mem_append_right _ (List.mem_append_right _ (List.mem_append_right _ (List.mem_append_right _ (List.mem_append_right _ (List.mem_append_right _ (List.mem_append_right _ (List.mem_append_right _ (List.mem_append_right _ (List.mem_append_right _ (List.mem_append_right _ (List.mem_append_right _ (List.mem_append_right _ (List.mem_append_right _ (List.mem_append_right _ (List.mem_append_right _ (List.mem_append_right _ (List.mem_append_right _ (List.mem_append_right _ (List.mem_append_right _ (List.mem_append_right _ (List.mem_append_right _ (List.mem_append_right _ (List.mem_append_right _ (List.mem_append_right _ (List.mem_append_right _ (List.mem_append_left _ h)))))))))))))))))))))))))))))))))))))))))))))))))
theorem mr_39 : ∀ w ∈ wsL_law_r39, w ∈ jTb := fun _ h => List.mem_append_left _ (List.mem_append_left _ (List.mem_append_left _ (List.mem_append_left _ (List.mem_append_left _ (List.mem_append_left _ (List.mem_append_left _ (List.mem_append_left _ (List.mem_append_left _ (List.mem_append_left _ (List.mem_append_left _ (List.mem_append_left _ (List.mem_append_right _ (List.mem_append_right _ (List.mem_append_right _ (List.mem_append_right _ (List.mem_append_right _ (List.mem_append_right _ (List.mem_append_right _ (List.mem_append_right _ (List.mem_append_right _ (List.mem_append_right _ (List.mem_append_right _ (List.mem_append_right _ (List.mem_append_right _ (List.mem_append_right _ (List.mem_append_right _ (List.mem_append_right _ (List.mem_append_right _ (List.mem_append_right _ (List.mem_append_right _ (List.mem_append_right _ (List.mem_append_right _ (List.mem_append_right _ (List.mem_append_right _ (List.mem_append_right _ (List.mem_append_right _ (List.mem_append_right _ (List.mem_append_right _ (List.mem_append_right _ (List.mem_append_right _ (List.mem_append_right _ (List.mem_append_right _ (List.mem_append_right _ (List.mem_append_right _ (List.mem_append_right _ (List.mem_append_right _ (List.mem_append_right _ (List.mem_append_right _ (List.mem_append_right _ (List.mem_append_left _ h))))))))))))))))))))))))))))))))))))))))))))))))))
theorem mr_40 : ∀ w ∈ wsL_law_r40, w ∈ jTb := fun _ h => List.mem_append_left _ (List.mem_append_left _ (List.mem_append_left _ (List.mem_append_left _ (List.mem_append_left _ (List.mem_append_left _ (List.mem_append_left _ (List.mem_append_left _ (List.mem_append_left _ (List.mem_append_left _ (List.mem_append_left _ (List.mem_append_left _ (List.mem_append_right _ (List.mem_append_right _ (List.mem_append_right _ (List.mem_append_right _ (List.mem_append_right _ (List.mem_append_right _ (List.mem_append_right _ (List.mem_append_right _ (List.mem_append_right _ (List.mem_append_right _ (List.mem_append_right _ (List.mem_append_right _ (List.mem_append_right _ (List.mem_append_right _ (List.mem_append_right _ (List.mem_append_right _ (List.mem_append_right _ (List.mem_append_right _ (List.mem_append_right _ (List.mem_append_right _ (List.mem_append_right _ (List.mem_append_right _ (List.mem_append_right _ (List.mem_append_right _ (List.mem_append_right _ (List.mem_append_right _ (List.mem_append_right _ (List.mem_append_right _ (List.mem_append_right _ (List.mem_append_right _ (List.mem_append_right _ (List.mem_append_right _ (List.mem_append_right _ (List.mem_append_right _ (List.mem_append_right _ (List.mem_append_right _ (List.mem_append_right _ (List.mem_append_right _ (List.mem_append_right _ (List.mem_append_left _ h)))))))))))))))))))))))))))))))))))))))))))))))))))
theorem mr_41 : ∀ w ∈ wsL_law_r41, w ∈ jTb := fun _ h => List.mem_append_left _ (List.mem_append_left _ (List.mem_append_left _ (List.mem_append_left _ (List.mem_append_left _ (List.mem_append_left _ (List.mem_append_left _ (List.mem_append_left _ (List.mem_append_left _ (List.mem_append_left _ (List.mem_append_left _ (List.mem_append_left _ (List.mem_append_right _ (List.mem_append_right _ (List.mem_append_right _ (List.mem_append_right _ (List.mem_append_right _ (List.mem_append_right _ (List.mem_append_right _ (List.mem_append_right _ (List.mem_append_right _ (List.mem_append_right _ (List.mem_append_right _ (List.mem_append_right _ (List.mem_append_right _ (List.mem_append_right _ (List.mem_append_right _ (List.mem_append_right _ (List.mem_append_right _ (List.mem_append_right _ (List.mem_append_right _ (List.mem_append_right _ (List.mem_append_right _ (List.mem_append_right _ (List.mem_append_right _ (List.mem_append_right _ (List.mem_append_right _ (List.mem_append_right _ (List.mem_append_right _ (List.mem_append_right _ (List.mem_append_right _ (List.mem_append_right _ (List.mem_append_right _ (List.mem_append_right _ (List.mem_append_right _ (List.mem_append_right _ (List.mem_append_right _ (List.mem_append_right _ (List.mem_append_right _ (List.mem_append_right _ (List.mem_append_right _ (List.mem_append_right _ (List.mem_append_left _ h))))))))))))))))))))))))))))))))))))))))))))))))))))
theorem mr_42 : ∀ w ∈ wsL_law_r42, w ∈ jTb := fun _ h => List.mem_append_left _ (List.mem_append_left _ (List.mem_append_left _ (List.mem_append_left _ (List.mem_append_left _ (List.mem_append_left _ (List.mem_append_left _ (List.mem_append_left _ (List.mem_append_left _ (List.mem_append_left _ (List.mem_append_left _ (List.mem_append_left _ (List.mem_append_right _ (List.mem_append_right _ (List.mem_append_right _ (List.mem_append_right _ (List.mem_append_right _ (List.mem_append_right _ (List.mem_append_right _ (List.mem_append_right _ (List.mem_append_right _ (List.mem_append_right _ (List.mem_append_right _ (List.mem_append_right _ (List.mem_append_right _ (List.mem_append_right _ (List.mem_append_right _ (List.mem_append_right _ (List.mem_append_right _ (List.mem_append_right _ (List.mem_append_right _ (List.mem_append_right _ (List.mem_append_right _ (List.mem_append_right _ (List.mem_append_right _ (List.mem_append_right _ (List.mem_append_right _ (List.mem_append_right _ (List.mem_append_right _ (List.mem_append_right _ (List.mem_append_right _ (List.mem_append_right _ (List.mem_append_right _ (List.mem_append_right _ (List.mem_append_right _ (List.mem_append_right _ (List.mem_append_right _ (List.mem_append_right _ (List.mem_append_right _ (List.mem_append_right _ (List.mem_append_right _ (List.mem_append_right _ (List.mem_append_right _ (List.mem_append_left _ h)))))))))))))))))))))))))))))))))))))))))))))))))))))
theorem mr_43 : ∀ w ∈ wsL_law_r43, w ∈ jTb := fun _ h => List.mem_append_left _ (List.mem_append_left _ (List.mem_append_left _ (List.mem_append_left _ (List.mem_append_left _ (List.mem_append_left _ (List.mem_append_left _ (List.mem_append_left _ (List.mem_append_left _ (List.mem_append_left _ (List.mem_append_left _ (List.mem_append_left _ (List.mem_append_right _ (List.mem_append_right _ (List.mem_append_right _ (List.mem_append_right _ (List.mem_append_right _ (List.mem_append_right _ (List.mem_append_right _ (List.mem_append_right _ (List.mem_append_right _ (List.mem_append_right _ (List.mem_append_right _ (List.mem_append_right _ (List.mem_append_right _ (List.mem_append_right _ (List.mem_append_right _ (List.mem_append_right _ (List.mem_append_right _ (List.mem_append_right _ (List.mem_append_right _ (List.mem_append_right _ (List.mem_append_right _ (List.mem_append_right _ (List.mem_append_right _ (List.mem_append_right _ (List.mem_append_right _ (List.mem_append_right _ (List.mem_append_right _ (List.mem_append_right _ (List.mem_append_right _ (List.mem_append_right _ (List.mem_append_right _ (List.mem_append_right _ (List.mem_append_right _ (List.mem_append_right _ (List.mem_append_right _ (List.mem_append_right _ (List.mem_append_right _ (List.mem_append_right _ (List.mem_append_right _ (List.mem_append_right _ (List.mem_append_right _ (List.mem_append_right _ (List.mem_append_left _ h))))))))))))))))))))))))))))))))))))))))))))))))))))))
theorem mr_44 : ∀ w ∈ wsL_law_r44, w ∈ jTb := fun _ h => List.mem_append_left _ (List.mem_append_left _ (List.mem_append_left _ (List.mem_append_left _ (List.mem_append_left _ (List.mem_append_left _ (List.mem_append_left _ (List.mem_append_left _ (List.mem_append_left _ (List.mem_append_left _ (List.mem_append_left _ (List.mem_append_left _ (List.mem_append_right _ (List.mem_append_right _ (List.mem_append_right _ (List.mem_append_right _ (List.mem_append_right _ (List.mem_append_right _ (List.mem_append_right _ (List.mem_append_right _ (List.mem_append_right _ (List.mem_append_right _ (List.mem_append_right _ (List.mem_append_right _ (List.mem_append_right _ (List.mem_append_right _ (List.mem_append_right _ (List.mem_append_right _ (List.mem_append_right _ (List.mem_append_right _ (List.mem_append_right _ (List.mem_append_right _ (List.mem_append_right _ (List.mem_append_right _ (List.mem_append_right _ (List.mem_append_right _ (List.mem_append_right _ (List.mem_append_right _ (List.mem_append_right _ (List.mem_append_right _ (List.mem_append_right _ (List.mem_append_right _ (List.mem_append_right _ (List.mem_append_right _ (List.mem_append_right _ (List.mem_append_right _ (List.mem_append_right _ (List.mem_append_right _ (List.mem_append_right _ (List.mem_append_right _ (List.mem_append_right _ (List.mem_append_right _ (List.mem_append_right _ (List.mem_append_right _ (List.mem_append_right _ (h)))))))))))))))))))))))))))))))))))))))))))))))))))))))
theorem mt_1 : ∀ w ∈ tables_1_1, w ∈ lw_tbl := fun _ h => List.mem_append_right _ (List.mem_append_left _ h)
theorem mt_2 : ∀ w ∈ tables_1_2, w ∈ lw_tbl := fun _ h => List.mem_append_right _ (List.mem_append_right _ (List.mem_append_left _ h))
theorem mt_3 : ∀ w ∈ tables_1_3, w ∈ lw_tbl := fun _ h => List.mem_append_right _ (List.mem_append_right _ (List.mem_append_right _ (List.mem_append_left _ h)))
theorem mt_4 : ∀ w ∈ tables_1_4, w ∈ lw_tbl := fun _ h => List.mem_append_right _ (List.mem_append_right _ (List.mem_append_right _ (List.mem_append_right _ (List.mem_append_left _ h))))
theorem mt_5 : ∀ w ∈ tables_1_5, w ∈ lw_tbl := fun _ h => List.mem_append_right _ (List.mem_append_right _ (List.mem_append_right _ (List.mem_append_right _ (List.mem_append_right _ (List.mem_append_left _ h)))))
theorem mt_6 : ∀ w ∈ tables_1_6, w ∈ lw_tbl := fun _ h => List.mem_append_right _ (List.mem_append_right _ (List.mem_append_right _ (List.mem_append_right _ (List.mem_append_right _ (List.mem_append_right _ (h))))))
theorem ms_1 : ∀ q ∈ lw_privs_1, Cond.selects q.1.cls q.1 q.1 ∈ lw_tbl := fun q h => List.mem_append_left _ (List.mem_map.mpr ⟨q, List.mem_append_left _ h, rfl⟩)
theorem ms_2 : ∀ q ∈ lw_privs_2, Cond.selects q.1.cls q.1 q.1 ∈ lw_tbl := fun q h => List.mem_append_left _ (List.mem_map.mpr ⟨q, List.mem_append_right _ (List.mem_append_left _ h), rfl⟩)
theorem ms_3 : ∀ q ∈ lw_privs_3, Cond.selects q.1.cls q.1 q.1 ∈ lw_tbl := fun q h => List.mem_append_left _ (List.mem_map.mpr ⟨q, List.mem_append_right _ (List.mem_append_right _ (List.mem_append_left _ h)), rfl⟩)
theorem ms_4 : ∀ q ∈ lw_privs_4, Cond.selects q.1.cls q.1 q.1 ∈ lw_tbl := fun q h => List.mem_append_left _ (List.mem_map.mpr ⟨q, List.mem_append_right _ (List.mem_append_right _ (List.mem_append_right _ (List.mem_append_left _ h))), rfl⟩)
theorem ms_5 : ∀ q ∈ lw_privs_5, Cond.selects q.1.cls q.1 q.1 ∈ lw_tbl := fun q h => List.mem_append_left _ (List.mem_map.mpr ⟨q, List.mem_append_right _ (List.mem_append_right _ (List.mem_append_right _ (List.mem_append_right _ (List.mem_append_left _ h)))), rfl⟩)
theorem ms_6 : ∀ q ∈ lw_privs_6, Cond.selects q.1.cls q.1 q.1 ∈ lw_tbl := fun q h => List.mem_append_left _ (List.mem_map.mpr ⟨q, List.mem_append_right _ (List.mem_append_right _ (List.mem_append_right _ (List.mem_append_right _ (List.mem_append_right _ (h))))), rfl⟩)
def jNs : List (String × Nat × MethodName × String) := [("CoreTerms$Typist", 33, ⟨"CoreTerms", "isLetter", "(I)Z"⟩, "CoreTerms"), ("CoreTerms", 156, ⟨"CoreTerms$Terms", "usesOf", "(II)I"⟩, "CoreTerms"), ("CoreTerms$Comparer", 61, ⟨"CoreTerms", "isLetter", "(I)Z"⟩, "CoreTerms"), ("CoreTerms", 176, ⟨"CoreTerms$Putter", "into", "(III)I"⟩, "CoreTerms"), ("CoreTerms", 182, ⟨"CoreTerms$Stepper", "stepOf", "(I)I"⟩, "CoreTerms"), ("CoreTerms$Stepper", 37, ⟨"CoreTerms$Putter", "into", "(III)I"⟩, "CoreTerms"), ("CoreTerms", 185, ⟨"CoreTerms$Dropper", "withoutLets", "(I)I"⟩, "CoreTerms"), ("CoreTerms$Reader", 81, ⟨"CoreTerms", "isLetter", "(I)Z"⟩, "CoreTerms")]
