section
-- ===== PART A: goes FIRST, ahead of the names: the tables' words, and 'selects' of the private methods out of them =====
/-- a private method of a class that the tables say can be made, by its rows of tables_1 -/
def lw_okq (q : MethodName × Nat) : Prop := (q.1.cls ≠ "java/lang/invoke/MethodHandle" ∧ q.1.cls ≠ "java/lang/invoke/VarHandle") ∧ Cond.instantiable q.1.cls q.2 ∈ tables_1 ∧ Cond.privateMethod q.1 ∈ tables_1 ∧ Cond.instanceMethod q.1 ∈ tables_1
theorem lw_p0 : lw_okq (⟨"RaysOfShapes", "refused", "(I)I"⟩, 16) := ⟨⟨by decide +kernel, by decide +kernel⟩, List.mem_of_getElem? (i := 22) (by decide +kernel), List.mem_of_getElem? (i := 322) (by decide +kernel), List.mem_of_getElem? (i := 323) (by decide +kernel)⟩
theorem lw_p1 : lw_okq (⟨"RaysOfShapes", "rowRefusal", "(I)I"⟩, 16) := ⟨⟨by decide +kernel, by decide +kernel⟩, List.mem_of_getElem? (i := 22) (by decide +kernel), List.mem_of_getElem? (i := 335) (by decide +kernel), List.mem_of_getElem? (i := 336) (by decide +kernel)⟩
theorem lw_p2 : lw_okq (⟨"RaysOfShapes$Shelves", "isElement", "(II)Z"⟩, 3) := ⟨⟨by decide +kernel, by decide +kernel⟩, List.mem_of_getElem? (i := 99) (by decide +kernel), List.mem_of_getElem? (i := 351) (by decide +kernel), List.mem_of_getElem? (i := 352) (by decide +kernel)⟩
theorem lw_p3 : lw_okq (⟨"RaysOfShapes", "isShape", "(I)Z"⟩, 16) := ⟨⟨by decide +kernel, by decide +kernel⟩, List.mem_of_getElem? (i := 22) (by decide +kernel), List.mem_of_getElem? (i := 389) (by decide +kernel), List.mem_of_getElem? (i := 390) (by decide +kernel)⟩
theorem lw_p4 : lw_okq (⟨"RaysOfShapes", "saysRefusal", "(II)I"⟩, 16) := ⟨⟨by decide +kernel, by decide +kernel⟩, List.mem_of_getElem? (i := 22) (by decide +kernel), List.mem_of_getElem? (i := 405) (by decide +kernel), List.mem_of_getElem? (i := 406) (by decide +kernel)⟩
theorem lw_p5 : lw_okq (⟨"RaysOfShapes", "placesOf", "(I)LRaysOfShapes$Places;"⟩, 16) := ⟨⟨by decide +kernel, by decide +kernel⟩, List.mem_of_getElem? (i := 22) (by decide +kernel), List.mem_of_getElem? (i := 430) (by decide +kernel), List.mem_of_getElem? (i := 431) (by decide +kernel)⟩
theorem lw_p6 : lw_okq (⟨"RaysOfShapes$Looker", "look", "(LRaysOfShapes$Table;III)V"⟩, 5) := ⟨⟨by decide +kernel, by decide +kernel⟩, List.mem_of_getElem? (i := 155) (by decide +kernel), List.mem_of_getElem? (i := 442) (by decide +kernel), List.mem_of_getElem? (i := 443) (by decide +kernel)⟩
theorem lw_p7 : lw_okq (⟨"RaysOfShapes$Measure", "find", "(LRaysOfShapes$Table;III)V"⟩, 2) := ⟨⟨by decide +kernel, by decide +kernel⟩, List.mem_of_getElem? (i := 163) (by decide +kernel), List.mem_of_getElem? (i := 456) (by decide +kernel), List.mem_of_getElem? (i := 457) (by decide +kernel)⟩
theorem lw_p8 : lw_okq (⟨"RaysOfShapes$Measure", "ofSolid", "(LRaysOfShapes$Table;III)I"⟩, 2) := ⟨⟨by decide +kernel, by decide +kernel⟩, List.mem_of_getElem? (i := 163) (by decide +kernel), List.mem_of_getElem? (i := 464) (by decide +kernel), List.mem_of_getElem? (i := 465) (by decide +kernel)⟩
theorem lw_p9 : lw_okq (⟨"RaysOfShapes$Measure", "ofPair", "(LRaysOfShapes$Table;III)V"⟩, 2) := ⟨⟨by decide +kernel, by decide +kernel⟩, List.mem_of_getElem? (i := 163) (by decide +kernel), List.mem_of_getElem? (i := 483) (by decide +kernel), List.mem_of_getElem? (i := 484) (by decide +kernel)⟩
theorem lw_p10 : lw_okq (⟨"RaysOfShapes$Measure", "ofChange", "(LRaysOfShapes$Table;III)V"⟩, 2) := ⟨⟨by decide +kernel, by decide +kernel⟩, List.mem_of_getElem? (i := 163) (by decide +kernel), List.mem_of_getElem? (i := 521) (by decide +kernel), List.mem_of_getElem? (i := 522) (by decide +kernel)⟩
theorem lw_p11 : lw_okq (⟨"RaysOfShapes$Measure", "move", "(LRaysOfShapes$Table;II)V"⟩, 2) := ⟨⟨by decide +kernel, by decide +kernel⟩, List.mem_of_getElem? (i := 163) (by decide +kernel), List.mem_of_getElem? (i := 525) (by decide +kernel), List.mem_of_getElem? (i := 526) (by decide +kernel)⟩
theorem lw_p12 : lw_okq (⟨"RaysOfShapes$Span", "find", "(LRaysOfShapes$Table;III)V"⟩, 3) := ⟨⟨by decide +kernel, by decide +kernel⟩, List.mem_of_getElem? (i := 190) (by decide +kernel), List.mem_of_getElem? (i := 566) (by decide +kernel), List.mem_of_getElem? (i := 567) (by decide +kernel)⟩
theorem lw_p13 : lw_okq (⟨"RaysOfShapes$Span", "ofBall", "(LRaysOfShapes$Table;III)V"⟩, 3) := ⟨⟨by decide +kernel, by decide +kernel⟩, List.mem_of_getElem? (i := 190) (by decide +kernel), List.mem_of_getElem? (i := 571) (by decide +kernel), List.mem_of_getElem? (i := 572) (by decide +kernel)⟩
theorem lw_p14 : lw_okq (⟨"RaysOfShapes$Span", "ofBox", "(LRaysOfShapes$Table;III)V"⟩, 3) := ⟨⟨by decide +kernel, by decide +kernel⟩, List.mem_of_getElem? (i := 190) (by decide +kernel), List.mem_of_getElem? (i := 581) (by decide +kernel), List.mem_of_getElem? (i := 582) (by decide +kernel)⟩
theorem lw_p15 : lw_okq (⟨"RaysOfShapes$Span", "ofHalf", "(LRaysOfShapes$Table;III)V"⟩, 3) := ⟨⟨by decide +kernel, by decide +kernel⟩, List.mem_of_getElem? (i := 190) (by decide +kernel), List.mem_of_getElem? (i := 586) (by decide +kernel), List.mem_of_getElem? (i := 587) (by decide +kernel)⟩
def lw_privs_1 : List (MethodName × Nat) := [(⟨"RaysOfShapes", "refused", "(I)I"⟩, 16), (⟨"RaysOfShapes", "rowRefusal", "(I)I"⟩, 16), (⟨"RaysOfShapes$Shelves", "isElement", "(II)Z"⟩, 3), (⟨"RaysOfShapes", "isShape", "(I)Z"⟩, 16), (⟨"RaysOfShapes", "saysRefusal", "(II)I"⟩, 16), (⟨"RaysOfShapes", "placesOf", "(I)LRaysOfShapes$Places;"⟩, 16), (⟨"RaysOfShapes$Looker", "look", "(LRaysOfShapes$Table;III)V"⟩, 5), (⟨"RaysOfShapes$Measure", "find", "(LRaysOfShapes$Table;III)V"⟩, 2), (⟨"RaysOfShapes$Measure", "ofSolid", "(LRaysOfShapes$Table;III)I"⟩, 2), (⟨"RaysOfShapes$Measure", "ofPair", "(LRaysOfShapes$Table;III)V"⟩, 2), (⟨"RaysOfShapes$Measure", "ofChange", "(LRaysOfShapes$Table;III)V"⟩, 2), (⟨"RaysOfShapes$Measure", "move", "(LRaysOfShapes$Table;II)V"⟩, 2), (⟨"RaysOfShapes$Span", "find", "(LRaysOfShapes$Table;III)V"⟩, 3), (⟨"RaysOfShapes$Span", "ofBall", "(LRaysOfShapes$Table;III)V"⟩, 3), (⟨"RaysOfShapes$Span", "ofBox", "(LRaysOfShapes$Table;III)V"⟩, 3), (⟨"RaysOfShapes$Span", "ofHalf", "(LRaysOfShapes$Table;III)V"⟩, 3)]
theorem lw_r1 : ∀ q ∈ lw_privs_1, lw_okq q := List.forall_mem_cons.mpr ⟨lw_p0, List.forall_mem_cons.mpr ⟨lw_p1, List.forall_mem_cons.mpr ⟨lw_p2, List.forall_mem_cons.mpr ⟨lw_p3, List.forall_mem_cons.mpr ⟨lw_p4, List.forall_mem_cons.mpr ⟨lw_p5, List.forall_mem_cons.mpr ⟨lw_p6, List.forall_mem_cons.mpr ⟨lw_p7, List.forall_mem_cons.mpr ⟨lw_p8, List.forall_mem_cons.mpr ⟨lw_p9, List.forall_mem_cons.mpr ⟨lw_p10, List.forall_mem_cons.mpr ⟨lw_p11, List.forall_mem_cons.mpr ⟨lw_p12, List.forall_mem_cons.mpr ⟨lw_p13, List.forall_mem_cons.mpr ⟨lw_p14, List.forall_mem_cons.mpr ⟨lw_p15, fun _ h => absurd h List.not_mem_nil⟩⟩⟩⟩⟩⟩⟩⟩⟩⟩⟩⟩⟩⟩⟩⟩
theorem lw_p16 : lw_okq (⟨"RaysOfShapes$Span", "ofPair", "(LRaysOfShapes$Table;III)V"⟩, 3) := ⟨⟨by decide +kernel, by decide +kernel⟩, List.mem_of_getElem? (i := 190) (by decide +kernel), List.mem_of_getElem? (i := 590) (by decide +kernel), List.mem_of_getElem? (i := 591) (by decide +kernel)⟩
theorem lw_p17 : lw_okq (⟨"RaysOfShapes$Span", "ofChange", "(LRaysOfShapes$Table;III)V"⟩, 3) := ⟨⟨by decide +kernel, by decide +kernel⟩, List.mem_of_getElem? (i := 190) (by decide +kernel), List.mem_of_getElem? (i := 601) (by decide +kernel), List.mem_of_getElem? (i := 602) (by decide +kernel)⟩
theorem lw_p18 : lw_okq (⟨"RaysOfShapes$Span", "move", "(LRaysOfShapes$Table;II)V"⟩, 3) := ⟨⟨by decide +kernel, by decide +kernel⟩, List.mem_of_getElem? (i := 190) (by decide +kernel), List.mem_of_getElem? (i := 605) (by decide +kernel), List.mem_of_getElem? (i := 606) (by decide +kernel)⟩
theorem lw_p19 : lw_okq (⟨"RaysOfShapes$Span", "repeat", "(II)V"⟩, 3) := ⟨⟨by decide +kernel, by decide +kernel⟩, List.mem_of_getElem? (i := 190) (by decide +kernel), List.mem_of_getElem? (i := 610) (by decide +kernel), List.mem_of_getElem? (i := 611) (by decide +kernel)⟩
theorem lw_p20 : lw_okq (⟨"RaysOfShapes$Span", "mirror", "(II)V"⟩, 3) := ⟨⟨by decide +kernel, by decide +kernel⟩, List.mem_of_getElem? (i := 190) (by decide +kernel), List.mem_of_getElem? (i := 615) (by decide +kernel), List.mem_of_getElem? (i := 616) (by decide +kernel)⟩
theorem lw_p21 : lw_okq (⟨"RaysOfShapes$Span", "turn", "(II)V"⟩, 3) := ⟨⟨by decide +kernel, by decide +kernel⟩, List.mem_of_getElem? (i := 190) (by decide +kernel), List.mem_of_getElem? (i := 619) (by decide +kernel), List.mem_of_getElem? (i := 620) (by decide +kernel)⟩
theorem lw_p22 : lw_okq (⟨"RaysOfShapes$Looker", "lookAtEighths", "(LRaysOfShapes$Table;III)V"⟩, 5) := ⟨⟨by decide +kernel, by decide +kernel⟩, List.mem_of_getElem? (i := 155) (by decide +kernel), List.mem_of_getElem? (i := 654) (by decide +kernel), List.mem_of_getElem? (i := 655) (by decide +kernel)⟩
theorem lw_p23 : lw_okq (⟨"RaysOfShapes", "saidOfNumbers", "(II)I"⟩, 16) := ⟨⟨by decide +kernel, by decide +kernel⟩, List.mem_of_getElem? (i := 22) (by decide +kernel), List.mem_of_getElem? (i := 677) (by decide +kernel), List.mem_of_getElem? (i := 678) (by decide +kernel)⟩
theorem lw_p24 : lw_okq (⟨"RaysOfShapes$Reader", "begin", "(LRaysOfShapes$Table;)Z"⟩, 11) := ⟨⟨by decide +kernel, by decide +kernel⟩, List.mem_of_getElem? (i := 115) (by decide +kernel), List.mem_of_getElem? (i := 714) (by decide +kernel), List.mem_of_getElem? (i := 715) (by decide +kernel)⟩
theorem lw_p25 : lw_okq (⟨"RaysOfShapes$Reader", "skipBlanks", "()V"⟩, 11) := ⟨⟨by decide +kernel, by decide +kernel⟩, List.mem_of_getElem? (i := 115) (by decide +kernel), List.mem_of_getElem? (i := 718) (by decide +kernel), List.mem_of_getElem? (i := 719) (by decide +kernel)⟩
theorem lw_p26 : lw_okq (⟨"RaysOfShapes$Reader", "byteAt", "(I)I"⟩, 11) := ⟨⟨by decide +kernel, by decide +kernel⟩, List.mem_of_getElem? (i := 115) (by decide +kernel), List.mem_of_getElem? (i := 722) (by decide +kernel), List.mem_of_getElem? (i := 723) (by decide +kernel)⟩
theorem lw_p27 : lw_okq (⟨"RaysOfShapes$Reader", "readWord", "()I"⟩, 11) := ⟨⟨by decide +kernel, by decide +kernel⟩, List.mem_of_getElem? (i := 115) (by decide +kernel), List.mem_of_getElem? (i := 726) (by decide +kernel), List.mem_of_getElem? (i := 727) (by decide +kernel)⟩
theorem lw_p28 : lw_okq (⟨"RaysOfShapes$Reader", "isWord", "(ILjava/lang/String;)Z"⟩, 11) := ⟨⟨by decide +kernel, by decide +kernel⟩, List.mem_of_getElem? (i := 115) (by decide +kernel), List.mem_of_getElem? (i := 748) (by decide +kernel), List.mem_of_getElem? (i := 749) (by decide +kernel)⟩
theorem lw_p29 : lw_okq (⟨"RaysOfShapes$Reader", "isFault", "(I)Z"⟩, 11) := ⟨⟨by decide +kernel, by decide +kernel⟩, List.mem_of_getElem? (i := 115) (by decide +kernel), List.mem_of_getElem? (i := 800) (by decide +kernel), List.mem_of_getElem? (i := 801) (by decide +kernel)⟩
theorem lw_p30 : lw_okq (⟨"RaysOfShapes$Reader", "readNumber", "(II)Z"⟩, 11) := ⟨⟨by decide +kernel, by decide +kernel⟩, List.mem_of_getElem? (i := 115) (by decide +kernel), List.mem_of_getElem? (i := 809) (by decide +kernel), List.mem_of_getElem? (i := 810) (by decide +kernel)⟩
theorem lw_p31 : lw_okq (⟨"RaysOfShapes$Reader", "write", "(LRaysOfShapes$Table;III)I"⟩, 11) := ⟨⟨by decide +kernel, by decide +kernel⟩, List.mem_of_getElem? (i := 115) (by decide +kernel), List.mem_of_getElem? (i := 825) (by decide +kernel), List.mem_of_getElem? (i := 826) (by decide +kernel)⟩
def lw_privs_2 : List (MethodName × Nat) := [(⟨"RaysOfShapes$Span", "ofPair", "(LRaysOfShapes$Table;III)V"⟩, 3), (⟨"RaysOfShapes$Span", "ofChange", "(LRaysOfShapes$Table;III)V"⟩, 3), (⟨"RaysOfShapes$Span", "move", "(LRaysOfShapes$Table;II)V"⟩, 3), (⟨"RaysOfShapes$Span", "repeat", "(II)V"⟩, 3), (⟨"RaysOfShapes$Span", "mirror", "(II)V"⟩, 3), (⟨"RaysOfShapes$Span", "turn", "(II)V"⟩, 3), (⟨"RaysOfShapes$Looker", "lookAtEighths", "(LRaysOfShapes$Table;III)V"⟩, 5), (⟨"RaysOfShapes", "saidOfNumbers", "(II)I"⟩, 16), (⟨"RaysOfShapes$Reader", "begin", "(LRaysOfShapes$Table;)Z"⟩, 11), (⟨"RaysOfShapes$Reader", "skipBlanks", "()V"⟩, 11), (⟨"RaysOfShapes$Reader", "byteAt", "(I)I"⟩, 11), (⟨"RaysOfShapes$Reader", "readWord", "()I"⟩, 11), (⟨"RaysOfShapes$Reader", "isWord", "(ILjava/lang/String;)Z"⟩, 11), (⟨"RaysOfShapes$Reader", "isFault", "(I)Z"⟩, 11), (⟨"RaysOfShapes$Reader", "readNumber", "(II)Z"⟩, 11), (⟨"RaysOfShapes$Reader", "write", "(LRaysOfShapes$Table;III)I"⟩, 11)]
theorem lw_r2 : ∀ q ∈ lw_privs_2, lw_okq q := List.forall_mem_cons.mpr ⟨lw_p16, List.forall_mem_cons.mpr ⟨lw_p17, List.forall_mem_cons.mpr ⟨lw_p18, List.forall_mem_cons.mpr ⟨lw_p19, List.forall_mem_cons.mpr ⟨lw_p20, List.forall_mem_cons.mpr ⟨lw_p21, List.forall_mem_cons.mpr ⟨lw_p22, List.forall_mem_cons.mpr ⟨lw_p23, List.forall_mem_cons.mpr ⟨lw_p24, List.forall_mem_cons.mpr ⟨lw_p25, List.forall_mem_cons.mpr ⟨lw_p26, List.forall_mem_cons.mpr ⟨lw_p27, List.forall_mem_cons.mpr ⟨lw_p28, List.forall_mem_cons.mpr ⟨lw_p29, List.forall_mem_cons.mpr ⟨lw_p30, List.forall_mem_cons.mpr ⟨lw_p31, fun _ h => absurd h List.not_mem_nil⟩⟩⟩⟩⟩⟩⟩⟩⟩⟩⟩⟩⟩⟩⟩⟩
theorem lw_p32 : lw_okq (⟨"RaysOfShapes$Table", "deepOver", "(III)I"⟩, 8) := ⟨⟨by decide +kernel, by decide +kernel⟩, List.mem_of_getElem? (i := 30) (by decide +kernel), List.mem_of_getElem? (i := 834) (by decide +kernel), List.mem_of_getElem? (i := 835) (by decide +kernel)⟩
theorem lw_p33 : lw_okq (⟨"RaysOfShapes$Table", "blendsOver", "(III)I"⟩, 8) := ⟨⟨by decide +kernel, by decide +kernel⟩, List.mem_of_getElem? (i := 30) (by decide +kernel), List.mem_of_getElem? (i := 841) (by decide +kernel), List.mem_of_getElem? (i := 842) (by decide +kernel)⟩
theorem lw_p34 : lw_okq (⟨"RaysOfShapes$Table", "blendsOf", "(I)I"⟩, 8) := ⟨⟨by decide +kernel, by decide +kernel⟩, List.mem_of_getElem? (i := 30) (by decide +kernel), List.mem_of_getElem? (i := 845) (by decide +kernel), List.mem_of_getElem? (i := 846) (by decide +kernel)⟩
theorem lw_p35 : lw_okq (⟨"RaysOfShapes$Reader", "end", "(LRaysOfShapes$Table;I)Z"⟩, 11) := ⟨⟨by decide +kernel, by decide +kernel⟩, List.mem_of_getElem? (i := 115) (by decide +kernel), List.mem_of_getElem? (i := 853) (by decide +kernel), List.mem_of_getElem? (i := 854) (by decide +kernel)⟩
theorem lw_p36 : lw_okq (⟨"RaysOfShapes$Reader", "readSign", "(I)Z"⟩, 11) := ⟨⟨by decide +kernel, by decide +kernel⟩, List.mem_of_getElem? (i := 115) (by decide +kernel), List.mem_of_getElem? (i := 859) (by decide +kernel), List.mem_of_getElem? (i := 860) (by decide +kernel)⟩
theorem lw_p37 : lw_okq (⟨"RaysOfShapes$Reader", "begun", "(II)Z"⟩, 11) := ⟨⟨by decide +kernel, by decide +kernel⟩, List.mem_of_getElem? (i := 115) (by decide +kernel), List.mem_of_getElem? (i := 868) (by decide +kernel), List.mem_of_getElem? (i := 869) (by decide +kernel)⟩
theorem lw_p38 : lw_okq (⟨"RaysOfShapes", "added", "(I)I"⟩, 16) := ⟨⟨by decide +kernel, by decide +kernel⟩, List.mem_of_getElem? (i := 22) (by decide +kernel), List.mem_of_getElem? (i := 876) (by decide +kernel), List.mem_of_getElem? (i := 877) (by decide +kernel)⟩
theorem lw_p39 : lw_okq (⟨"RaysOfShapes", "putNumbers", "(III)V"⟩, 16) := ⟨⟨by decide +kernel, by decide +kernel⟩, List.mem_of_getElem? (i := 22) (by decide +kernel), List.mem_of_getElem? (i := 894) (by decide +kernel), List.mem_of_getElem? (i := 895) (by decide +kernel)⟩
theorem lw_p40 : lw_okq (⟨"RaysOfShapes", "built", "(III)I"⟩, 16) := ⟨⟨by decide +kernel, by decide +kernel⟩, List.mem_of_getElem? (i := 22) (by decide +kernel), List.mem_of_getElem? (i := 898) (by decide +kernel), List.mem_of_getElem? (i := 899) (by decide +kernel)⟩
theorem lw_p41 : lw_okq (⟨"RaysOfShapes$Walker", "sizeOfPiece", "(LRaysOfShapes$Places;I)I"⟩, 8) := ⟨⟨by decide +kernel, by decide +kernel⟩, List.mem_of_getElem? (i := 224) (by decide +kernel), List.mem_of_getElem? (i := 1072) (by decide +kernel), List.mem_of_getElem? (i := 1073) (by decide +kernel)⟩
theorem lw_p42 : lw_okq (⟨"RaysOfShapes", "countBlends", "(III)V"⟩, 16) := ⟨⟨by decide +kernel, by decide +kernel⟩, List.mem_of_getElem? (i := 22) (by decide +kernel), List.mem_of_getElem? (i := 1113) (by decide +kernel), List.mem_of_getElem? (i := 1114) (by decide +kernel)⟩
theorem lw_p43 : lw_okq (⟨"RaysOfShapes", "worthIn", "(II)LRaysOfShapes$Fraction;"⟩, 16) := ⟨⟨by decide +kernel, by decide +kernel⟩, List.mem_of_getElem? (i := 22) (by decide +kernel), List.mem_of_getElem? (i := 1117) (by decide +kernel), List.mem_of_getElem? (i := 1118) (by decide +kernel)⟩
theorem lw_p44 : lw_okq (⟨"RaysOfShapes", "toldRefusal", "(II)I"⟩, 16) := ⟨⟨by decide +kernel, by decide +kernel⟩, List.mem_of_getElem? (i := 22) (by decide +kernel), List.mem_of_getElem? (i := 1125) (by decide +kernel), List.mem_of_getElem? (i := 1126) (by decide +kernel)⟩
theorem lw_p45 : lw_okq (⟨"RaysOfShapes", "isSoOfPair", "(IIIII)Z"⟩, 16) := ⟨⟨by decide +kernel, by decide +kernel⟩, List.mem_of_getElem? (i := 22) (by decide +kernel), List.mem_of_getElem? (i := 1130) (by decide +kernel), List.mem_of_getElem? (i := 1131) (by decide +kernel)⟩
theorem lw_p46 : lw_okq (⟨"RaysOfShapes", "isInPair", "(IIII)Z"⟩, 16) := ⟨⟨by decide +kernel, by decide +kernel⟩, List.mem_of_getElem? (i := 22) (by decide +kernel), List.mem_of_getElem? (i := 1134) (by decide +kernel), List.mem_of_getElem? (i := 1135) (by decide +kernel)⟩
theorem lw_p47 : lw_okq (⟨"RaysOfShapesModel", "isShape", "(I)Z"⟩, 32) := ⟨⟨by decide +kernel, by decide +kernel⟩, List.mem_of_getElem? (i := 1253) (by decide +kernel), List.mem_of_getElem? (i := 1378) (by decide +kernel), List.mem_of_getElem? (i := 1379) (by decide +kernel)⟩
def lw_privs_3 : List (MethodName × Nat) := [(⟨"RaysOfShapes$Table", "deepOver", "(III)I"⟩, 8), (⟨"RaysOfShapes$Table", "blendsOver", "(III)I"⟩, 8), (⟨"RaysOfShapes$Table", "blendsOf", "(I)I"⟩, 8), (⟨"RaysOfShapes$Reader", "end", "(LRaysOfShapes$Table;I)Z"⟩, 11), (⟨"RaysOfShapes$Reader", "readSign", "(I)Z"⟩, 11), (⟨"RaysOfShapes$Reader", "begun", "(II)Z"⟩, 11), (⟨"RaysOfShapes", "added", "(I)I"⟩, 16), (⟨"RaysOfShapes", "putNumbers", "(III)V"⟩, 16), (⟨"RaysOfShapes", "built", "(III)I"⟩, 16), (⟨"RaysOfShapes$Walker", "sizeOfPiece", "(LRaysOfShapes$Places;I)I"⟩, 8), (⟨"RaysOfShapes", "countBlends", "(III)V"⟩, 16), (⟨"RaysOfShapes", "worthIn", "(II)LRaysOfShapes$Fraction;"⟩, 16), (⟨"RaysOfShapes", "toldRefusal", "(II)I"⟩, 16), (⟨"RaysOfShapes", "isSoOfPair", "(IIIII)Z"⟩, 16), (⟨"RaysOfShapes", "isInPair", "(IIII)Z"⟩, 16), (⟨"RaysOfShapesModel", "isShape", "(I)Z"⟩, 32)]
theorem lw_r3 : ∀ q ∈ lw_privs_3, lw_okq q := List.forall_mem_cons.mpr ⟨lw_p32, List.forall_mem_cons.mpr ⟨lw_p33, List.forall_mem_cons.mpr ⟨lw_p34, List.forall_mem_cons.mpr ⟨lw_p35, List.forall_mem_cons.mpr ⟨lw_p36, List.forall_mem_cons.mpr ⟨lw_p37, List.forall_mem_cons.mpr ⟨lw_p38, List.forall_mem_cons.mpr ⟨lw_p39, List.forall_mem_cons.mpr ⟨lw_p40, List.forall_mem_cons.mpr ⟨lw_p41, List.forall_mem_cons.mpr ⟨lw_p42, List.forall_mem_cons.mpr ⟨lw_p43, List.forall_mem_cons.mpr ⟨lw_p44, List.forall_mem_cons.mpr ⟨lw_p45, List.forall_mem_cons.mpr ⟨lw_p46, List.forall_mem_cons.mpr ⟨lw_p47, fun _ h => absurd h List.not_mem_nil⟩⟩⟩⟩⟩⟩⟩⟩⟩⟩⟩⟩⟩⟩⟩⟩
theorem lw_p48 : lw_okq (⟨"RaysOfShapesModel", "refusedLong", "(I)J"⟩, 32) := ⟨⟨by decide +kernel, by decide +kernel⟩, List.mem_of_getElem? (i := 1253) (by decide +kernel), List.mem_of_getElem? (i := 1387) (by decide +kernel), List.mem_of_getElem? (i := 1388) (by decide +kernel)⟩
theorem lw_p49 : lw_okq (⟨"RaysOfShapesModel", "refused", "(I)I"⟩, 32) := ⟨⟨by decide +kernel, by decide +kernel⟩, List.mem_of_getElem? (i := 1253) (by decide +kernel), List.mem_of_getElem? (i := 1391) (by decide +kernel), List.mem_of_getElem? (i := 1392) (by decide +kernel)⟩
theorem lw_p50 : lw_okq (⟨"RaysOfShapesModel", "worthAt", "(IIII)J"⟩, 32) := ⟨⟨by decide +kernel, by decide +kernel⟩, List.mem_of_getElem? (i := 1253) (by decide +kernel), List.mem_of_getElem? (i := 1396) (by decide +kernel), List.mem_of_getElem? (i := 1397) (by decide +kernel)⟩
theorem lw_p51 : lw_okq (⟨"RaysOfShapesModel", "of", "(II)I"⟩, 32) := ⟨⟨by decide +kernel, by decide +kernel⟩, List.mem_of_getElem? (i := 1253) (by decide +kernel), List.mem_of_getElem? (i := 1400) (by decide +kernel), List.mem_of_getElem? (i := 1401) (by decide +kernel)⟩
theorem lw_p52 : lw_okq (⟨"RaysOfShapesModel", "number", "(II)I"⟩, 32) := ⟨⟨by decide +kernel, by decide +kernel⟩, List.mem_of_getElem? (i := 1253) (by decide +kernel), List.mem_of_getElem? (i := 1404) (by decide +kernel), List.mem_of_getElem? (i := 1405) (by decide +kernel)⟩
theorem lw_p53 : lw_okq (⟨"RaysOfShapesModel", "beyond", "(III)J"⟩, 32) := ⟨⟨by decide +kernel, by decide +kernel⟩, List.mem_of_getElem? (i := 1253) (by decide +kernel), List.mem_of_getElem? (i := 1409) (by decide +kernel), List.mem_of_getElem? (i := 1410) (by decide +kernel)⟩
theorem lw_p54 : lw_okq (⟨"RaysOfShapesModel", "blended", "(IJJ)J"⟩, 32) := ⟨⟨by decide +kernel, by decide +kernel⟩, List.mem_of_getElem? (i := 1253) (by decide +kernel), List.mem_of_getElem? (i := 1420) (by decide +kernel), List.mem_of_getElem? (i := 1421) (by decide +kernel)⟩
theorem lw_p55 : lw_okq (⟨"RaysOfShapesModel", "changed", "(IIII)J"⟩, 32) := ⟨⟨by decide +kernel, by decide +kernel⟩, List.mem_of_getElem? (i := 1253) (by decide +kernel), List.mem_of_getElem? (i := 1424) (by decide +kernel), List.mem_of_getElem? (i := 1425) (by decide +kernel)⟩
theorem lw_p56 : lw_okq (⟨"RaysOfShapesModel", "grownBy", "(I)J"⟩, 32) := ⟨⟨by decide +kernel, by decide +kernel⟩, List.mem_of_getElem? (i := 1253) (by decide +kernel), List.mem_of_getElem? (i := 1432) (by decide +kernel), List.mem_of_getElem? (i := 1433) (by decide +kernel)⟩
theorem lw_p57 : lw_okq (⟨"RaysOfShapesModel", "bound", "(IIIIIIII)V"⟩, 32) := ⟨⟨by decide +kernel, by decide +kernel⟩, List.mem_of_getElem? (i := 1253) (by decide +kernel), List.mem_of_getElem? (i := 1461) (by decide +kernel), List.mem_of_getElem? (i := 1462) (by decide +kernel)⟩
theorem lw_p58 : lw_okq (⟨"RaysOfShapesModel", "lowBeyond", "(IIII)J"⟩, 32) := ⟨⟨by decide +kernel, by decide +kernel⟩, List.mem_of_getElem? (i := 1253) (by decide +kernel), List.mem_of_getElem? (i := 1471) (by decide +kernel), List.mem_of_getElem? (i := 1472) (by decide +kernel)⟩
theorem lw_p59 : lw_okq (⟨"RaysOfShapesModel", "highBeyond", "(IIII)J"⟩, 32) := ⟨⟨by decide +kernel, by decide +kernel⟩, List.mem_of_getElem? (i := 1253) (by decide +kernel), List.mem_of_getElem? (i := 1475) (by decide +kernel), List.mem_of_getElem? (i := 1476) (by decide +kernel)⟩
theorem lw_p60 : lw_okq (⟨"RaysOfShapesModel", "boundPair", "(IIIIIIII)V"⟩, 32) := ⟨⟨by decide +kernel, by decide +kernel⟩, List.mem_of_getElem? (i := 1253) (by decide +kernel), List.mem_of_getElem? (i := 1482) (by decide +kernel), List.mem_of_getElem? (i := 1483) (by decide +kernel)⟩
theorem lw_p61 : lw_okq (⟨"RaysOfShapesModel", "boundChange", "(IIIIIIII)V"⟩, 32) := ⟨⟨by decide +kernel, by decide +kernel⟩, List.mem_of_getElem? (i := 1253) (by decide +kernel), List.mem_of_getElem? (i := 1486) (by decide +kernel), List.mem_of_getElem? (i := 1487) (by decide +kernel)⟩
theorem lw_p62 : lw_okq (⟨"RaysOfShapesModel", "boundTurn", "(IIIIIIIIII)V"⟩, 32) := ⟨⟨by decide +kernel, by decide +kernel⟩, List.mem_of_getElem? (i := 1253) (by decide +kernel), List.mem_of_getElem? (i := 1506) (by decide +kernel), List.mem_of_getElem? (i := 1507) (by decide +kernel)⟩
theorem lw_p63 : lw_okq (⟨"RaysOfShapesModel", "boundGrown", "(II)V"⟩, 32) := ⟨⟨by decide +kernel, by decide +kernel⟩, List.mem_of_getElem? (i := 1253) (by decide +kernel), List.mem_of_getElem? (i := 1510) (by decide +kernel), List.mem_of_getElem? (i := 1511) (by decide +kernel)⟩
def lw_privs_4 : List (MethodName × Nat) := [(⟨"RaysOfShapesModel", "refusedLong", "(I)J"⟩, 32), (⟨"RaysOfShapesModel", "refused", "(I)I"⟩, 32), (⟨"RaysOfShapesModel", "worthAt", "(IIII)J"⟩, 32), (⟨"RaysOfShapesModel", "of", "(II)I"⟩, 32), (⟨"RaysOfShapesModel", "number", "(II)I"⟩, 32), (⟨"RaysOfShapesModel", "beyond", "(III)J"⟩, 32), (⟨"RaysOfShapesModel", "blended", "(IJJ)J"⟩, 32), (⟨"RaysOfShapesModel", "changed", "(IIII)J"⟩, 32), (⟨"RaysOfShapesModel", "grownBy", "(I)J"⟩, 32), (⟨"RaysOfShapesModel", "bound", "(IIIIIIII)V"⟩, 32), (⟨"RaysOfShapesModel", "lowBeyond", "(IIII)J"⟩, 32), (⟨"RaysOfShapesModel", "highBeyond", "(IIII)J"⟩, 32), (⟨"RaysOfShapesModel", "boundPair", "(IIIIIIII)V"⟩, 32), (⟨"RaysOfShapesModel", "boundChange", "(IIIIIIII)V"⟩, 32), (⟨"RaysOfShapesModel", "boundTurn", "(IIIIIIIIII)V"⟩, 32), (⟨"RaysOfShapesModel", "boundGrown", "(II)V"⟩, 32)]
theorem lw_r4 : ∀ q ∈ lw_privs_4, lw_okq q := List.forall_mem_cons.mpr ⟨lw_p48, List.forall_mem_cons.mpr ⟨lw_p49, List.forall_mem_cons.mpr ⟨lw_p50, List.forall_mem_cons.mpr ⟨lw_p51, List.forall_mem_cons.mpr ⟨lw_p52, List.forall_mem_cons.mpr ⟨lw_p53, List.forall_mem_cons.mpr ⟨lw_p54, List.forall_mem_cons.mpr ⟨lw_p55, List.forall_mem_cons.mpr ⟨lw_p56, List.forall_mem_cons.mpr ⟨lw_p57, List.forall_mem_cons.mpr ⟨lw_p58, List.forall_mem_cons.mpr ⟨lw_p59, List.forall_mem_cons.mpr ⟨lw_p60, List.forall_mem_cons.mpr ⟨lw_p61, List.forall_mem_cons.mpr ⟨lw_p62, List.forall_mem_cons.mpr ⟨lw_p63, fun _ h => absurd h List.not_mem_nil⟩⟩⟩⟩⟩⟩⟩⟩⟩⟩⟩⟩⟩⟩⟩⟩
theorem lw_p64 : lw_okq (⟨"RaysOfShapesModel", "isInside", "(II)Z"⟩, 32) := ⟨⟨by decide +kernel, by decide +kernel⟩, List.mem_of_getElem? (i := 1253) (by decide +kernel), List.mem_of_getElem? (i := 1518) (by decide +kernel), List.mem_of_getElem? (i := 1519) (by decide +kernel)⟩
theorem lw_p65 : lw_okq (⟨"RaysOfShapesModel", "fills", "(II)I"⟩, 32) := ⟨⟨by decide +kernel, by decide +kernel⟩, List.mem_of_getElem? (i := 1253) (by decide +kernel), List.mem_of_getElem? (i := 1526) (by decide +kernel), List.mem_of_getElem? (i := 1527) (by decide +kernel)⟩
theorem lw_p66 : lw_okq (⟨"RaysOfShapesModel", "looked", "(IIIII)I"⟩, 32) := ⟨⟨by decide +kernel, by decide +kernel⟩, List.mem_of_getElem? (i := 1253) (by decide +kernel), List.mem_of_getElem? (i := 1530) (by decide +kernel), List.mem_of_getElem? (i := 1531) (by decide +kernel)⟩
theorem lw_p67 : lw_okq (⟨"RaysOfShapesModel", "skinOf", "(I)I"⟩, 32) := ⟨⟨by decide +kernel, by decide +kernel⟩, List.mem_of_getElem? (i := 1253) (by decide +kernel), List.mem_of_getElem? (i := 1561) (by decide +kernel), List.mem_of_getElem? (i := 1562) (by decide +kernel)⟩
theorem lw_p68 : lw_okq (⟨"RaysOfShapesModel", "piecesOf", "(II)I"⟩, 32) := ⟨⟨by decide +kernel, by decide +kernel⟩, List.mem_of_getElem? (i := 1253) (by decide +kernel), List.mem_of_getElem? (i := 1572) (by decide +kernel), List.mem_of_getElem? (i := 1573) (by decide +kernel)⟩
theorem lw_p69 : lw_okq (⟨"RaysOfShapesModel", "piece", "(II)I"⟩, 32) := ⟨⟨by decide +kernel, by decide +kernel⟩, List.mem_of_getElem? (i := 1253) (by decide +kernel), List.mem_of_getElem? (i := 1576) (by decide +kernel), List.mem_of_getElem? (i := 1577) (by decide +kernel)⟩
theorem lw_p70 : lw_okq (⟨"RaysOfShapesModel", "fillsBoth", "(II)I"⟩, 32) := ⟨⟨by decide +kernel, by decide +kernel⟩, List.mem_of_getElem? (i := 1253) (by decide +kernel), List.mem_of_getElem? (i := 1584) (by decide +kernel), List.mem_of_getElem? (i := 1585) (by decide +kernel)⟩
theorem lw_p71 : lw_okq (⟨"RaysOfShapesModel", "meets", "(II)Z"⟩, 32) := ⟨⟨by decide +kernel, by decide +kernel⟩, List.mem_of_getElem? (i := 1253) (by decide +kernel), List.mem_of_getElem? (i := 1603) (by decide +kernel), List.mem_of_getElem? (i := 1604) (by decide +kernel)⟩
theorem lw_p72 : lw_okq (⟨"RaysOfShapesModel", "deepOver", "(II)I"⟩, 32) := ⟨⟨by decide +kernel, by decide +kernel⟩, List.mem_of_getElem? (i := 1253) (by decide +kernel), List.mem_of_getElem? (i := 1613) (by decide +kernel), List.mem_of_getElem? (i := 1614) (by decide +kernel)⟩
theorem lw_p73 : lw_okq (⟨"RaysOfShapesModel", "blendsOver", "(II)I"⟩, 32) := ⟨⟨by decide +kernel, by decide +kernel⟩, List.mem_of_getElem? (i := 1253) (by decide +kernel), List.mem_of_getElem? (i := 1617) (by decide +kernel), List.mem_of_getElem? (i := 1618) (by decide +kernel)⟩
theorem lw_p74 : lw_okq (⟨"RaysOfShapesModel", "tells", "(IIII)V"⟩, 32) := ⟨⟨by decide +kernel, by decide +kernel⟩, List.mem_of_getElem? (i := 1253) (by decide +kernel), List.mem_of_getElem? (i := 1625) (by decide +kernel), List.mem_of_getElem? (i := 1626) (by decide +kernel)⟩
theorem lw_p75 : lw_okq (⟨"RaysOfShapesModel", "made", "(III)I"⟩, 32) := ⟨⟨by decide +kernel, by decide +kernel⟩, List.mem_of_getElem? (i := 1253) (by decide +kernel), List.mem_of_getElem? (i := 1629) (by decide +kernel), List.mem_of_getElem? (i := 1630) (by decide +kernel)⟩
theorem lw_p76 : lw_okq (⟨"RaysOfShapesModel", "areNumbers", "(I)Z"⟩, 32) := ⟨⟨by decide +kernel, by decide +kernel⟩, List.mem_of_getElem? (i := 1253) (by decide +kernel), List.mem_of_getElem? (i := 1633) (by decide +kernel), List.mem_of_getElem? (i := 1634) (by decide +kernel)⟩
theorem lw_p77 : lw_okq (⟨"RaysOfShapesModel", "isTooDeep", "(III)Z"⟩, 32) := ⟨⟨by decide +kernel, by decide +kernel⟩, List.mem_of_getElem? (i := 1253) (by decide +kernel), List.mem_of_getElem? (i := 1653) (by decide +kernel), List.mem_of_getElem? (i := 1654) (by decide +kernel)⟩
theorem lw_p78 : lw_okq (⟨"RaysOfShapesModel", "deepBy", "(III)I"⟩, 32) := ⟨⟨by decide +kernel, by decide +kernel⟩, List.mem_of_getElem? (i := 1253) (by decide +kernel), List.mem_of_getElem? (i := 1657) (by decide +kernel), List.mem_of_getElem? (i := 1658) (by decide +kernel)⟩
theorem lw_p79 : lw_okq (⟨"RaysOfShapesModel", "blendsBy", "(III)I"⟩, 32) := ⟨⟨by decide +kernel, by decide +kernel⟩, List.mem_of_getElem? (i := 1253) (by decide +kernel), List.mem_of_getElem? (i := 1661) (by decide +kernel), List.mem_of_getElem? (i := 1662) (by decide +kernel)⟩
def lw_privs_5 : List (MethodName × Nat) := [(⟨"RaysOfShapesModel", "isInside", "(II)Z"⟩, 32), (⟨"RaysOfShapesModel", "fills", "(II)I"⟩, 32), (⟨"RaysOfShapesModel", "looked", "(IIIII)I"⟩, 32), (⟨"RaysOfShapesModel", "skinOf", "(I)I"⟩, 32), (⟨"RaysOfShapesModel", "piecesOf", "(II)I"⟩, 32), (⟨"RaysOfShapesModel", "piece", "(II)I"⟩, 32), (⟨"RaysOfShapesModel", "fillsBoth", "(II)I"⟩, 32), (⟨"RaysOfShapesModel", "meets", "(II)Z"⟩, 32), (⟨"RaysOfShapesModel", "deepOver", "(II)I"⟩, 32), (⟨"RaysOfShapesModel", "blendsOver", "(II)I"⟩, 32), (⟨"RaysOfShapesModel", "tells", "(IIII)V"⟩, 32), (⟨"RaysOfShapesModel", "made", "(III)I"⟩, 32), (⟨"RaysOfShapesModel", "areNumbers", "(I)Z"⟩, 32), (⟨"RaysOfShapesModel", "isTooDeep", "(III)Z"⟩, 32), (⟨"RaysOfShapesModel", "deepBy", "(III)I"⟩, 32), (⟨"RaysOfShapesModel", "blendsBy", "(III)I"⟩, 32)]
theorem lw_r5 : ∀ q ∈ lw_privs_5, lw_okq q := List.forall_mem_cons.mpr ⟨lw_p64, List.forall_mem_cons.mpr ⟨lw_p65, List.forall_mem_cons.mpr ⟨lw_p66, List.forall_mem_cons.mpr ⟨lw_p67, List.forall_mem_cons.mpr ⟨lw_p68, List.forall_mem_cons.mpr ⟨lw_p69, List.forall_mem_cons.mpr ⟨lw_p70, List.forall_mem_cons.mpr ⟨lw_p71, List.forall_mem_cons.mpr ⟨lw_p72, List.forall_mem_cons.mpr ⟨lw_p73, List.forall_mem_cons.mpr ⟨lw_p74, List.forall_mem_cons.mpr ⟨lw_p75, List.forall_mem_cons.mpr ⟨lw_p76, List.forall_mem_cons.mpr ⟨lw_p77, List.forall_mem_cons.mpr ⟨lw_p78, List.forall_mem_cons.mpr ⟨lw_p79, fun _ h => absurd h List.not_mem_nil⟩⟩⟩⟩⟩⟩⟩⟩⟩⟩⟩⟩⟩⟩⟩⟩
theorem lw_p80 : lw_okq (⟨"RaysOfShapesModel", "comes", "(IIIII[II)I"⟩, 32) := ⟨⟨by decide +kernel, by decide +kernel⟩, List.mem_of_getElem? (i := 1253) (by decide +kernel), List.mem_of_getElem? (i := 1665) (by decide +kernel), List.mem_of_getElem? (i := 1666) (by decide +kernel)⟩
theorem lw_p81 : lw_okq (⟨"RaysOfShapesModel", "looseShelves", "()V"⟩, 32) := ⟨⟨by decide +kernel, by decide +kernel⟩, List.mem_of_getElem? (i := 1253) (by decide +kernel), List.mem_of_getElem? (i := 1705) (by decide +kernel), List.mem_of_getElem? (i := 1706) (by decide +kernel)⟩
theorem lw_p82 : lw_okq (⟨"RaysOfShapesModel", "solids", "(I)I"⟩, 32) := ⟨⟨by decide +kernel, by decide +kernel⟩, List.mem_of_getElem? (i := 1253) (by decide +kernel), List.mem_of_getElem? (i := 1713) (by decide +kernel), List.mem_of_getElem? (i := 1714) (by decide +kernel)⟩
theorem lw_p83 : lw_okq (⟨"RaysOfShapesModel", "next", "()V"⟩, 32) := ⟨⟨by decide +kernel, by decide +kernel⟩, List.mem_of_getElem? (i := 1253) (by decide +kernel), List.mem_of_getElem? (i := 1730) (by decide +kernel), List.mem_of_getElem? (i := 1731) (by decide +kernel)⟩
theorem lw_p84 : lw_okq (⟨"RaysOfShapesModel", "byteAt", "(I)I"⟩, 32) := ⟨⟨by decide +kernel, by decide +kernel⟩, List.mem_of_getElem? (i := 1253) (by decide +kernel), List.mem_of_getElem? (i := 1734) (by decide +kernel), List.mem_of_getElem? (i := 1735) (by decide +kernel)⟩
theorem lw_p85 : lw_okq (⟨"RaysOfShapesModel", "wordOf", "(II)I"⟩, 32) := ⟨⟨by decide +kernel, by decide +kernel⟩, List.mem_of_getElem? (i := 1253) (by decide +kernel), List.mem_of_getElem? (i := 1740) (by decide +kernel), List.mem_of_getElem? (i := 1741) (by decide +kernel)⟩
theorem lw_p86 : lw_okq (⟨"RaysOfShapesModel", "shapeRead", "(I)I"⟩, 32) := ⟨⟨by decide +kernel, by decide +kernel⟩, List.mem_of_getElem? (i := 1253) (by decide +kernel), List.mem_of_getElem? (i := 1749) (by decide +kernel), List.mem_of_getElem? (i := 1750) (by decide +kernel)⟩
theorem lw_p87 : lw_okq (⟨"RaysOfShapesModel", "areRead", "(II)Z"⟩, 32) := ⟨⟨by decide +kernel, by decide +kernel⟩, List.mem_of_getElem? (i := 1253) (by decide +kernel), List.mem_of_getElem? (i := 1753) (by decide +kernel), List.mem_of_getElem? (i := 1754) (by decide +kernel)⟩
theorem lw_p88 : lw_okq (⟨"RaysOfShapesModel", "isSign", "(I)Z"⟩, 32) := ⟨⟨by decide +kernel, by decide +kernel⟩, List.mem_of_getElem? (i := 1253) (by decide +kernel), List.mem_of_getElem? (i := 1760) (by decide +kernel), List.mem_of_getElem? (i := 1761) (by decide +kernel)⟩
theorem lw_p89 : lw_okq (⟨"RaysOfShapesModel", "isClosed", "()Z"⟩, 32) := ⟨⟨by decide +kernel, by decide +kernel⟩, List.mem_of_getElem? (i := 1253) (by decide +kernel), List.mem_of_getElem? (i := 1764) (by decide +kernel), List.mem_of_getElem? (i := 1765) (by decide +kernel)⟩
theorem lw_p90 : lw_okq (⟨"RaysOfShapesModel", "saysOf", "(II)I"⟩, 32) := ⟨⟨by decide +kernel, by decide +kernel⟩, List.mem_of_getElem? (i := 1253) (by decide +kernel), List.mem_of_getElem? (i := 1807) (by decide +kernel), List.mem_of_getElem? (i := 1808) (by decide +kernel)⟩
theorem lw_p91 : lw_okq (⟨"RaysOfShapesModel", "wholePlaces", "(I)I"⟩, 32) := ⟨⟨by decide +kernel, by decide +kernel⟩, List.mem_of_getElem? (i := 1253) (by decide +kernel), List.mem_of_getElem? (i := 1811) (by decide +kernel), List.mem_of_getElem? (i := 1812) (by decide +kernel)⟩
theorem lw_p92 : lw_okq (⟨"RaysOfShapesModel", "isTold", "(II)I"⟩, 32) := ⟨⟨by decide +kernel, by decide +kernel⟩, List.mem_of_getElem? (i := 1253) (by decide +kernel), List.mem_of_getElem? (i := 1820) (by decide +kernel), List.mem_of_getElem? (i := 1821) (by decide +kernel)⟩
theorem lw_p93 : lw_okq (⟨"RaysOfShapesModel", "isPaired", "(IIII)Z"⟩, 32) := ⟨⟨by decide +kernel, by decide +kernel⟩, List.mem_of_getElem? (i := 1253) (by decide +kernel), List.mem_of_getElem? (i := 1824) (by decide +kernel), List.mem_of_getElem? (i := 1825) (by decide +kernel)⟩
theorem lw_p94 : lw_okq (⟨"RaysOfShapesModel", "carves", "(I)I"⟩, 32) := ⟨⟨by decide +kernel, by decide +kernel⟩, List.mem_of_getElem? (i := 1253) (by decide +kernel), List.mem_of_getElem? (i := 1836) (by decide +kernel), List.mem_of_getElem? (i := 1837) (by decide +kernel)⟩
theorem lw_p95 : lw_okq (⟨"RaysOfShapesModel", "blockMany", "()I"⟩, 32) := ⟨⟨by decide +kernel, by decide +kernel⟩, List.mem_of_getElem? (i := 1253) (by decide +kernel), List.mem_of_getElem? (i := 1848) (by decide +kernel), List.mem_of_getElem? (i := 1849) (by decide +kernel)⟩
def lw_privs_6 : List (MethodName × Nat) := [(⟨"RaysOfShapesModel", "comes", "(IIIII[II)I"⟩, 32), (⟨"RaysOfShapesModel", "looseShelves", "()V"⟩, 32), (⟨"RaysOfShapesModel", "solids", "(I)I"⟩, 32), (⟨"RaysOfShapesModel", "next", "()V"⟩, 32), (⟨"RaysOfShapesModel", "byteAt", "(I)I"⟩, 32), (⟨"RaysOfShapesModel", "wordOf", "(II)I"⟩, 32), (⟨"RaysOfShapesModel", "shapeRead", "(I)I"⟩, 32), (⟨"RaysOfShapesModel", "areRead", "(II)Z"⟩, 32), (⟨"RaysOfShapesModel", "isSign", "(I)Z"⟩, 32), (⟨"RaysOfShapesModel", "isClosed", "()Z"⟩, 32), (⟨"RaysOfShapesModel", "saysOf", "(II)I"⟩, 32), (⟨"RaysOfShapesModel", "wholePlaces", "(I)I"⟩, 32), (⟨"RaysOfShapesModel", "isTold", "(II)I"⟩, 32), (⟨"RaysOfShapesModel", "isPaired", "(IIII)Z"⟩, 32), (⟨"RaysOfShapesModel", "carves", "(I)I"⟩, 32), (⟨"RaysOfShapesModel", "blockMany", "()I"⟩, 32)]
theorem lw_r6 : ∀ q ∈ lw_privs_6, lw_okq q := List.forall_mem_cons.mpr ⟨lw_p80, List.forall_mem_cons.mpr ⟨lw_p81, List.forall_mem_cons.mpr ⟨lw_p82, List.forall_mem_cons.mpr ⟨lw_p83, List.forall_mem_cons.mpr ⟨lw_p84, List.forall_mem_cons.mpr ⟨lw_p85, List.forall_mem_cons.mpr ⟨lw_p86, List.forall_mem_cons.mpr ⟨lw_p87, List.forall_mem_cons.mpr ⟨lw_p88, List.forall_mem_cons.mpr ⟨lw_p89, List.forall_mem_cons.mpr ⟨lw_p90, List.forall_mem_cons.mpr ⟨lw_p91, List.forall_mem_cons.mpr ⟨lw_p92, List.forall_mem_cons.mpr ⟨lw_p93, List.forall_mem_cons.mpr ⟨lw_p94, List.forall_mem_cons.mpr ⟨lw_p95, fun _ h => absurd h List.not_mem_nil⟩⟩⟩⟩⟩⟩⟩⟩⟩⟩⟩⟩⟩⟩⟩⟩
theorem lw_p96 : lw_okq (⟨"RaysOfShapesModel", "draw", "(I)I"⟩, 32) := ⟨⟨by decide +kernel, by decide +kernel⟩, List.mem_of_getElem? (i := 1253) (by decide +kernel), List.mem_of_getElem? (i := 1865) (by decide +kernel), List.mem_of_getElem? (i := 1866) (by decide +kernel)⟩
theorem lw_p97 : lw_okq (⟨"RaysOfShapesModel", "held", "()I"⟩, 32) := ⟨⟨by decide +kernel, by decide +kernel⟩, List.mem_of_getElem? (i := 1253) (by decide +kernel), List.mem_of_getElem? (i := 1889) (by decide +kernel), List.mem_of_getElem? (i := 1890) (by decide +kernel)⟩
def lw_privs_7 : List (MethodName × Nat) := [(⟨"RaysOfShapesModel", "draw", "(I)I"⟩, 32), (⟨"RaysOfShapesModel", "held", "()I"⟩, 32)]
theorem lw_r7 : ∀ q ∈ lw_privs_7, lw_okq q := List.forall_mem_cons.mpr ⟨lw_p96, List.forall_mem_cons.mpr ⟨lw_p97, fun _ h => absurd h List.not_mem_nil⟩⟩
def lw_privs : List (MethodName × Nat) := lw_privs_1 ++ (lw_privs_2 ++ (lw_privs_3 ++ (lw_privs_4 ++ (lw_privs_5 ++ (lw_privs_6 ++ (lw_privs_7))))))
def lw_tbl : List Cond := k2_sels lw_privs ++ tables_1
theorem lw_privs_ok : ∀ q ∈ lw_privs, lw_okq q := by
  show ∀ q ∈ lw_privs_1 ++ (lw_privs_2 ++ (lw_privs_3 ++ (lw_privs_4 ++ (lw_privs_5 ++ (lw_privs_6 ++ (lw_privs_7)))))), lw_okq q
  exact List.forall_mem_append.mpr ⟨lw_r1, List.forall_mem_append.mpr ⟨lw_r2, List.forall_mem_append.mpr ⟨lw_r3, List.forall_mem_append.mpr ⟨lw_r4, List.forall_mem_append.mpr ⟨lw_r5, List.forall_mem_append.mpr ⟨lw_r6, lw_r7⟩⟩⟩⟩⟩⟩
end
section
set_option maxRecDepth 100000 in
noncomputable def zc_X0_init : List (Nat × Jvm.ClassFile.Instr × List Nat × List Int) := [(0, .aload_n 0, [], []),
  (1, .invokespecial 1, [9999], []),
  (4, .aload_n 0, [], []),
  (5, .new 7, [67, 6, 1], []),
  (8, .dup, [], []),
  (9, .invokespecial 9, [0, 48, 1, 0], [0, 0, 6]),
  (12, .putfield 10, [0, 1, 3], [6, 1, 0]),
  (15, .aload_n 0, [], []),
  (16, .bipush 12, [], []),
  (18, .anewarray 7, [67, 31], []),
  (21, .putfield 16, [1, 1, 3], [31, 12, 1]),
  (24, .aload_n 0, [], []),
  (25, .iconst 1, [], []),
  (26, .putfield 20, [2, 1, 1], [0, 0, 5]),
  (29, .iconst 0, [], []),
  (30, .istore_n 1, [], []),
  (31, .iload_n 1, [], []),
  (32, .aload_n 0, [], []),
  (33, .getfield 16, [1, 1, 3], [31, 12, 1]),
  (36, .arraylength, [], []),
  (37, .if_icmp .ge 22, [30], []),
  (40, .aload_n 0, [], []),
  (41, .getfield 16, [1, 1, 3], [31, 12, 1]),
  (44, .iload_n 1, [], []),
  (45, .new 7, [67, 6, 1], []),
  (48, .dup, [], []),
  (49, .invokespecial 9, [0, 48, 1, 0], [0, 0, 6]),
  (52, .aastore, [], []),
  (53, .iinc 1 1, [], []),
  (56, .goto (-25), [16], []),
  (59, .return_, [], [])]
set_option maxRecDepth 100000 in
noncomputable def zc_X0_places : List (Nat × Jvm.ClassFile.Instr × List Nat × List Int) := [(0, .aload_n 0, [], []),
  (1, .getfield 10, [0, 1, 3], [6, 1, 0]),
  (4, .areturn, [], [6, 1])]
set_option maxRecDepth 100000 in
noncomputable def zc_X0_left : List (Nat × Jvm.ClassFile.Instr × List Nat × List Int) := [(0, .aload_n 0, [], []),
  (1, .getfield 24, [3, 1, 1], [0, 0, 3]),
  (4, .ireturn, [1], [])]
set_option maxRecDepth 100000 in
noncomputable def zc_X0_inAll : List (Nat × Jvm.ClassFile.Instr × List Nat × List Int) := [(0, .aload_n 0, [], []),
  (1, .getfield 27, [4, 1, 1], [0, 0, 4]),
  (4, .ireturn, [1], [])]
set_option maxRecDepth 100000 in
noncomputable def zc_X0_drawnFrom : List (Nat × Jvm.ClassFile.Instr × List Nat × List Int) := [(0, .aload_n 0, [], []),
  (1, .getfield 20, [2, 1, 1], [0, 0, 5]),
  (4, .ireturn, [1], [])]
set_option maxRecDepth 100000 in
noncomputable def zc_X0_drawFrom : List (Nat × Jvm.ClassFile.Instr × List Nat × List Int) := [(0, .aload_n 0, [], []),
  (1, .iload_n 1, [], []),
  (2, .putfield 20, [2, 1, 1], [0, 0, 5]),
  (5, .return_, [], [])]
set_option maxRecDepth 100000 in
noncomputable def zc_X0_draw : List (Nat × Jvm.ClassFile.Instr × List Nat × List Int) := [(0, .aload_n 0, [], []),
  (1, .aload_n 0, [], []),
  (2, .getfield 20, [2, 1, 1], [0, 0, 5]),
  (5, .ldc 30, [1199, 0], [1103515245]),
  (7, .imul, [], []),
  (8, .sipush 12345, [], []),
  (11, .iadd, [], []),
  (12, .putfield 20, [2, 1, 1], [0, 0, 5]),
  (15, .iload_n 1, [], []),
  (16, .iconst 1, [], []),
  (17, .if_icmp .ge 7, [13], []),
  (20, .iconst 0, [], []),
  (21, .goto 12, [19], []),
  (24, .aload_n 0, [], []),
  (25, .getfield 20, [2, 1, 1], [0, 0, 5]),
  (28, .bipush 16, [], []),
  (30, .iushr, [], []),
  (31, .iload_n 1, [], []),
  (32, .irem, [], []),
  (33, .ireturn, [1], [])]
set_option maxRecDepth 100000 in
noncomputable def zc_X0_carveBy : List (Nat × Jvm.ClassFile.Instr × List Nat × List Int) := [(0, .aload_n 0, [], []),
  (1, .getfield 16, [1, 1, 3], [31, 12, 1]),
  (4, .aload_n 0, [], []),
  (5, .getfield 31, [5, 1, 1], [0, 0, 2]),
  (8, .bipush 12, [], []),
  (10, .invokestatic 34, [1, 339, 2, 1], [0, 0]),
  (13, .aaload, [], []),
  (14, .astore_n 3, [], []),
  (15, .aload_n 3, [], []),
  (16, .aload_n 0, [], []),
  (17, .getfield 10, [0, 1, 3], [6, 1, 0]),
  (20, .aload_n 1, [], []),
  (21, .iload_n 2, [], []),
  (22, .invokevirtual 40, [2, 55, 4, 0], [0, 0, 6]),
  (25, .aload_n 0, [], []),
  (26, .getfield 10, [0, 1, 3], [6, 1, 0]),
  (29, .aload_n 3, [], []),
  (30, .invokevirtual 44, [3, 56, 2, 0], [0, 0, 6]),
  (33, .aload_n 0, [], []),
  (34, .aload_n 0, [], []),
  (35, .getfield 31, [5, 1, 1], [0, 0, 2]),
  (38, .iconst 1, [], []),
  (39, .iadd, [], []),
  (40, .bipush 12, [], []),
  (42, .invokestatic 34, [1, 339, 2, 1], [0, 0]),
  (45, .putfield 31, [5, 1, 1], [0, 0, 2]),
  (48, .aload_n 0, [], []),
  (49, .aload_n 0, [], []),
  (50, .getfield 24, [3, 1, 1], [0, 0, 3]),
  (53, .iconst 1, [], []),
  (54, .iadd, [], []),
  (55, .bipush 12, [], []),
  (57, .invokestatic 48, [4, 343, 2, 1], [0, 0]),
  (60, .putfield 24, [3, 1, 1], [0, 0, 3]),
  (63, .aload_n 0, [], []),
  (64, .dup, [], []),
  (65, .getfield 27, [4, 1, 1], [0, 0, 4]),
  (68, .iconst 1, [], []),
  (69, .iadd, [], []),
  (70, .putfield 27, [4, 1, 1], [0, 0, 4]),
  (73, .aload_n 3, [], []),
  (74, .invokevirtual 51, [5, 57, 1, 1], [0, 0, 6]),
  (77, .ireturn, [1], [])]
set_option maxRecDepth 100000 in
noncomputable def zc_X0_tellBack : List (Nat × Jvm.ClassFile.Instr × List Nat × List Int) := [(0, .aload_n 0, [], []),
  (1, .aload_n 0, [], []),
  (2, .getfield 31, [5, 1, 1], [0, 0, 2]),
  (5, .iconst 1, [], []),
  (6, .isub, [], []),
  (7, .bipush 12, [], []),
  (9, .invokestatic 34, [1, 339, 2, 1], [0, 0]),
  (12, .putfield 31, [5, 1, 1], [0, 0, 2]),
  (15, .aload_n 0, [], []),
  (16, .getfield 10, [0, 1, 3], [6, 1, 0]),
  (19, .aload_n 0, [], []),
  (20, .getfield 16, [1, 1, 3], [31, 12, 1]),
  (23, .aload_n 0, [], []),
  (24, .getfield 31, [5, 1, 1], [0, 0, 2]),
  (27, .aaload, [], []),
  (28, .invokevirtual 44, [3, 56, 2, 0], [0, 0, 6]),
  (31, .aload_n 0, [], []),
  (32, .dup, [], []),
  (33, .getfield 24, [3, 1, 1], [0, 0, 3]),
  (36, .iconst 1, [], []),
  (37, .isub, [], []),
  (38, .putfield 24, [3, 1, 1], [0, 0, 3]),
  (41, .return_, [], [])]
set_option maxRecDepth 100000 in
noncomputable def zc_X0_takeFrom : List (Nat × Jvm.ClassFile.Instr × List Nat × List Int) := [(0, .aload_n 0, [], []),
  (1, .getfield 10, [0, 1, 3], [6, 1, 0]),
  (4, .aload_n 1, [], []),
  (5, .getfield 10, [0, 1, 3], [6, 1, 0]),
  (8, .invokevirtual 55, [6, 53, 2, 0], [0, 0, 6]),
  (11, .iconst 0, [], []),
  (12, .istore_n 2, [], []),
  (13, .iload_n 2, [], []),
  (14, .bipush 12, [], []),
  (16, .if_icmp .ge 24, [21], []),
  (19, .aload_n 0, [], []),
  (20, .getfield 16, [1, 1, 3], [31, 12, 1]),
  (23, .iload_n 2, [], []),
  (24, .aaload, [], []),
  (25, .aload_n 1, [], []),
  (26, .getfield 16, [1, 1, 3], [31, 12, 1]),
  (29, .iload_n 2, [], []),
  (30, .aaload, [], []),
  (31, .invokevirtual 55, [6, 53, 2, 0], [0, 0, 6]),
  (34, .iinc 2 1, [], []),
  (37, .goto (-24), [7], []),
  (40, .aload_n 0, [], []),
  (41, .aload_n 1, [], []),
  (42, .getfield 31, [5, 1, 1], [0, 0, 2]),
  (45, .putfield 31, [5, 1, 1], [0, 0, 2]),
  (48, .aload_n 0, [], []),
  (49, .aload_n 1, [], []),
  (50, .getfield 24, [3, 1, 1], [0, 0, 3]),
  (53, .putfield 24, [3, 1, 1], [0, 0, 3]),
  (56, .aload_n 0, [], []),
  (57, .aload_n 1, [], []),
  (58, .getfield 27, [4, 1, 1], [0, 0, 4]),
  (61, .putfield 27, [4, 1, 1], [0, 0, 4]),
  (64, .aload_n 0, [], []),
  (65, .aload_n 1, [], []),
  (66, .getfield 20, [2, 1, 1], [0, 0, 5]),
  (69, .putfield 20, [2, 1, 1], [0, 0, 5]),
  (72, .return_, [], [])]
set_option maxRecDepth 100000 in
noncomputable def zc_X1_init : List (Nat × Jvm.ClassFile.Instr × List Nat × List Int) := [(0, .aload_n 0, [], []),
  (1, .invokespecial 1, [9999], []),
  (4, .aload_n 0, [], []),
  (5, .lconst 1, [], []),
  (6, .putfield 7, [6, 2, 2], [0, 0, 1]),
  (9, .return_, [], [])]
set_option maxRecDepth 100000 in
noncomputable def zc_X1_numerator : List (Nat × Jvm.ClassFile.Instr × List Nat × List Int) := [(0, .aload_n 0, [], []),
  (1, .getfield 13, [7, 2, 2], [0, 0, 0]),
  (4, .lreturn, [], [])]
set_option maxRecDepth 100000 in
noncomputable def zc_X1_denominator : List (Nat × Jvm.ClassFile.Instr × List Nat × List Int) := [(0, .aload_n 0, [], []),
  (1, .getfield 7, [6, 2, 2], [0, 0, 1]),
  (4, .lreturn, [], [])]
set_option maxRecDepth 100000 in
noncomputable def zc_X1_isAboveZero : List (Nat × Jvm.ClassFile.Instr × List Nat × List Int) := [(0, .aload_n 0, [], []),
  (1, .getfield 13, [7, 2, 2], [0, 0, 0]),
  (4, .lconst 0, [], []),
  (5, .lcmp, [], []),
  (6, .ifCond .le 7, [7], []),
  (9, .iconst 1, [], []),
  (10, .goto 4, [8], []),
  (13, .iconst 0, [], []),
  (14, .ireturn, [4], [])]
set_option maxRecDepth 100000 in
noncomputable def zc_X1_isBelowZero : List (Nat × Jvm.ClassFile.Instr × List Nat × List Int) := [(0, .aload_n 0, [], []),
  (1, .getfield 13, [7, 2, 2], [0, 0, 0]),
  (4, .lconst 0, [], []),
  (5, .lcmp, [], []),
  (6, .ifCond .ge 7, [7], []),
  (9, .iconst 1, [], []),
  (10, .goto 4, [8], []),
  (13, .iconst 0, [], []),
  (14, .ireturn, [4], [])]
set_option maxRecDepth 100000 in
noncomputable def zc_X1_isAbove : List (Nat × Jvm.ClassFile.Instr × List Nat × List Int) := [(0, .aload_n 0, [], []),
  (1, .getfield 13, [7, 2, 2], [0, 0, 0]),
  (4, .aload_n 1, [], []),
  (5, .getfield 7, [6, 2, 2], [0, 0, 1]),
  (8, .lmul, [], []),
  (9, .aload_n 1, [], []),
  (10, .getfield 13, [7, 2, 2], [0, 0, 0]),
  (13, .aload_n 0, [], []),
  (14, .getfield 7, [6, 2, 2], [0, 0, 1]),
  (17, .lmul, [], []),
  (18, .lcmp, [], []),
  (19, .ifCond .le 7, [14], []),
  (22, .iconst 1, [], []),
  (23, .goto 4, [15], []),
  (26, .iconst 0, [], []),
  (27, .ireturn, [4], [])]
set_option maxRecDepth 100000 in
noncomputable def zc_X1_putWhole : List (Nat × Jvm.ClassFile.Instr × List Nat × List Int) := [(0, .aload_n 0, [], []),
  (1, .lload_n 1, [], []),
  (2, .putfield 13, [7, 2, 2], [0, 0, 0]),
  (5, .aload_n 0, [], []),
  (6, .lconst 1, [], []),
  (7, .putfield 7, [6, 2, 2], [0, 0, 1]),
  (10, .return_, [], [])]
set_option maxRecDepth 100000 in
noncomputable def zc_X1_put : List (Nat × Jvm.ClassFile.Instr × List Nat × List Int) := [(0, .lload_n 3, [], []),
  (1, .invokestatic 16, [7, 340, 1, 2], [0, 0]),
  (4, .lstore 5, [], []),
  (6, .lload_n 1, [], []),
  (7, .invokestatic 16, [7, 340, 1, 2], [0, 0]),
  (10, .lstore 7, [], []),
  (12, .iconst 0, [], []),
  (13, .istore 9, [], []),
  (15, .iload 9, [], []),
  (17, .sipush 200, [], []),
  (20, .if_icmp .ge 31, [25], []),
  (23, .lload 7, [], []),
  (25, .lconst 0, [], []),
  (26, .lcmp, [], []),
  (27, .ifCond .eq 24, [25], []),
  (30, .lload 5, [], []),
  (32, .lload 7, [], []),
  (34, .lrem, [], []),
  (35, .lstore 10, [], []),
  (37, .lload 7, [], []),
  (39, .lstore 5, [], []),
  (41, .lload 10, [], []),
  (43, .lstore 7, [], []),
  (45, .iinc 9 1, [], []),
  (48, .goto (-33), [8], []),
  (51, .lload 5, [], []),
  (53, .lconst 1, [], []),
  (54, .lcmp, [], []),
  (55, .ifCond .le 22, [40], []),
  (58, .aload_n 0, [], []),
  (59, .lload_n 1, [], []),
  (60, .lload 5, [], []),
  (62, .ldiv, [], []),
  (63, .putfield 13, [7, 2, 2], [0, 0, 0]),
  (66, .aload_n 0, [], []),
  (67, .lload_n 3, [], []),
  (68, .lload 5, [], []),
  (70, .ldiv, [], []),
  (71, .putfield 7, [6, 2, 2], [0, 0, 1]),
  (74, .goto 13, [46], []),
  (77, .aload_n 0, [], []),
  (78, .lload_n 1, [], []),
  (79, .putfield 13, [7, 2, 2], [0, 0, 0]),
  (82, .aload_n 0, [], []),
  (83, .lload_n 3, [], []),
  (84, .putfield 7, [6, 2, 2], [0, 0, 1]),
  (87, .return_, [], [])]
set_option maxRecDepth 100000 in
noncomputable def zc_X1_take : List (Nat × Jvm.ClassFile.Instr × List Nat × List Int) := [(0, .aload_n 0, [], []),
  (1, .aload_n 1, [], []),
  (2, .getfield 13, [7, 2, 2], [0, 0, 0]),
  (5, .putfield 13, [7, 2, 2], [0, 0, 0]),
  (8, .aload_n 0, [], []),
  (9, .aload_n 1, [], []),
  (10, .getfield 7, [6, 2, 2], [0, 0, 1]),
  (13, .putfield 7, [6, 2, 2], [0, 0, 1]),
  (16, .return_, [], [])]
set_option maxRecDepth 100000 in
noncomputable def zc_X1_takeLesser : List (Nat × Jvm.ClassFile.Instr × List Nat × List Int) := [(0, .aload_n 0, [], []),
  (1, .aload_n 1, [], []),
  (2, .invokevirtual 22, [8, 15, 2, 4], [0, 0, 2]),
  (5, .ifCond .eq 8, [7], []),
  (8, .aload_n 0, [], []),
  (9, .aload_n 1, [], []),
  (10, .invokevirtual 26, [9, 18, 2, 0], [0, 0, 2]),
  (13, .return_, [], [])]
set_option maxRecDepth 100000 in
noncomputable def zc_X1_takeGreater : List (Nat × Jvm.ClassFile.Instr × List Nat × List Int) := [(0, .aload_n 1, [], []),
  (1, .aload_n 0, [], []),
  (2, .invokevirtual 22, [8, 15, 2, 4], [0, 0, 2]),
  (5, .ifCond .eq 8, [7], []),
  (8, .aload_n 0, [], []),
  (9, .aload_n 1, [], []),
  (10, .invokevirtual 26, [9, 18, 2, 0], [0, 0, 2]),
  (13, .return_, [], [])]
set_option maxRecDepth 100000 in
noncomputable def zc_X1_changeWith : List (Nat × Jvm.ClassFile.Instr × List Nat × List Int) := [(0, .aload_n 0, [], []),
  (1, .getfield 13, [7, 2, 2], [0, 0, 0]),
  (4, .lstore_n 2, [], []),
  (5, .aload_n 0, [], []),
  (6, .getfield 7, [6, 2, 2], [0, 0, 1]),
  (9, .lstore 4, [], []),
  (11, .aload_n 0, [], []),
  (12, .aload_n 1, [], []),
  (13, .getfield 13, [7, 2, 2], [0, 0, 0]),
  (16, .putfield 13, [7, 2, 2], [0, 0, 0]),
  (19, .aload_n 0, [], []),
  (20, .aload_n 1, [], []),
  (21, .getfield 7, [6, 2, 2], [0, 0, 1]),
  (24, .putfield 7, [6, 2, 2], [0, 0, 1]),
  (27, .aload_n 1, [], []),
  (28, .lload_n 2, [], []),
  (29, .putfield 13, [7, 2, 2], [0, 0, 0]),
  (32, .aload_n 1, [], []),
  (33, .lload 4, [], []),
  (35, .putfield 7, [6, 2, 2], [0, 0, 1]),
  (38, .return_, [], [])]
set_option maxRecDepth 100000 in
noncomputable def zc_X1_turnSign : List (Nat × Jvm.ClassFile.Instr × List Nat × List Int) := [(0, .aload_n 0, [], []),
  (1, .aload_n 0, [], []),
  (2, .getfield 13, [7, 2, 2], [0, 0, 0]),
  (5, .lneg, [], []),
  (6, .putfield 13, [7, 2, 2], [0, 0, 0]),
  (9, .return_, [], [])]
set_option maxRecDepth 100000 in
noncomputable def zc_X1_becomeAmount : List (Nat × Jvm.ClassFile.Instr × List Nat × List Int) := [(0, .aload_n 0, [], []),
  (1, .aload_n 0, [], []),
  (2, .getfield 13, [7, 2, 2], [0, 0, 0]),
  (5, .invokestatic 16, [7, 340, 1, 2], [0, 0]),
  (8, .putfield 13, [7, 2, 2], [0, 0, 0]),
  (11, .return_, [], [])]
set_option maxRecDepth 100000 in
noncomputable def zc_X1_lessen : List (Nat × Jvm.ClassFile.Instr × List Nat × List Int) := [(0, .aload_n 0, [], []),
  (1, .aload_n 0, [], []),
  (2, .getfield 13, [7, 2, 2], [0, 0, 0]),
  (5, .iload_n 2, [], []),
  (6, .i2l, [], []),
  (7, .lmul, [], []),
  (8, .iload_n 1, [], []),
  (9, .i2l, [], []),
  (10, .aload_n 0, [], []),
  (11, .getfield 7, [6, 2, 2], [0, 0, 1]),
  (14, .lmul, [], []),
  (15, .lsub, [], []),
  (16, .aload_n 0, [], []),
  (17, .getfield 7, [6, 2, 2], [0, 0, 1]),
  (20, .iload_n 2, [], []),
  (21, .i2l, [], []),
  (22, .lmul, [], []),
  (23, .invokevirtual 30, [10, 17, 3, 0], [0, 0, 2]),
  (26, .return_, [], [])]
set_option maxRecDepth 100000 in
noncomputable def zc_X1_mix : List (Nat × Jvm.ClassFile.Instr × List Nat × List Int) := [(0, .aload_n 0, [], []),
  (1, .aload_n 0, [], []),
  (2, .getfield 13, [7, 2, 2], [0, 0, 0]),
  (5, .aload_n 1, [], []),
  (6, .getfield 7, [6, 2, 2], [0, 0, 1]),
  (9, .lmul, [], []),
  (10, .iload_n 2, [], []),
  (11, .iload_n 3, [], []),
  (12, .isub, [], []),
  (13, .i2l, [], []),
  (14, .lmul, [], []),
  (15, .aload_n 1, [], []),
  (16, .getfield 13, [7, 2, 2], [0, 0, 0]),
  (19, .aload_n 0, [], []),
  (20, .getfield 7, [6, 2, 2], [0, 0, 1]),
  (23, .lmul, [], []),
  (24, .iload_n 3, [], []),
  (25, .i2l, [], []),
  (26, .lmul, [], []),
  (27, .ladd, [], []),
  (28, .aload_n 0, [], []),
  (29, .getfield 7, [6, 2, 2], [0, 0, 1]),
  (32, .aload_n 1, [], []),
  (33, .getfield 7, [6, 2, 2], [0, 0, 1]),
  (36, .lmul, [], []),
  (37, .iload_n 2, [], []),
  (38, .i2l, [], []),
  (39, .lmul, [], []),
  (40, .invokevirtual 30, [10, 17, 3, 0], [0, 0, 2]),
  (43, .return_, [], [])]
set_option maxRecDepth 100000 in
noncomputable def zc_X2_isUnder : List (Nat × Jvm.ClassFile.Instr × List Nat × List Int) := [(0, .iload_n 0, [], []),
  (1, .istore_n 2, [], []),
  (2, .iconst 0, [], []),
  (3, .istore_n 3, [], []),
  (4, .iload_n 3, [], []),
  (5, .getstatic 9, [8, 0], [23, 18, (-2)]),
  (8, .arraylength, [], []),
  (9, .if_icmp .ge 36, [27], []),
  (12, .iload_n 2, [], []),
  (13, .iload_n 1, [], []),
  (14, .if_icmp .ne 5, [13], []),
  (17, .iconst 1, [], []),
  (18, .ireturn, [4], []),
  (19, .iload_n 2, [], []),
  (20, .ifCond .lt 11, [19], []),
  (23, .iload_n 2, [], []),
  (24, .getstatic 9, [8, 0], [23, 18, (-2)]),
  (27, .arraylength, [], []),
  (28, .if_icmp .lt 5, [21], []),
  (31, .iconst 0, [], []),
  (32, .ireturn, [4], []),
  (33, .getstatic 9, [8, 0], [23, 18, (-2)]),
  (36, .iload_n 2, [], []),
  (37, .iaload, [], []),
  (38, .istore_n 2, [], []),
  (39, .iinc 3 1, [], []),
  (42, .goto (-38), [4], []),
  (45, .iconst 0, [], []),
  (46, .ireturn, [4], [])]
set_option maxRecDepth 100000 in
noncomputable def zc_X2_isSolid : List (Nat × Jvm.ClassFile.Instr × List Nat × List Int) := [(0, .iload_n 0, [], []),
  (1, .iconst 3, [], []),
  (2, .if_icmp .lt 12, [8], []),
  (5, .iload_n 0, [], []),
  (6, .iconst 5, [], []),
  (7, .if_icmp .gt 7, [8], []),
  (10, .iconst 1, [], []),
  (11, .goto 4, [9], []),
  (14, .iconst 0, [], []),
  (15, .ireturn, [4], [])]
set_option maxRecDepth 100000 in
noncomputable def zc_X2_isPair : List (Nat × Jvm.ClassFile.Instr × List Nat × List Int) := [(0, .iload_n 0, [], []),
  (1, .bipush 8, [], []),
  (3, .if_icmp .lt 13, [8], []),
  (6, .iload_n 0, [], []),
  (7, .bipush 11, [], []),
  (9, .if_icmp .gt 7, [8], []),
  (12, .iconst 1, [], []),
  (13, .goto 4, [9], []),
  (16, .iconst 0, [], []),
  (17, .ireturn, [4], [])]
set_option maxRecDepth 100000 in
noncomputable def zc_X2_numbersOf : List (Nat × Jvm.ClassFile.Instr × List Nat × List Int) := [(0, .iload_n 0, [], []),
  (1, .ifCond .lt 19, [10], []),
  (4, .iload_n 0, [], []),
  (5, .getstatic 15, [9, 0], [23, 18, (-3)]),
  (8, .arraylength, [], []),
  (9, .if_icmp .ge 11, [10], []),
  (12, .getstatic 15, [9, 0], [23, 18, (-3)]),
  (15, .iload_n 0, [], []),
  (16, .iaload, [], []),
  (17, .goto 4, [11], []),
  (20, .iconst 0, [], []),
  (21, .ireturn, [1], [])]
set_option maxRecDepth 100000 in
noncomputable def zc_X2_allMayBe : List (Nat × Jvm.ClassFile.Instr × List Nat × List Int) := [(0, .iconst 0, [], []),
  (1, .istore_n 2, [], []),
  (2, .iload_n 2, [], []),
  (3, .iload_n 0, [], []),
  (4, .invokestatic 18, [11, 29, 1, 1], [0, 0]),
  (7, .if_icmp .ge 20, [15], []),
  (10, .iload_n 0, [], []),
  (11, .iload_n 2, [], []),
  (12, .aload_n 1, [], []),
  (13, .invokestatic 22, [12, 31, 3, 4], [0, 0]),
  (16, .ifCond .ne 5, [13], []),
  (19, .iconst 0, [], []),
  (20, .ireturn, [4], []),
  (21, .iinc 2 1, [], []),
  (24, .goto (-22), [2], []),
  (27, .iconst 1, [], []),
  (28, .ireturn, [4], [])]
set_option maxRecDepth 100000 in
noncomputable def zc_X2_mayBe : List (Nat × Jvm.ClassFile.Instr × List Nat × List Int) := [(0, .iload_n 1, [], []),
  (1, .ifCond .lt 9, [6], []),
  (4, .iload_n 1, [], []),
  (5, .aload_n 2, [], []),
  (6, .arraylength, [], []),
  (7, .if_icmp .lt 5, [8], []),
  (10, .iconst 0, [], []),
  (11, .ireturn, [4], []),
  (12, .aload_n 2, [], []),
  (13, .iload_n 1, [], []),
  (14, .iaload, [], []),
  (15, .istore_n 3, [], []),
  (16, .iload_n 0, [], []),
  (17, .tableswitch 284 3 17 #[75, 95, 122, 284, 284, 284, 284, 284, 149, 172, 177, 196, 215, 239, 262], [130, 14, 25, 42, 130, 130, 130, 130, 130, 55, 69, 72, 82, 92, 106, 118], []),
  (92, .iload_n 1, [], []),
  (93, .iconst 3, [], []),
  (94, .if_icmp .ge 10, [20], []),
  (97, .iload_n 3, [], []),
  (98, .invokestatic 26, [13, 32, 1, 4], [0, 0]),
  (101, .goto 10, [24], []),
  (104, .iload_n 3, [], []),
  (105, .iconst 0, [], []),
  (106, .bipush 40, [], []),
  (108, .invokestatic 30, [14, 200, 3, 4], [0, 0]),
  (111, .ireturn, [4], []),
  (112, .iload_n 3, [], []),
  (113, .invokestatic 26, [13, 32, 1, 4], [0, 0]),
  (116, .ifCond .eq 21, [40], []),
  (119, .iload_n 1, [], []),
  (120, .iconst 3, [], []),
  (121, .if_icmp .lt 12, [38], []),
  (124, .iload_n 3, [], []),
  (125, .aload_n 2, [], []),
  (126, .iload_n 1, [], []),
  (127, .iconst 3, [], []),
  (128, .isub, [], []),
  (129, .iaload, [], []),
  (130, .if_icmp .lt 7, [40], []),
  (133, .iconst 1, [], []),
  (134, .goto 4, [41], []),
  (137, .iconst 0, [], []),
  (138, .ireturn, [4], []),
  (139, .iload_n 1, [], []),
  (140, .iconst 3, [], []),
  (141, .if_icmp .ge 14, [50], []),
  (144, .iload_n 3, [], []),
  (145, .bipush (-9), [], []),
  (147, .bipush 9, [], []),
  (149, .invokestatic 30, [14, 200, 3, 4], [0, 0]),
  (152, .goto 13, [54], []),
  (155, .iload_n 3, [], []),
  (156, .sipush (-999), [], []),
  (159, .sipush 999, [], []),
  (162, .invokestatic 30, [14, 200, 3, 4], [0, 0]),
  (165, .ireturn, [4], []),
  (166, .iload_n 1, [], []),
  (167, .ifCond .ne 13, [62], []),
  (170, .iload_n 3, [], []),
  (171, .iconst 1, [], []),
  (172, .bipush 9, [], []),
  (174, .invokestatic 30, [14, 200, 3, 4], [0, 0]),
  (177, .goto 11, [68], []),
  (180, .iload_n 3, [], []),
  (181, .iconst 0, [], []),
  (182, .aload_n 2, [], []),
  (183, .iconst 0, [], []),
  (184, .iaload, [], []),
  (185, .invokestatic 30, [14, 200, 3, 4], [0, 0]),
  (188, .ireturn, [4], []),
  (189, .iload_n 3, [], []),
  (190, .invokestatic 26, [13, 32, 1, 4], [0, 0]),
  (193, .ireturn, [4], []),
  (194, .iload_n 1, [], []),
  (195, .ifCond .ne 10, [77], []),
  (198, .iload_n 3, [], []),
  (199, .invokestatic 34, [15, 203, 1, 4], [0, 0]),
  (202, .goto 10, [81], []),
  (205, .iload_n 3, [], []),
  (206, .iconst 1, [], []),
  (207, .bipush 16, [], []),
  (209, .invokestatic 30, [14, 200, 3, 4], [0, 0]),
  (212, .ireturn, [4], []),
  (213, .iload_n 1, [], []),
  (214, .ifCond .ne 10, [87], []),
  (217, .iload_n 3, [], []),
  (218, .invokestatic 34, [15, 203, 1, 4], [0, 0]),
  (221, .goto 10, [91], []),
  (224, .iload_n 3, [], []),
  (225, .iconst 0, [], []),
  (226, .bipush 15, [], []),
  (228, .invokestatic 30, [14, 200, 3, 4], [0, 0]),
  (231, .ireturn, [4], []),
  (232, .iload_n 3, [], []),
  (233, .invokestatic 34, [15, 203, 1, 4], [0, 0]),
  (236, .ifCond .eq 18, [104], []),
  (239, .iload_n 1, [], []),
  (240, .ifCond .eq 10, [102], []),
  (243, .iload_n 3, [], []),
  (244, .aload_n 2, [], []),
  (245, .iconst 0, [], []),
  (246, .iaload, [], []),
  (247, .if_icmp .eq 7, [104], []),
  (250, .iconst 1, [], []),
  (251, .goto 4, [105], []),
  (254, .iconst 0, [], []),
  (255, .ireturn, [4], []),
  (256, .iload_n 1, [], []),
  (257, .ifCond .ne 14, [113], []),
  (260, .iload_n 3, [], []),
  (261, .bipush (-99), [], []),
  (263, .bipush 99, [], []),
  (265, .invokestatic 30, [14, 200, 3, 4], [0, 0]),
  (268, .goto 10, [117], []),
  (271, .iload_n 3, [], []),
  (272, .iconst 1, [], []),
  (273, .bipush 9, [], []),
  (275, .invokestatic 30, [14, 200, 3, 4], [0, 0]),
  (278, .ireturn, [4], []),
  (279, .iload_n 1, [], []),
  (280, .ifCond .ne 13, [125], []),
  (283, .iload_n 3, [], []),
  (284, .iconst 0, [], []),
  (285, .bipush 99, [], []),
  (287, .invokestatic 30, [14, 200, 3, 4], [0, 0]),
  (290, .goto 10, [129], []),
  (293, .iload_n 3, [], []),
  (294, .iconst 1, [], []),
  (295, .bipush 9, [], []),
  (297, .invokestatic 30, [14, 200, 3, 4], [0, 0]),
  (300, .ireturn, [4], []),
  (301, .iconst 0, [], []),
  (302, .ireturn, [4], [])]
set_option maxRecDepth 100000 in
noncomputable def zc_X2_isSpot : List (Nat × Jvm.ClassFile.Instr × List Nat × List Int) := [(0, .iload_n 0, [], []),
  (1, .bipush (-40), [], []),
  (3, .bipush 55, [], []),
  (5, .invokestatic 30, [14, 200, 3, 4], [0, 0]),
  (8, .ireturn, [4], [])]
set_option maxRecDepth 100000 in
noncomputable def zc_X2_mayHaveMinus : List (Nat × Jvm.ClassFile.Instr × List Nat × List Int) := [(0, .iload_n 0, [], []),
  (1, .tableswitch 94 3 16 #[71, 82, 82, 94, 94, 94, 94, 94, 94, 82, 94, 94, 94, 84], [17, 2, 9, 9, 17, 17, 17, 17, 17, 17, 9, 17, 17, 17, 11], []),
  (72, .iload_n 1, [], []),
  (73, .iconst 3, [], []),
  (74, .if_icmp .ge 7, [7], []),
  (77, .iconst 1, [], []),
  (78, .goto 4, [8], []),
  (81, .iconst 0, [], []),
  (82, .ireturn, [4], []),
  (83, .iconst 1, [], []),
  (84, .ireturn, [4], []),
  (85, .iload_n 1, [], []),
  (86, .ifCond .ne 7, [15], []),
  (89, .iconst 1, [], []),
  (90, .goto 4, [16], []),
  (93, .iconst 0, [], []),
  (94, .ireturn, [4], []),
  (95, .iconst 0, [], []),
  (96, .ireturn, [4], [])]
set_option maxRecDepth 100000 in
noncomputable def zc_X2_wordOf : List (Nat × Jvm.ClassFile.Instr × List Nat × List Int) := [(0, .iload_n 0, [], []),
  (1, .tableswitch 114 3 17 #[75, 78, 81, 114, 114, 84, 87, 90, 93, 96, 99, 102, 105, 108, 111], [28, 2, 4, 6, 28, 28, 8, 10, 12, 14, 16, 18, 20, 22, 24, 26], []),
  (76, .ldc 37, [733, 1], [(-11)]),
  (78, .areturn, [], [40, 0]),
  (79, .ldc 39, [734, 1], [(-13)]),
  (81, .areturn, [], [40, 0]),
  (82, .ldc 41, [735, 1], [(-17)]),
  (84, .areturn, [], [40, 0]),
  (85, .ldc 43, [736, 1], [(-23)]),
  (87, .areturn, [], [40, 0]),
  (88, .ldc 45, [737, 1], [(-14)]),
  (90, .areturn, [], [40, 0]),
  (91, .ldc 47, [738, 1], [(-15)]),
  (93, .areturn, [], [40, 0]),
  (94, .ldc 49, [739, 1], [(-12)]),
  (96, .areturn, [], [40, 0]),
  (97, .ldc 51, [740, 1], [(-21)]),
  (99, .areturn, [], [40, 0]),
  (100, .ldc 53, [741, 1], [(-19)]),
  (102, .areturn, [], [40, 0]),
  (103, .ldc 55, [742, 1], [(-18)]),
  (105, .areturn, [], [40, 0]),
  (106, .ldc 57, [743, 1], [(-22)]),
  (108, .areturn, [], [40, 0]),
  (109, .ldc 59, [744, 1], [(-16)]),
  (111, .areturn, [], [40, 0]),
  (112, .ldc 61, [745, 1], [(-20)]),
  (114, .areturn, [], [40, 0]),
  (115, .ldc 63, [746, 1], [(-10)]),
  (117, .areturn, [], [40, 0])]
set_option maxRecDepth 100000 in
noncomputable def zc_X3_init : List (Nat × Jvm.ClassFile.Instr × List Nat × List Int) := [(0, .aload_n 0, [], []),
  (1, .invokespecial 3, [9999], []),
  (4, .aload_n 0, [], []),
  (5, .bipush 24, [], []),
  (7, .anewarray 9, [160, 31], []),
  (10, .putfield 11, [10, 4, 3], [31, 24, 0]),
  (13, .aload_n 0, [], []),
  (14, .bipush 24, [], []),
  (16, .newarray .int, [20], []),
  (18, .putfield 17, [11, 4, 3], [20, 24, 1]),
  (21, .aload_n 0, [], []),
  (22, .new 9, [160, 6, 1], []),
  (25, .dup, [], []),
  (26, .invokespecial 21, [16, 48, 1, 0], [0, 0, 6]),
  (29, .putfield 22, [12, 4, 3], [6, 1, 2]),
  (32, .aload_n 0, [], []),
  (33, .new 26, [162, 5, 2], []),
  (36, .dup, [], []),
  (37, .invokespecial 28, [17, 41, 1, 0], [0, 0, 5]),
  (40, .putfield 29, [13, 4, 3], [5, 2, 3]),
  (43, .aload_n 0, [], []),
  (44, .new 33, [189, 9, 3], []),
  (47, .dup, [], []),
  (48, .invokespecial 35, [18, 92, 1, 0], [0, 0, 9]),
  (51, .putfield 36, [14, 4, 3], [9, 3, 4]),
  (54, .iconst 0, [], []),
  (55, .istore_n 1, [], []),
  (56, .iload_n 1, [], []),
  (57, .aload_n 0, [], []),
  (58, .getfield 11, [10, 4, 3], [31, 24, 0]),
  (61, .arraylength, [], []),
  (62, .if_icmp .ge 22, [41], []),
  (65, .aload_n 0, [], []),
  (66, .getfield 11, [10, 4, 3], [31, 24, 0]),
  (69, .iload_n 1, [], []),
  (70, .new 9, [160, 6, 1], []),
  (73, .dup, [], []),
  (74, .invokespecial 21, [16, 48, 1, 0], [0, 0, 6]),
  (77, .aastore, [], []),
  (78, .iinc 1 1, [], []),
  (81, .goto (-25), [27], []),
  (84, .return_, [], [])]
set_option maxRecDepth 100000 in
noncomputable def zc_X3_forgetFrom : List (Nat × Jvm.ClassFile.Instr × List Nat × List Int) := [(0, .iconst 0, [], []),
  (1, .iload_n 1, [], []),
  (2, .invokestatic 40, [19, 341, 2, 1], [0, 0]),
  (5, .istore_n 2, [], []),
  (6, .iload_n 2, [], []),
  (7, .aload_n 0, [], []),
  (8, .getfield 17, [11, 4, 3], [20, 24, 1]),
  (11, .arraylength, [], []),
  (12, .if_icmp .ge 16, [16], []),
  (15, .aload_n 0, [], []),
  (16, .getfield 17, [11, 4, 3], [20, 24, 1]),
  (19, .iload_n 2, [], []),
  (20, .iconst 0, [], []),
  (21, .iastore, [], []),
  (22, .iinc 2 1, [], []),
  (25, .goto (-19), [4], []),
  (28, .return_, [], [])]
set_option maxRecDepth 100000 in
noncomputable def zc_X3_placesOf : List (Nat × Jvm.ClassFile.Instr × List Nat × List Int) := [(0, .iload_n 2, [], []),
  (1, .ifCond .lt 12, [7], []),
  (4, .iload_n 2, [], []),
  (5, .aload_n 0, [], []),
  (6, .getfield 11, [10, 4, 3], [31, 24, 0]),
  (9, .arraylength, [], []),
  (10, .if_icmp .lt 8, [10], []),
  (13, .aload_n 0, [], []),
  (14, .getfield 22, [12, 4, 3], [6, 1, 2]),
  (17, .areturn, [], [6, 1]),
  (18, .aload_n 0, [], []),
  (19, .getfield 17, [11, 4, 3], [20, 24, 1]),
  (22, .iload_n 2, [], []),
  (23, .iaload, [], []),
  (24, .ifCond .ne 21, [26], []),
  (27, .aload_n 0, [], []),
  (28, .getfield 11, [10, 4, 3], [31, 24, 0]),
  (31, .iload_n 2, [], []),
  (32, .aaload, [], []),
  (33, .invokevirtual 46, [20, 52, 1, 0], [0, 0, 6]),
  (36, .aload_n 0, [], []),
  (37, .aload_n 1, [], []),
  (38, .iload_n 2, [], []),
  (39, .iconst 0, [], []),
  (40, .bipush 16, [], []),
  (42, .invokevirtual 49, [21, 39, 5, 0], [0, 0, 4]),
  (45, .aload_n 0, [], []),
  (46, .getfield 11, [10, 4, 3], [31, 24, 0]),
  (49, .iload_n 2, [], []),
  (50, .aaload, [], []),
  (51, .areturn, [], [6, 1])]
set_option maxRecDepth 100000 in
noncomputable def zc_X3_lookedAt : List (Nat × Jvm.ClassFile.Instr × List Nat × List Int) := [(0, .aload_n 0, [], []),
  (1, .aload_n 1, [], []),
  (2, .iload_n 2, [], []),
  (3, .invokevirtual 53, [22, 37, 3, 3], [6, 1, 4]),
  (6, .pop, [], []),
  (7, .iload_n 2, [], []),
  (8, .ifCond .lt 21, [17], []),
  (11, .iload_n 2, [], []),
  (12, .aload_n 0, [], []),
  (13, .getfield 17, [11, 4, 3], [20, 24, 1]),
  (16, .arraylength, [], []),
  (17, .if_icmp .ge 12, [17], []),
  (20, .aload_n 0, [], []),
  (21, .getfield 17, [11, 4, 3], [20, 24, 1]),
  (24, .iload_n 2, [], []),
  (25, .iaload, [], []),
  (26, .goto 4, [18], []),
  (29, .iconst 0, [], []),
  (30, .ireturn, [1], [])]
set_option maxRecDepth 100000 in
noncomputable def zc_X3_look : List (Nat × Jvm.ClassFile.Instr × List Nat × List Int) := [(0, .iload_n 2, [], []),
  (1, .ifCond .lt 18, [10], []),
  (4, .iload_n 2, [], []),
  (5, .aload_n 0, [], []),
  (6, .getfield 17, [11, 4, 3], [20, 24, 1]),
  (9, .arraylength, [], []),
  (10, .if_icmp .ge 9, [10], []),
  (13, .iload 4, [], []),
  (15, .iconst 1, [], []),
  (16, .if_icmp .ge 4, [11], []),
  (19, .return_, [], []),
  (20, .aload_n 0, [], []),
  (21, .getfield 17, [11, 4, 3], [20, 24, 1]),
  (24, .iload_n 2, [], []),
  (25, .dup2, [], []),
  (26, .iaload, [], []),
  (27, .iconst 1, [], []),
  (28, .iadd, [], []),
  (29, .iastore, [], []),
  (30, .iload_n 3, [], []),
  (31, .iconst 0, [], []),
  (32, .invokestatic 57, [23, 209, 2, 1], [0, 0]),
  (35, .istore 5, [], []),
  (37, .iload_n 3, [], []),
  (38, .iconst 1, [], []),
  (39, .invokestatic 57, [23, 209, 2, 1], [0, 0]),
  (42, .istore 6, [], []),
  (44, .iload_n 3, [], []),
  (45, .iconst 2, [], []),
  (46, .invokestatic 57, [23, 209, 2, 1], [0, 0]),
  (49, .istore 7, [], []),
  (51, .iload 4, [], []),
  (53, .iconst 1, [], []),
  (54, .if_icmp .ne 35, [51], []),
  (57, .aload_n 0, [], []),
  (58, .getfield 29, [13, 4, 3], [5, 2, 3]),
  (61, .aload_n 1, [], []),
  (62, .iload_n 2, [], []),
  (63, .iload 5, [], []),
  (65, .iload 6, [], []),
  (67, .iload 7, [], []),
  (69, .invokevirtual 60, [24, 42, 6, 3], [2, 2, 5]),
  (72, .invokevirtual 64, [25, 13, 1, 4], [0, 0, 2]),
  (75, .ifCond .ne 13, [50], []),
  (78, .aload_n 0, [], []),
  (79, .getfield 11, [10, 4, 3], [31, 24, 0]),
  (82, .iload_n 2, [], []),
  (83, .aaload, [], []),
  (84, .iload_n 3, [], []),
  (85, .invokevirtual 70, [26, 50, 2, 0], [0, 0, 6]),
  (88, .return_, [], []),
  (89, .aload_n 0, [], []),
  (90, .getfield 36, [14, 4, 3], [9, 3, 4]),
  (93, .iload 5, [], []),
  (95, .iload 6, [], []),
  (97, .iload 7, [], []),
  (99, .invokevirtual 74, [27, 93, 4, 0], [0, 0, 9]),
  (102, .aload_n 0, [], []),
  (103, .getfield 36, [14, 4, 3], [9, 3, 4]),
  (106, .iload 5, [], []),
  (108, .iload 4, [], []),
  (110, .iadd, [], []),
  (111, .iconst 1, [], []),
  (112, .isub, [], []),
  (113, .iload 6, [], []),
  (115, .iload 4, [], []),
  (117, .iadd, [], []),
  (118, .iconst 1, [], []),
  (119, .isub, [], []),
  (120, .iload 7, [], []),
  (122, .iload 4, [], []),
  (124, .iadd, [], []),
  (125, .iconst 1, [], []),
  (126, .isub, [], []),
  (127, .invokevirtual 78, [28, 94, 4, 0], [0, 0, 9]),
  (130, .aload_n 0, [], []),
  (131, .getfield 36, [14, 4, 3], [9, 3, 4]),
  (134, .aload_n 1, [], []),
  (135, .iload_n 2, [], []),
  (136, .invokevirtual 81, [29, 97, 3, 0], [0, 0, 9]),
  (139, .aload_n 0, [], []),
  (140, .getfield 36, [14, 4, 3], [9, 3, 4]),
  (143, .invokevirtual 85, [30, 96, 1, 3], [2, 2, 9]),
  (146, .invokevirtual 64, [25, 13, 1, 4], [0, 0, 2]),
  (149, .ifCond .ne 23, [95], []),
  (152, .aload_n 0, [], []),
  (153, .getfield 11, [10, 4, 3], [31, 24, 0]),
  (156, .iload_n 2, [], []),
  (157, .aaload, [], []),
  (158, .iload 5, [], []),
  (160, .iload 6, [], []),
  (162, .iload 7, [], []),
  (164, .iload 4, [], []),
  (166, .invokevirtual 89, [31, 51, 5, 0], [0, 0, 6]),
  (169, .goto 27, [108], []),
  (172, .aload_n 0, [], []),
  (173, .getfield 36, [14, 4, 3], [9, 3, 4]),
  (176, .invokevirtual 93, [32, 95, 1, 3], [2, 2, 9]),
  (179, .invokevirtual 64, [25, 13, 1, 4], [0, 0, 2]),
  (182, .ifCond .ne 14, [108], []),
  (185, .aload_n 0, [], []),
  (186, .aload_n 1, [], []),
  (187, .iload_n 2, [], []),
  (188, .iload_n 3, [], []),
  (189, .iload 4, [], []),
  (191, .iconst 2, [], []),
  (192, .idiv, [], []),
  (193, .invokevirtual 96, [33, 40, 5, 0], [0, 0, 4]),
  (196, .return_, [], [])]
set_option maxRecDepth 100000 in
noncomputable def zc_X3_lookAtEighths : List (Nat × Jvm.ClassFile.Instr × List Nat × List Int) := [(0, .iconst 0, [], []),
  (1, .istore 5, [], []),
  (3, .iload 5, [], []),
  (5, .bipush 8, [], []),
  (7, .if_icmp .ge 45, [32], []),
  (10, .aload_n 0, [], []),
  (11, .aload_n 1, [], []),
  (12, .iload_n 2, [], []),
  (13, .iload_n 3, [], []),
  (14, .iload 5, [], []),
  (16, .iconst 4, [], []),
  (17, .idiv, [], []),
  (18, .iload 4, [], []),
  (20, .imul, [], []),
  (21, .iload 5, [], []),
  (23, .iconst 2, [], []),
  (24, .idiv, [], []),
  (25, .iconst 2, [], []),
  (26, .irem, [], []),
  (27, .iload 4, [], []),
  (29, .imul, [], []),
  (30, .iload 5, [], []),
  (32, .iconst 2, [], []),
  (33, .irem, [], []),
  (34, .iload 4, [], []),
  (36, .imul, [], []),
  (37, .invokestatic 99, [34, 208, 3, 1], [0, 0]),
  (40, .iadd, [], []),
  (41, .iload 4, [], []),
  (43, .invokevirtual 49, [21, 39, 5, 0], [0, 0, 4]),
  (46, .iinc 5 1, [], []),
  (49, .goto (-46), [2], []),
  (52, .return_, [], [])]
set_option maxRecDepth 100000 in
noncomputable def zc_X4_init : List (Nat × Jvm.ClassFile.Instr × List Nat × List Int) := [(0, .aload_n 0, [], []),
  (1, .invokespecial 3, [9999], []),
  (4, .aload_n 0, [], []),
  (5, .bipush 24, [], []),
  (7, .newarray .int, [20], []),
  (9, .putfield 9, [15, 5, 3], [20, 24, 0]),
  (12, .aload_n 0, [], []),
  (13, .bipush 8, [], []),
  (15, .anewarray 15, [168, 30], []),
  (18, .putfield 17, [16, 5, 3], [30, 8, 1]),
  (21, .iconst 0, [], []),
  (22, .istore_n 1, [], []),
  (23, .iload_n 1, [], []),
  (24, .aload_n 0, [], []),
  (25, .getfield 17, [16, 5, 3], [30, 8, 1]),
  (28, .arraylength, [], []),
  (29, .if_icmp .ge 22, [26], []),
  (32, .aload_n 0, [], []),
  (33, .getfield 17, [16, 5, 3], [30, 8, 1]),
  (36, .iload_n 1, [], []),
  (37, .new 15, [168, 2, 2], []),
  (40, .dup, [], []),
  (41, .invokespecial 21, [35, 10, 1, 0], [0, 0, 2]),
  (44, .aastore, [], []),
  (45, .iinc 1 1, [], []),
  (48, .goto (-25), [12], []),
  (51, .return_, [], [])]
set_option maxRecDepth 100000 in
noncomputable def zc_X4_worthAt : List (Nat × Jvm.ClassFile.Instr × List Nat × List Int) := [(0, .aload_n 0, [], []),
  (1, .getfield 9, [15, 5, 3], [20, 24, 0]),
  (4, .iconst 0, [], []),
  (5, .iload_n 3, [], []),
  (6, .iastore, [], []),
  (7, .aload_n 0, [], []),
  (8, .getfield 9, [15, 5, 3], [20, 24, 0]),
  (11, .iconst 1, [], []),
  (12, .iload 4, [], []),
  (14, .iastore, [], []),
  (15, .aload_n 0, [], []),
  (16, .getfield 9, [15, 5, 3], [20, 24, 0]),
  (19, .iconst 2, [], []),
  (20, .iload 5, [], []),
  (22, .iastore, [], []),
  (23, .aload_n 0, [], []),
  (24, .aload_n 1, [], []),
  (25, .iload_n 2, [], []),
  (26, .iconst 0, [], []),
  (27, .iconst 0, [], []),
  (28, .invokevirtual 22, [36, 43, 5, 0], [0, 0, 5]),
  (31, .aload_n 0, [], []),
  (32, .getfield 17, [16, 5, 3], [30, 8, 1]),
  (35, .iconst 0, [], []),
  (36, .aaload, [], []),
  (37, .areturn, [], [2, 2])]
set_option maxRecDepth 100000 in
noncomputable def zc_X4_find : List (Nat × Jvm.ClassFile.Instr × List Nat × List Int) := [(0, .iload_n 3, [], []),
  (1, .ifCond .lt 16, [8], []),
  (4, .iload_n 3, [], []),
  (5, .iload 4, [], []),
  (7, .if_icmp .gt 10, [8], []),
  (10, .iload 4, [], []),
  (12, .bipush 7, [], []),
  (14, .if_icmp .lt 4, [9], []),
  (17, .return_, [], []),
  (18, .aload_n 1, [], []),
  (19, .iload_n 2, [], []),
  (20, .invokevirtual 26, [37, 112, 2, 1], [0, 0, 10]),
  (23, .istore 5, [], []),
  (25, .iload 5, [], []),
  (27, .invokestatic 32, [38, 27, 1, 4], [0, 0]),
  (30, .ifCond .eq 28, [31], []),
  (33, .aload_n 0, [], []),
  (34, .getfield 17, [16, 5, 3], [30, 8, 1]),
  (37, .iload 4, [], []),
  (39, .aaload, [], []),
  (40, .aload_n 0, [], []),
  (41, .aload_n 1, [], []),
  (42, .iload_n 2, [], []),
  (43, .iload 5, [], []),
  (45, .iload_n 3, [], []),
  (46, .iconst 3, [], []),
  (47, .imul, [], []),
  (48, .invokevirtual 38, [39, 44, 5, 1], [0, 0, 5]),
  (51, .i2l, [], []),
  (52, .invokevirtual 42, [40, 16, 2, 0], [0, 0, 2]),
  (55, .goto 32, [47], []),
  (58, .iload 5, [], []),
  (60, .invokestatic 46, [41, 28, 1, 4], [0, 0]),
  (63, .ifCond .eq 15, [41], []),
  (66, .aload_n 0, [], []),
  (67, .aload_n 1, [], []),
  (68, .iload_n 2, [], []),
  (69, .iload_n 3, [], []),
  (70, .iload 4, [], []),
  (72, .invokevirtual 49, [42, 45, 5, 0], [0, 0, 5]),
  (75, .goto 12, [47], []),
  (78, .aload_n 0, [], []),
  (79, .aload_n 1, [], []),
  (80, .iload_n 2, [], []),
  (81, .iload_n 3, [], []),
  (82, .iload 4, [], []),
  (84, .invokevirtual 52, [43, 46, 5, 0], [0, 0, 5]),
  (87, .return_, [], [])]
set_option maxRecDepth 100000 in
noncomputable def zc_X4_ofSolid : List (Nat × Jvm.ClassFile.Instr × List Nat × List Int) := [(0, .iconst 0, [], []),
  (1, .istore 5, [], []),
  (3, .ldc 55, [467, 0], [(-1000000000)]),
  (5, .istore 6, [], []),
  (7, .iconst 0, [], []),
  (8, .istore 7, [], []),
  (10, .iload 7, [], []),
  (12, .iconst 3, [], []),
  (13, .if_icmp .ge 94, [59], []),
  (16, .aload_n 0, [], []),
  (17, .getfield 9, [15, 5, 3], [20, 24, 0]),
  (20, .iload 4, [], []),
  (22, .iload 7, [], []),
  (24, .iadd, [], []),
  (25, .iaload, [], []),
  (26, .istore 8, [], []),
  (28, .aload_n 1, [], []),
  (29, .iload_n 2, [], []),
  (30, .iload 7, [], []),
  (32, .invokevirtual 56, [44, 118, 3, 1], [0, 0, 10]),
  (35, .istore 9, [], []),
  (37, .iload_n 3, [], []),
  (38, .iconst 4, [], []),
  (39, .if_icmp .ne 33, [40], []),
  (42, .iload 6, [], []),
  (44, .iload 9, [], []),
  (46, .iload 8, [], []),
  (48, .isub, [], []),
  (49, .iload 8, [], []),
  (51, .aload_n 1, [], []),
  (52, .iload_n 2, [], []),
  (53, .iload 7, [], []),
  (55, .iconst 3, [], []),
  (56, .iadd, [], []),
  (57, .invokevirtual 56, [44, 118, 3, 1], [0, 0, 10]),
  (60, .isub, [], []),
  (61, .invokestatic 60, [45, 341, 2, 1], [0, 0]),
  (64, .invokestatic 60, [45, 341, 2, 1], [0, 0]),
  (67, .istore 6, [], []),
  (69, .goto 32, [57], []),
  (72, .iload 5, [], []),
  (74, .iload_n 3, [], []),
  (75, .iconst 3, [], []),
  (76, .if_icmp .ne 17, [52], []),
  (79, .iload 8, [], []),
  (81, .iload 9, [], []),
  (83, .isub, [], []),
  (84, .iload 8, [], []),
  (86, .iload 9, [], []),
  (88, .isub, [], []),
  (89, .imul, [], []),
  (90, .goto 8, [55], []),
  (93, .iload 9, [], []),
  (95, .iload 8, [], []),
  (97, .imul, [], []),
  (98, .iadd, [], []),
  (99, .istore 5, [], []),
  (101, .iinc 7 1, [], []),
  (104, .goto (-94), [6], []),
  (107, .aload_n 1, [], []),
  (108, .iload_n 2, [], []),
  (109, .iconst 3, [], []),
  (110, .invokevirtual 56, [44, 118, 3, 1], [0, 0, 10]),
  (113, .istore 7, [], []),
  (115, .iload_n 3, [], []),
  (116, .iconst 4, [], []),
  (117, .if_icmp .ne 8, [69], []),
  (120, .iload 6, [], []),
  (122, .goto 21, [79], []),
  (125, .iload 5, [], []),
  (127, .iload_n 3, [], []),
  (128, .iconst 3, [], []),
  (129, .if_icmp .ne 11, [77], []),
  (132, .iload 7, [], []),
  (134, .iload 7, [], []),
  (136, .imul, [], []),
  (137, .goto 5, [78], []),
  (140, .iload 7, [], []),
  (142, .isub, [], []),
  (143, .ireturn, [1], [])]
set_option maxRecDepth 100000 in
noncomputable def zc_X4_ofPair : List (Nat × Jvm.ClassFile.Instr × List Nat × List Int) := [(0, .aload_n 1, [], []),
  (1, .iload_n 2, [], []),
  (2, .invokevirtual 65, [46, 113, 2, 1], [0, 0, 10]),
  (5, .istore 5, [], []),
  (7, .aload_n 1, [], []),
  (8, .iload_n 2, [], []),
  (9, .invokevirtual 68, [47, 114, 2, 1], [0, 0, 10]),
  (12, .istore 6, [], []),
  (14, .aload_n 0, [], []),
  (15, .aload_n 1, [], []),
  (16, .iload 5, [], []),
  (18, .iload_n 3, [], []),
  (19, .iload 4, [], []),
  (21, .iconst 1, [], []),
  (22, .iadd, [], []),
  (23, .invokevirtual 22, [36, 43, 5, 0], [0, 0, 5]),
  (26, .aload_n 0, [], []),
  (27, .getfield 17, [16, 5, 3], [30, 8, 1]),
  (30, .iload 4, [], []),
  (32, .aaload, [], []),
  (33, .astore 7, [], []),
  (35, .aload_n 0, [], []),
  (36, .getfield 17, [16, 5, 3], [30, 8, 1]),
  (39, .iload 4, [], []),
  (41, .iconst 1, [], []),
  (42, .iadd, [], []),
  (43, .aaload, [], []),
  (44, .astore 8, [], []),
  (46, .aload 7, [], []),
  (48, .aload 8, [], []),
  (50, .invokevirtual 71, [48, 18, 2, 0], [0, 0, 2]),
  (53, .iload 6, [], []),
  (55, .iload 5, [], []),
  (57, .if_icmp .eq 15, [42], []),
  (60, .aload_n 0, [], []),
  (61, .aload_n 1, [], []),
  (62, .iload 6, [], []),
  (64, .iload_n 3, [], []),
  (65, .iload 4, [], []),
  (67, .iconst 1, [], []),
  (68, .iadd, [], []),
  (69, .invokevirtual 22, [36, 43, 5, 0], [0, 0, 5]),
  (72, .aload_n 1, [], []),
  (73, .iload_n 2, [], []),
  (74, .invokevirtual 26, [37, 112, 2, 1], [0, 0, 10]),
  (77, .tableswitch 62 8 10 #[27, 37, 47], [60, 46, 50, 54], []),
  (104, .aload 7, [], []),
  (106, .aload 8, [], []),
  (108, .invokevirtual 75, [49, 19, 2, 0], [0, 0, 2]),
  (111, .goto 47, [71], []),
  (114, .aload 7, [], []),
  (116, .aload 8, [], []),
  (118, .invokevirtual 78, [50, 20, 2, 0], [0, 0, 2]),
  (121, .goto 37, [71], []),
  (124, .aload 8, [], []),
  (126, .invokevirtual 81, [51, 22, 1, 0], [0, 0, 2]),
  (129, .aload 7, [], []),
  (131, .aload 8, [], []),
  (133, .invokevirtual 78, [50, 20, 2, 0], [0, 0, 2]),
  (136, .goto 22, [71], []),
  (139, .aload 7, [], []),
  (141, .aload 8, [], []),
  (143, .aload_n 1, [], []),
  (144, .iload_n 2, [], []),
  (145, .iconst 0, [], []),
  (146, .invokevirtual 56, [44, 118, 3, 1], [0, 0, 10]),
  (149, .aload_n 1, [], []),
  (150, .iload_n 2, [], []),
  (151, .iconst 1, [], []),
  (152, .invokevirtual 56, [44, 118, 3, 1], [0, 0, 10]),
  (155, .invokevirtual 84, [52, 25, 4, 0], [0, 0, 2]),
  (158, .return_, [], [])]
set_option maxRecDepth 100000 in
noncomputable def zc_X4_ofChange : List (Nat × Jvm.ClassFile.Instr × List Nat × List Int) := [(0, .aload_n 1, [], []),
  (1, .iload_n 2, [], []),
  (2, .invokevirtual 26, [37, 112, 2, 1], [0, 0, 10]),
  (5, .istore 5, [], []),
  (7, .iload 5, [], []),
  (9, .bipush 16, [], []),
  (11, .if_icmp .eq 56, [41], []),
  (14, .iload 5, [], []),
  (16, .bipush 17, [], []),
  (18, .if_icmp .eq 49, [41], []),
  (21, .aload_n 0, [], []),
  (22, .aload_n 1, [], []),
  (23, .iload_n 2, [], []),
  (24, .iload_n 3, [], []),
  (25, .iconst 3, [], []),
  (26, .imul, [], []),
  (27, .invokevirtual 88, [53, 47, 4, 0], [0, 0, 5]),
  (30, .aload_n 0, [], []),
  (31, .aload_n 1, [], []),
  (32, .aload_n 1, [], []),
  (33, .iload_n 2, [], []),
  (34, .invokevirtual 65, [46, 113, 2, 1], [0, 0, 10]),
  (37, .iload_n 3, [], []),
  (38, .iconst 1, [], []),
  (39, .iadd, [], []),
  (40, .iload 4, [], []),
  (42, .iconst 1, [], []),
  (43, .iadd, [], []),
  (44, .invokevirtual 22, [36, 43, 5, 0], [0, 0, 5]),
  (47, .aload_n 0, [], []),
  (48, .getfield 17, [16, 5, 3], [30, 8, 1]),
  (51, .iload 4, [], []),
  (53, .aaload, [], []),
  (54, .aload_n 0, [], []),
  (55, .getfield 17, [16, 5, 3], [30, 8, 1]),
  (58, .iload 4, [], []),
  (60, .iconst 1, [], []),
  (61, .iadd, [], []),
  (62, .aaload, [], []),
  (63, .invokevirtual 71, [48, 18, 2, 0], [0, 0, 2]),
  (66, .return_, [], []),
  (67, .aload_n 0, [], []),
  (68, .aload_n 1, [], []),
  (69, .aload_n 1, [], []),
  (70, .iload_n 2, [], []),
  (71, .invokevirtual 65, [46, 113, 2, 1], [0, 0, 10]),
  (74, .iload_n 3, [], []),
  (75, .iload 4, [], []),
  (77, .iconst 1, [], []),
  (78, .iadd, [], []),
  (79, .invokevirtual 22, [36, 43, 5, 0], [0, 0, 5]),
  (82, .aload_n 0, [], []),
  (83, .getfield 17, [16, 5, 3], [30, 8, 1]),
  (86, .iload 4, [], []),
  (88, .aaload, [], []),
  (89, .aload_n 0, [], []),
  (90, .getfield 17, [16, 5, 3], [30, 8, 1]),
  (93, .iload 4, [], []),
  (95, .iconst 1, [], []),
  (96, .iadd, [], []),
  (97, .aaload, [], []),
  (98, .invokevirtual 71, [48, 18, 2, 0], [0, 0, 2]),
  (101, .iload 5, [], []),
  (103, .bipush 17, [], []),
  (105, .if_icmp .ne 13, [70], []),
  (108, .aload_n 0, [], []),
  (109, .getfield 17, [16, 5, 3], [30, 8, 1]),
  (112, .iload 4, [], []),
  (114, .aaload, [], []),
  (115, .invokevirtual 92, [54, 23, 1, 0], [0, 0, 2]),
  (118, .aload_n 0, [], []),
  (119, .getfield 17, [16, 5, 3], [30, 8, 1]),
  (122, .iload 4, [], []),
  (124, .aaload, [], []),
  (125, .aload_n 1, [], []),
  (126, .iload_n 2, [], []),
  (127, .iconst 0, [], []),
  (128, .invokevirtual 56, [44, 118, 3, 1], [0, 0, 10]),
  (131, .aload_n 1, [], []),
  (132, .iload_n 2, [], []),
  (133, .iconst 1, [], []),
  (134, .invokevirtual 56, [44, 118, 3, 1], [0, 0, 10]),
  (137, .invokevirtual 95, [55, 24, 3, 0], [0, 0, 2]),
  (140, .return_, [], [])]
set_option maxRecDepth 100000 in
noncomputable def zc_X4_move : List (Nat × Jvm.ClassFile.Instr × List Nat × List Int) := [(0, .iload_n 3, [], []),
  (1, .iconst 3, [], []),
  (2, .iadd, [], []),
  (3, .istore 4, [], []),
  (5, .aload_n 1, [], []),
  (6, .iload_n 2, [], []),
  (7, .invokevirtual 26, [37, 112, 2, 1], [0, 0, 10]),
  (10, .istore 5, [], []),
  (12, .aload_n 1, [], []),
  (13, .iload_n 2, [], []),
  (14, .iconst 0, [], []),
  (15, .invokevirtual 56, [44, 118, 3, 1], [0, 0, 10]),
  (18, .istore 6, [], []),
  (20, .aload_n 1, [], []),
  (21, .iload_n 2, [], []),
  (22, .iconst 1, [], []),
  (23, .invokevirtual 56, [44, 118, 3, 1], [0, 0, 10]),
  (26, .istore 7, [], []),
  (28, .iconst 0, [], []),
  (29, .istore 8, [], []),
  (31, .iload 8, [], []),
  (33, .iconst 3, [], []),
  (34, .if_icmp .ge 176, [105], []),
  (37, .aload_n 0, [], []),
  (38, .getfield 9, [15, 5, 3], [20, 24, 0]),
  (41, .iload_n 3, [], []),
  (42, .iload 8, [], []),
  (44, .iadd, [], []),
  (45, .iaload, [], []),
  (46, .istore 9, [], []),
  (48, .iload 5, [], []),
  (50, .bipush 12, [], []),
  (52, .if_icmp .ne 18, [41], []),
  (55, .iload 9, [], []),
  (57, .aload_n 1, [], []),
  (58, .iload_n 2, [], []),
  (59, .iload 8, [], []),
  (61, .invokevirtual 56, [44, 118, 3, 1], [0, 0, 10]),
  (64, .isub, [], []),
  (65, .istore 9, [], []),
  (67, .goto 125, [96], []),
  (70, .iload 5, [], []),
  (72, .bipush 13, [], []),
  (74, .if_icmp .ne 27, [54], []),
  (77, .iload 8, [], []),
  (79, .iload 6, [], []),
  (81, .if_icmp .ne 20, [54], []),
  (84, .iload 7, [], []),
  (86, .ifCond .le 15, [54], []),
  (89, .iload 9, [], []),
  (91, .iload 7, [], []),
  (93, .invokestatic 99, [56, 339, 2, 1], [0, 0]),
  (96, .istore 9, [], []),
  (98, .goto 94, [96], []),
  (101, .iload 5, [], []),
  (103, .bipush 14, [], []),
  (105, .if_icmp .ne 29, [70], []),
  (108, .iload 8, [], []),
  (110, .iload 6, [], []),
  (112, .if_icmp .ne 22, [70], []),
  (115, .iload 9, [], []),
  (117, .iload 7, [], []),
  (119, .if_icmp .le 15, [70], []),
  (122, .iconst 2, [], []),
  (123, .iload 7, [], []),
  (125, .imul, [], []),
  (126, .iload 9, [], []),
  (128, .isub, [], []),
  (129, .istore 9, [], []),
  (131, .goto 61, [96], []),
  (134, .iload 5, [], []),
  (136, .bipush 15, [], []),
  (138, .if_icmp .ne 54, [96], []),
  (141, .iload 6, [], []),
  (143, .invokestatic 102, [57, 203, 1, 4], [0, 0]),
  (146, .ifCond .eq 46, [96], []),
  (149, .iload 7, [], []),
  (151, .invokestatic 102, [57, 203, 1, 4], [0, 0]),
  (154, .ifCond .eq 38, [96], []),
  (157, .aload_n 0, [], []),
  (158, .getfield 9, [15, 5, 3], [20, 24, 0]),
  (161, .iload_n 3, [], []),
  (162, .iload 8, [], []),
  (164, .iload 6, [], []),
  (166, .if_icmp .ne 8, [87], []),
  (169, .iload 7, [], []),
  (171, .goto 17, [93], []),
  (174, .iload 8, [], []),
  (176, .iload 7, [], []),
  (178, .if_icmp .ne 8, [92], []),
  (181, .iload 6, [], []),
  (183, .goto 5, [93], []),
  (186, .iload 8, [], []),
  (188, .iadd, [], []),
  (189, .iaload, [], []),
  (190, .istore 9, [], []),
  (192, .aload_n 0, [], []),
  (193, .getfield 9, [15, 5, 3], [20, 24, 0]),
  (196, .iload 4, [], []),
  (198, .iload 8, [], []),
  (200, .iadd, [], []),
  (201, .iload 9, [], []),
  (203, .iastore, [], []),
  (204, .iinc 8 1, [], []),
  (207, .goto (-176), [20], []),
  (210, .return_, [], [])]
set_option maxRecDepth 100000 in
noncomputable def zc_X5_init : List (Nat × Jvm.ClassFile.Instr × List Nat × List Int) := [(0, .aload_n 0, [], []),
  (1, .invokespecial 3, [9999], []),
  (4, .aload_n 0, [], []),
  (5, .bipush 64, [], []),
  (7, .newarray .long, [21], []),
  (9, .putfield 11, [17, 6, 3], [21, 64, 0]),
  (12, .return_, [], [])]
set_option maxRecDepth 100000 in
noncomputable def zc_X5_contains : List (Nat × Jvm.ClassFile.Instr × List Nat × List Int) := [(0, .iload_n 1, [], []),
  (1, .invokestatic 15, [58, 202, 1, 4], [0, 0]),
  (4, .ifCond .eq 28, [20], []),
  (7, .aload_n 0, [], []),
  (8, .getfield 11, [17, 6, 3], [21, 64, 0]),
  (11, .iload_n 1, [], []),
  (12, .bipush 64, [], []),
  (14, .idiv, [], []),
  (15, .laload, [], []),
  (16, .iload_n 1, [], []),
  (17, .bipush 64, [], []),
  (19, .irem, [], []),
  (20, .lushr, [], []),
  (21, .lconst 1, [], []),
  (22, .land, [], []),
  (23, .lconst 0, [], []),
  (24, .lcmp, [], []),
  (25, .ifCond .eq 7, [20], []),
  (28, .iconst 1, [], []),
  (29, .goto 4, [21], []),
  (32, .iconst 0, [], []),
  (33, .ireturn, [4], [])]
set_option maxRecDepth 100000 in
noncomputable def zc_X5_add : List (Nat × Jvm.ClassFile.Instr × List Nat × List Int) := [(0, .iload_n 1, [], []),
  (1, .invokestatic 15, [58, 202, 1, 4], [0, 0]),
  (4, .ifCond .eq 21, [17], []),
  (7, .aload_n 0, [], []),
  (8, .getfield 11, [17, 6, 3], [21, 64, 0]),
  (11, .iload_n 1, [], []),
  (12, .bipush 64, [], []),
  (14, .idiv, [], []),
  (15, .dup2, [], []),
  (16, .laload, [], []),
  (17, .lconst 1, [], []),
  (18, .iload_n 1, [], []),
  (19, .bipush 64, [], []),
  (21, .irem, [], []),
  (22, .lshl, [], []),
  (23, .lor, [], []),
  (24, .lastore, [], []),
  (25, .return_, [], [])]
set_option maxRecDepth 100000 in
noncomputable def zc_X5_addCube : List (Nat × Jvm.ClassFile.Instr × List Nat × List Int) := [(0, .iload_n 1, [], []),
  (1, .istore 5, [], []),
  (3, .iload 5, [], []),
  (5, .iload_n 1, [], []),
  (6, .iload 4, [], []),
  (8, .iadd, [], []),
  (9, .if_icmp .ge 58, [33], []),
  (12, .iload_n 2, [], []),
  (13, .istore 6, [], []),
  (15, .iload 6, [], []),
  (17, .iload_n 2, [], []),
  (18, .iload 4, [], []),
  (20, .iadd, [], []),
  (21, .if_icmp .ge 40, [31], []),
  (24, .iload_n 3, [], []),
  (25, .istore 7, [], []),
  (27, .iload 7, [], []),
  (29, .iload_n 3, [], []),
  (30, .iload 4, [], []),
  (32, .iadd, [], []),
  (33, .if_icmp .ge 22, [29], []),
  (36, .aload_n 0, [], []),
  (37, .iload 5, [], []),
  (39, .iload 6, [], []),
  (41, .iload 7, [], []),
  (43, .invokestatic 19, [59, 208, 3, 1], [0, 0]),
  (46, .invokevirtual 23, [60, 50, 2, 0], [0, 0, 6]),
  (49, .iinc 7 1, [], []),
  (52, .goto (-25), [16], []),
  (55, .iinc 6 1, [], []),
  (58, .goto (-43), [9], []),
  (61, .iinc 5 1, [], []),
  (64, .goto (-61), [2], []),
  (67, .return_, [], [])]
set_option maxRecDepth 100000 in
noncomputable def zc_X5_clear : List (Nat × Jvm.ClassFile.Instr × List Nat × List Int) := [(0, .iconst 0, [], []),
  (1, .istore_n 1, [], []),
  (2, .iload_n 1, [], []),
  (3, .aload_n 0, [], []),
  (4, .getfield 11, [17, 6, 3], [21, 64, 0]),
  (7, .arraylength, [], []),
  (8, .if_icmp .ge 16, [14], []),
  (11, .aload_n 0, [], []),
  (12, .getfield 11, [17, 6, 3], [21, 64, 0]),
  (15, .iload_n 1, [], []),
  (16, .lconst 0, [], []),
  (17, .lastore, [], []),
  (18, .iinc 1 1, [], []),
  (21, .goto (-19), [2], []),
  (24, .return_, [], [])]
set_option maxRecDepth 100000 in
noncomputable def zc_X5_takeFrom : List (Nat × Jvm.ClassFile.Instr × List Nat × List Int) := [(0, .iconst 0, [], []),
  (1, .istore_n 2, [], []),
  (2, .iload_n 2, [], []),
  (3, .aload_n 0, [], []),
  (4, .getfield 11, [17, 6, 3], [21, 64, 0]),
  (7, .arraylength, [], []),
  (8, .if_icmp .ge 21, [17], []),
  (11, .aload_n 0, [], []),
  (12, .getfield 11, [17, 6, 3], [21, 64, 0]),
  (15, .iload_n 2, [], []),
  (16, .aload_n 1, [], []),
  (17, .getfield 11, [17, 6, 3], [21, 64, 0]),
  (20, .iload_n 2, [], []),
  (21, .laload, [], []),
  (22, .lastore, [], []),
  (23, .iinc 2 1, [], []),
  (26, .goto (-24), [2], []),
  (29, .return_, [], [])]
set_option maxRecDepth 100000 in
noncomputable def zc_X5_becomeBall : List (Nat × Jvm.ClassFile.Instr × List Nat × List Int) := [(0, .aload_n 0, [], []),
  (1, .invokevirtual 27, [61, 52, 1, 0], [0, 0, 6]),
  (4, .iconst 0, [], []),
  (5, .iload_n 1, [], []),
  (6, .iload 4, [], []),
  (8, .isub, [], []),
  (9, .invokestatic 30, [62, 341, 2, 1], [0, 0]),
  (12, .istore 5, [], []),
  (14, .iload 5, [], []),
  (16, .bipush 15, [], []),
  (18, .iload_n 1, [], []),
  (19, .iload 4, [], []),
  (21, .iadd, [], []),
  (22, .invokestatic 36, [63, 343, 2, 1], [0, 0]),
  (25, .if_icmp .gt 119, [80], []),
  (28, .iconst 0, [], []),
  (29, .iload_n 2, [], []),
  (30, .iload 4, [], []),
  (32, .isub, [], []),
  (33, .invokestatic 30, [62, 341, 2, 1], [0, 0]),
  (36, .istore 6, [], []),
  (38, .iload 6, [], []),
  (40, .bipush 15, [], []),
  (42, .iload_n 2, [], []),
  (43, .iload 4, [], []),
  (45, .iadd, [], []),
  (46, .invokestatic 36, [63, 343, 2, 1], [0, 0]),
  (49, .if_icmp .gt 89, [78], []),
  (52, .iconst 0, [], []),
  (53, .iload_n 3, [], []),
  (54, .iload 4, [], []),
  (56, .isub, [], []),
  (57, .invokestatic 30, [62, 341, 2, 1], [0, 0]),
  (60, .istore 7, [], []),
  (62, .iload 7, [], []),
  (64, .bipush 15, [], []),
  (66, .iload_n 3, [], []),
  (67, .iload 4, [], []),
  (69, .iadd, [], []),
  (70, .invokestatic 36, [63, 343, 2, 1], [0, 0]),
  (73, .if_icmp .gt 59, [76], []),
  (76, .iload 5, [], []),
  (78, .iload_n 1, [], []),
  (79, .isub, [], []),
  (80, .iload 5, [], []),
  (82, .iload_n 1, [], []),
  (83, .isub, [], []),
  (84, .imul, [], []),
  (85, .iload 6, [], []),
  (87, .iload_n 2, [], []),
  (88, .isub, [], []),
  (89, .iload 6, [], []),
  (91, .iload_n 2, [], []),
  (92, .isub, [], []),
  (93, .imul, [], []),
  (94, .iadd, [], []),
  (95, .iload 7, [], []),
  (97, .iload_n 3, [], []),
  (98, .isub, [], []),
  (99, .iload 7, [], []),
  (101, .iload_n 3, [], []),
  (102, .isub, [], []),
  (103, .imul, [], []),
  (104, .iadd, [], []),
  (105, .iload 4, [], []),
  (107, .iload 4, [], []),
  (109, .imul, [], []),
  (110, .if_icmp .gt 16, [74], []),
  (113, .aload_n 0, [], []),
  (114, .iload 5, [], []),
  (116, .iload 6, [], []),
  (118, .iload 7, [], []),
  (120, .invokestatic 19, [59, 208, 3, 1], [0, 0]),
  (123, .invokevirtual 23, [60, 50, 2, 0], [0, 0, 6]),
  (126, .iinc 7 1, [], []),
  (129, .goto (-67), [34], []),
  (132, .iinc 6 1, [], []),
  (135, .goto (-97), [21], []),
  (138, .iinc 5 1, [], []),
  (141, .goto (-127), [8], []),
  (144, .return_, [], [])]
set_option maxRecDepth 100000 in
noncomputable def zc_X5_becomeCarving : List (Nat × Jvm.ClassFile.Instr × List Nat × List Int) := [(0, .iconst 0, [], []),
  (1, .istore 4, [], []),
  (3, .iload 4, [], []),
  (5, .aload_n 0, [], []),
  (6, .getfield 11, [17, 6, 3], [21, 64, 0]),
  (9, .arraylength, [], []),
  (10, .if_icmp .ge 118, [54], []),
  (13, .aload_n 1, [], []),
  (14, .getfield 11, [17, 6, 3], [21, 64, 0]),
  (17, .iload 4, [], []),
  (19, .laload, [], []),
  (20, .lstore 5, [], []),
  (22, .aload_n 2, [], []),
  (23, .getfield 11, [17, 6, 3], [21, 64, 0]),
  (26, .iload 4, [], []),
  (28, .laload, [], []),
  (29, .lstore 7, [], []),
  (31, .iload_n 3, [], []),
  (32, .tableswitch 81 0 2 #[28, 47, 62], [47, 19, 29, 37], []),
  (60, .aload_n 0, [], []),
  (61, .getfield 11, [17, 6, 3], [21, 64, 0]),
  (64, .iload 4, [], []),
  (66, .lload 7, [], []),
  (68, .lload 5, [], []),
  (70, .ldc2_w 39, [1156], [(-1)]),
  (73, .lxor, [], []),
  (74, .land, [], []),
  (75, .lastore, [], []),
  (76, .goto 46, [52], []),
  (79, .aload_n 0, [], []),
  (80, .getfield 11, [17, 6, 3], [21, 64, 0]),
  (83, .iload 4, [], []),
  (85, .lload 7, [], []),
  (87, .lload 5, [], []),
  (89, .land, [], []),
  (90, .lastore, [], []),
  (91, .goto 31, [52], []),
  (94, .aload_n 0, [], []),
  (95, .getfield 11, [17, 6, 3], [21, 64, 0]),
  (98, .iload 4, [], []),
  (100, .lload 5, [], []),
  (102, .lload 7, [], []),
  (104, .ldc2_w 39, [1156], [(-1)]),
  (107, .lxor, [], []),
  (108, .land, [], []),
  (109, .lastore, [], []),
  (110, .goto 12, [52], []),
  (113, .aload_n 0, [], []),
  (114, .getfield 11, [17, 6, 3], [21, 64, 0]),
  (117, .iload 4, [], []),
  (119, .lload 7, [], []),
  (121, .lastore, [], []),
  (122, .iinc 4 1, [], []),
  (125, .goto (-122), [2], []),
  (128, .return_, [], [])]
set_option maxRecDepth 100000 in
noncomputable def zc_X5_flip : List (Nat × Jvm.ClassFile.Instr × List Nat × List Int) := [(0, .iconst 0, [], []),
  (1, .istore_n 2, [], []),
  (2, .iload_n 2, [], []),
  (3, .aload_n 0, [], []),
  (4, .getfield 11, [17, 6, 3], [21, 64, 0]),
  (7, .arraylength, [], []),
  (8, .if_icmp .ge 24, [20], []),
  (11, .aload_n 0, [], []),
  (12, .getfield 11, [17, 6, 3], [21, 64, 0]),
  (15, .iload_n 2, [], []),
  (16, .dup2, [], []),
  (17, .laload, [], []),
  (18, .aload_n 1, [], []),
  (19, .getfield 11, [17, 6, 3], [21, 64, 0]),
  (22, .iload_n 2, [], []),
  (23, .laload, [], []),
  (24, .lxor, [], []),
  (25, .lastore, [], []),
  (26, .iinc 2 1, [], []),
  (29, .goto (-27), [2], []),
  (32, .return_, [], [])]
set_option maxRecDepth 100000 in
noncomputable def zc_X5_size : List (Nat × Jvm.ClassFile.Instr × List Nat × List Int) := [(0, .iconst 0, [], []),
  (1, .istore_n 1, [], []),
  (2, .iconst 0, [], []),
  (3, .istore_n 2, [], []),
  (4, .iload_n 2, [], []),
  (5, .aload_n 0, [], []),
  (6, .getfield 11, [17, 6, 3], [21, 64, 0]),
  (9, .arraylength, [], []),
  (10, .if_icmp .ge 21, [19], []),
  (13, .iload_n 1, [], []),
  (14, .aload_n 0, [], []),
  (15, .getfield 11, [17, 6, 3], [21, 64, 0]),
  (18, .iload_n 2, [], []),
  (19, .laload, [], []),
  (20, .invokestatic 41, [64, 338, 1, 1], [0, 0]),
  (23, .iadd, [], []),
  (24, .istore_n 1, [], []),
  (25, .iinc 2 1, [], []),
  (28, .goto (-24), [4], []),
  (31, .iload_n 1, [], []),
  (32, .ireturn, [1], [])]
set_option maxRecDepth 100000 in
noncomputable def zc_X5_sizeOfBoth : List (Nat × Jvm.ClassFile.Instr × List Nat × List Int) := [(0, .iconst 0, [], []),
  (1, .istore_n 2, [], []),
  (2, .iconst 0, [], []),
  (3, .istore_n 3, [], []),
  (4, .iload_n 3, [], []),
  (5, .aload_n 0, [], []),
  (6, .getfield 11, [17, 6, 3], [21, 64, 0]),
  (9, .arraylength, [], []),
  (10, .if_icmp .ge 28, [24], []),
  (13, .iload_n 2, [], []),
  (14, .aload_n 0, [], []),
  (15, .getfield 11, [17, 6, 3], [21, 64, 0]),
  (18, .iload_n 3, [], []),
  (19, .laload, [], []),
  (20, .aload_n 1, [], []),
  (21, .getfield 11, [17, 6, 3], [21, 64, 0]),
  (24, .iload_n 3, [], []),
  (25, .laload, [], []),
  (26, .land, [], []),
  (27, .invokestatic 41, [64, 338, 1, 1], [0, 0]),
  (30, .iadd, [], []),
  (31, .istore_n 2, [], []),
  (32, .iinc 3 1, [], []),
  (35, .goto (-31), [4], []),
  (38, .iload_n 2, [], []),
  (39, .ireturn, [1], [])]
set_option maxRecDepth 100000 in
noncomputable def zc_X5_sizeOfOne : List (Nat × Jvm.ClassFile.Instr × List Nat × List Int) := [(0, .iconst 0, [], []),
  (1, .istore_n 2, [], []),
  (2, .iconst 0, [], []),
  (3, .istore_n 3, [], []),
  (4, .iload_n 3, [], []),
  (5, .aload_n 0, [], []),
  (6, .getfield 11, [17, 6, 3], [21, 64, 0]),
  (9, .arraylength, [], []),
  (10, .if_icmp .ge 28, [24], []),
  (13, .iload_n 2, [], []),
  (14, .aload_n 0, [], []),
  (15, .getfield 11, [17, 6, 3], [21, 64, 0]),
  (18, .iload_n 3, [], []),
  (19, .laload, [], []),
  (20, .aload_n 1, [], []),
  (21, .getfield 11, [17, 6, 3], [21, 64, 0]),
  (24, .iload_n 3, [], []),
  (25, .laload, [], []),
  (26, .lxor, [], []),
  (27, .invokestatic 41, [64, 338, 1, 1], [0, 0]),
  (30, .iadd, [], []),
  (31, .istore_n 2, [], []),
  (32, .iinc 3 1, [], []),
  (35, .goto (-31), [4], []),
  (38, .iload_n 2, [], []),
  (39, .ireturn, [1], [])]
set_option maxRecDepth 100000 in
noncomputable def zc_X5_sizeAt : List (Nat × Jvm.ClassFile.Instr × List Nat × List Int) := [(0, .iconst 0, [], []),
  (1, .istore_n 3, [], []),
  (2, .iconst 0, [], []),
  (3, .istore 4, [], []),
  (5, .iload 4, [], []),
  (7, .bipush 16, [], []),
  (9, .if_icmp .ge 83, [46], []),
  (12, .iconst 0, [], []),
  (13, .istore 5, [], []),
  (15, .iload 5, [], []),
  (17, .bipush 16, [], []),
  (19, .if_icmp .ge 67, [44], []),
  (22, .iload_n 1, [], []),
  (23, .ifCond .ne 14, [19], []),
  (26, .iload_n 2, [], []),
  (27, .iload 4, [], []),
  (29, .iload 5, [], []),
  (31, .invokestatic 19, [59, 208, 3, 1], [0, 0]),
  (34, .goto 27, [31], []),
  (37, .iload_n 1, [], []),
  (38, .iconst 1, [], []),
  (39, .if_icmp .ne 14, [27], []),
  (42, .iload 4, [], []),
  (44, .iload_n 2, [], []),
  (45, .iload 5, [], []),
  (47, .invokestatic 19, [59, 208, 3, 1], [0, 0]),
  (50, .goto 11, [31], []),
  (53, .iload 4, [], []),
  (55, .iload 5, [], []),
  (57, .iload_n 2, [], []),
  (58, .invokestatic 19, [59, 208, 3, 1], [0, 0]),
  (61, .istore 6, [], []),
  (63, .iload_n 3, [], []),
  (64, .aload_n 0, [], []),
  (65, .iload 6, [], []),
  (67, .invokevirtual 47, [65, 49, 2, 4], [0, 0, 6]),
  (70, .ifCond .eq 7, [39], []),
  (73, .iconst 1, [], []),
  (74, .goto 4, [40], []),
  (77, .iconst 0, [], []),
  (78, .iadd, [], []),
  (79, .istore_n 3, [], []),
  (80, .iinc 5 1, [], []),
  (83, .goto (-68), [9], []),
  (86, .iinc 4 1, [], []),
  (89, .goto (-84), [4], []),
  (92, .iload_n 3, [], []),
  (93, .ireturn, [1], [])]
set_option maxRecDepth 100000 in
noncomputable def zc_X5_ofThem : List (Nat × Jvm.ClassFile.Instr × List Nat × List Int) := [(0, .iload_n 1, [], []),
  (1, .istore_n 2, [], []),
  (2, .iconst 0, [], []),
  (3, .istore_n 3, [], []),
  (4, .iload_n 3, [], []),
  (5, .sipush 4096, [], []),
  (8, .if_icmp .ge 26, [18], []),
  (11, .aload_n 0, [], []),
  (12, .iload_n 3, [], []),
  (13, .invokevirtual 47, [65, 49, 2, 4], [0, 0, 6]),
  (16, .ifCond .eq 12, [16], []),
  (19, .iload_n 2, [], []),
  (20, .ifCond .ne 5, [15], []),
  (23, .iload_n 3, [], []),
  (24, .ireturn, [1], []),
  (25, .iinc 2 (-1), [], []),
  (28, .iinc 3 1, [], []),
  (31, .goto (-27), [4], []),
  (34, .iconst (-1), [], []),
  (35, .ireturn, [1], [])]
set_option maxRecDepth 100000 in
noncomputable def zc_X6_init : List (Nat × Jvm.ClassFile.Instr × List Nat × List Int) := [(0, .aload_n 0, [], []),
  (1, .invokespecial 3, [9999], []),
  (4, .aload_n 0, [], []),
  (5, .sipush 250, [], []),
  (8, .newarray .int, [20], []),
  (10, .putfield 11, [18, 7, 3], [20, 250, 0]),
  (13, .aload_n 0, [], []),
  (14, .bipush 64, [], []),
  (16, .newarray .int, [20], []),
  (18, .putfield 15, [19, 7, 3], [20, 64, 6]),
  (21, .aload_n 0, [], []),
  (22, .bipush 64, [], []),
  (24, .newarray .int, [20], []),
  (26, .putfield 18, [20, 7, 3], [20, 64, 7]),
  (29, .aload_n 0, [], []),
  (30, .bipush 64, [], []),
  (32, .newarray .int, [20], []),
  (34, .putfield 21, [21, 7, 3], [20, 64, 8]),
  (37, .aload_n 0, [], []),
  (38, .sipush 384, [], []),
  (41, .newarray .int, [20], []),
  (43, .putfield 24, [22, 7, 3], [20, 384, 9]),
  (46, .aload_n 0, [], []),
  (47, .bipush 6, [], []),
  (49, .newarray .int, [20], []),
  (51, .putfield 27, [23, 7, 3], [20, 6, 10]),
  (54, .return_, [], [])]
set_option maxRecDepth 100000 in
noncomputable def zc_X6_size : List (Nat × Jvm.ClassFile.Instr × List Nat × List Int) := [(0, .aload_n 0, [], []),
  (1, .getfield 30, [24, 7, 1], [0, 0, 1]),
  (4, .ireturn, [1], [])]
set_option maxRecDepth 100000 in
noncomputable def zc_X6_made : List (Nat × Jvm.ClassFile.Instr × List Nat × List Int) := [(0, .aload_n 0, [], []),
  (1, .getfield 34, [25, 7, 1], [0, 0, 4]),
  (4, .ireturn, [1], [])]
set_option maxRecDepth 100000 in
noncomputable def zc_X6_isFull : List (Nat × Jvm.ClassFile.Instr × List Nat × List Int) := [(0, .aload_n 0, [], []),
  (1, .getfield 30, [24, 7, 1], [0, 0, 1]),
  (4, .sipush 250, [], []),
  (7, .if_icmp .lt 7, [6], []),
  (10, .iconst 1, [], []),
  (11, .goto 4, [7], []),
  (14, .iconst 0, [], []),
  (15, .ireturn, [4], [])]
set_option maxRecDepth 100000 in
noncomputable def zc_X6_put : List (Nat × Jvm.ClassFile.Instr × List Nat × List Int) := [(0, .aload_n 0, [], []),
  (1, .getfield 30, [24, 7, 1], [0, 0, 1]),
  (4, .ifCond .lt 33, [19], []),
  (7, .aload_n 0, [], []),
  (8, .getfield 30, [24, 7, 1], [0, 0, 1]),
  (11, .sipush 250, [], []),
  (14, .if_icmp .ge 23, [19], []),
  (17, .aload_n 0, [], []),
  (18, .getfield 11, [18, 7, 3], [20, 250, 0]),
  (21, .aload_n 0, [], []),
  (22, .getfield 30, [24, 7, 1], [0, 0, 1]),
  (25, .iload_n 1, [], []),
  (26, .iastore, [], []),
  (27, .aload_n 0, [], []),
  (28, .dup, [], []),
  (29, .getfield 30, [24, 7, 1], [0, 0, 1]),
  (32, .iconst 1, [], []),
  (33, .iadd, [], []),
  (34, .putfield 30, [24, 7, 1], [0, 0, 1]),
  (37, .return_, [], [])]
set_option maxRecDepth 100000 in
noncomputable def zc_X6_empty : List (Nat × Jvm.ClassFile.Instr × List Nat × List Int) := [(0, .aload_n 0, [], []),
  (1, .iconst 0, [], []),
  (2, .putfield 30, [24, 7, 1], [0, 0, 1]),
  (5, .return_, [], [])]
set_option maxRecDepth 100000 in
noncomputable def zc_X6_read : List (Nat × Jvm.ClassFile.Instr × List Nat × List Int) := [(0, .aload_n 0, [], []),
  (1, .iconst 0, [], []),
  (2, .putfield 37, [26, 7, 1], [0, 0, 2]),
  (5, .aload_n 0, [], []),
  (6, .iconst 0, [], []),
  (7, .putfield 34, [25, 7, 1], [0, 0, 4]),
  (10, .aload_n 0, [], []),
  (11, .iconst 0, [], []),
  (12, .putfield 40, [27, 7, 1], [0, 0, 5]),
  (15, .aload_n 0, [], []),
  (16, .iconst (-1), [], []),
  (17, .putfield 43, [28, 7, 1], [0, 0, 3]),
  (20, .iconst 1, [], []),
  (21, .istore_n 2, [], []),
  (22, .iconst 0, [], []),
  (23, .istore_n 3, [], []),
  (24, .iload_n 3, [], []),
  (25, .sipush 250, [], []),
  (28, .if_icmp .gt 19, [27], []),
  (31, .iload_n 2, [], []),
  (32, .ifCond .eq 15, [27], []),
  (35, .aload_n 0, [], []),
  (36, .aload_n 1, [], []),
  (37, .invokevirtual 46, [66, 69, 2, 4], [0, 0, 7]),
  (40, .istore_n 2, [], []),
  (41, .iinc 3 1, [], []),
  (44, .goto (-20), [16], []),
  (47, .aload_n 0, [], []),
  (48, .getfield 43, [28, 7, 1], [0, 0, 3]),
  (51, .ireturn, [1], [])]
set_option maxRecDepth 100000 in
noncomputable def zc_X6_begin : List (Nat × Jvm.ClassFile.Instr × List Nat × List Int) := [(0, .aload_n 0, [], []),
  (1, .invokevirtual 50, [67, 75, 1, 0], [0, 0, 7]),
  (4, .aload_n 0, [], []),
  (5, .getfield 37, [26, 7, 1], [0, 0, 2]),
  (8, .istore_n 2, [], []),
  (9, .aload_n 0, [], []),
  (10, .invokevirtual 53, [68, 77, 1, 1], [0, 0, 7]),
  (13, .istore_n 3, [], []),
  (14, .iload_n 3, [], []),
  (15, .iconst (-1), [], []),
  (16, .if_icmp .ne 9, [15], []),
  (19, .aload_n 0, [], []),
  (20, .iload_n 2, [], []),
  (21, .invokevirtual 57, [69, 73, 2, 4], [0, 0, 7]),
  (24, .ireturn, [4], []),
  (25, .iconst 0, [], []),
  (26, .istore 4, [], []),
  (28, .iload 4, [], []),
  (30, .iload_n 3, [], []),
  (31, .invokestatic 61, [70, 29, 1, 1], [0, 0]),
  (34, .if_icmp .ge 21, [30], []),
  (37, .aload_n 0, [], []),
  (38, .iload_n 3, [], []),
  (39, .iload 4, [], []),
  (41, .invokevirtual 67, [71, 79, 3, 4], [0, 0, 7]),
  (44, .ifCond .ne 5, [28], []),
  (47, .iconst 0, [], []),
  (48, .ireturn, [4], []),
  (49, .iinc 4 1, [], []),
  (52, .goto (-24), [17], []),
  (55, .iload_n 3, [], []),
  (56, .invokestatic 71, [72, 27, 1, 4], [0, 0]),
  (59, .ifCond .eq 17, [43], []),
  (62, .aload_n 0, [], []),
  (63, .aload_n 1, [], []),
  (64, .aload_n 0, [], []),
  (65, .aload_n 1, [], []),
  (66, .iload_n 3, [], []),
  (67, .iconst (-1), [], []),
  (68, .iconst (-1), [], []),
  (69, .invokevirtual 74, [73, 72, 5, 1], [0, 0, 7]),
  (72, .invokevirtual 78, [74, 71, 3, 4], [0, 0, 7]),
  (75, .ireturn, [4], []),
  (76, .aload_n 0, [], []),
  (77, .bipush 40, [], []),
  (79, .invokevirtual 82, [75, 76, 2, 4], [0, 0, 7]),
  (82, .ifCond .eq 16, [54], []),
  (85, .aload_n 0, [], []),
  (86, .iload_n 3, [], []),
  (87, .iload_n 2, [], []),
  (88, .invokevirtual 85, [76, 70, 3, 4], [0, 0, 7]),
  (91, .ifCond .eq 7, [54], []),
  (94, .iconst 1, [], []),
  (95, .goto 4, [55], []),
  (98, .iconst 0, [], []),
  (99, .ireturn, [4], [])]
set_option maxRecDepth 100000 in
noncomputable def zc_X6_begun : List (Nat × Jvm.ClassFile.Instr × List Nat × List Int) := [(0, .aload_n 0, [], []),
  (1, .getfield 40, [27, 7, 1], [0, 0, 5]),
  (4, .ifCond .lt 12, [7], []),
  (7, .aload_n 0, [], []),
  (8, .getfield 40, [27, 7, 1], [0, 0, 5]),
  (11, .bipush 64, [], []),
  (13, .if_icmp .lt 9, [11], []),
  (16, .aload_n 0, [], []),
  (17, .iload_n 2, [], []),
  (18, .invokevirtual 57, [69, 73, 2, 4], [0, 0, 7]),
  (21, .ireturn, [4], []),
  (22, .aload_n 0, [], []),
  (23, .getfield 15, [19, 7, 3], [20, 64, 6]),
  (26, .aload_n 0, [], []),
  (27, .getfield 40, [27, 7, 1], [0, 0, 5]),
  (30, .iload_n 1, [], []),
  (31, .iastore, [], []),
  (32, .aload_n 0, [], []),
  (33, .getfield 18, [20, 7, 3], [20, 64, 7]),
  (36, .aload_n 0, [], []),
  (37, .getfield 40, [27, 7, 1], [0, 0, 5]),
  (40, .iload_n 2, [], []),
  (41, .iastore, [], []),
  (42, .aload_n 0, [], []),
  (43, .getfield 21, [21, 7, 3], [20, 64, 8]),
  (46, .aload_n 0, [], []),
  (47, .getfield 40, [27, 7, 1], [0, 0, 5]),
  (50, .iconst (-1), [], []),
  (51, .iastore, [], []),
  (52, .aload_n 0, [], []),
  (53, .getfield 27, [23, 7, 3], [20, 6, 10]),
  (56, .iconst 0, [], []),
  (57, .aload_n 0, [], []),
  (58, .getfield 24, [22, 7, 3], [20, 384, 9]),
  (61, .aload_n 0, [], []),
  (62, .getfield 40, [27, 7, 1], [0, 0, 5]),
  (65, .bipush 6, [], []),
  (67, .imul, [], []),
  (68, .bipush 6, [], []),
  (70, .invokestatic 88, [9998], []),
  (73, .aload_n 0, [], []),
  (74, .dup, [], []),
  (75, .getfield 40, [27, 7, 1], [0, 0, 5]),
  (78, .iconst 1, [], []),
  (79, .iadd, [], []),
  (80, .putfield 40, [27, 7, 1], [0, 0, 5]),
  (83, .iconst 1, [], []),
  (84, .ireturn, [4], [])]
set_option maxRecDepth 100000 in
noncomputable def zc_X6_end : List (Nat × Jvm.ClassFile.Instr × List Nat × List Int) := [(0, .iload_n 2, [], []),
  (1, .istore_n 3, [], []),
  (2, .aload_n 0, [], []),
  (3, .getfield 40, [27, 7, 1], [0, 0, 5]),
  (6, .bipush 64, [], []),
  (8, .invokestatic 94, [77, 343, 2, 1], [0, 0]),
  (11, .iconst 1, [], []),
  (12, .isub, [], []),
  (13, .istore 4, [], []),
  (15, .iload 4, [], []),
  (17, .ifCond .lt 155, [91], []),
  (20, .aload_n 0, [], []),
  (21, .getfield 15, [19, 7, 3], [20, 64, 6]),
  (24, .iload 4, [], []),
  (26, .iaload, [], []),
  (27, .invokestatic 100, [78, 28, 1, 4], [0, 0]),
  (30, .istore 5, [], []),
  (32, .iload 5, [], []),
  (34, .ifCond .eq 13, [24], []),
  (37, .aload_n 0, [], []),
  (38, .getfield 21, [21, 7, 3], [20, 64, 8]),
  (41, .iload 4, [], []),
  (43, .iaload, [], []),
  (44, .goto 4, [25], []),
  (47, .iload_n 3, [], []),
  (48, .istore 6, [], []),
  (50, .iload 6, [], []),
  (52, .iconst (-1), [], []),
  (53, .if_icmp .ne 18, [38], []),
  (56, .aload_n 0, [], []),
  (57, .getfield 21, [21, 7, 3], [20, 64, 8]),
  (60, .iload 4, [], []),
  (62, .iload_n 3, [], []),
  (63, .iastore, [], []),
  (64, .aload_n 0, [], []),
  (65, .bipush 44, [], []),
  (67, .invokevirtual 82, [75, 76, 2, 4], [0, 0, 7]),
  (70, .ireturn, [4], []),
  (71, .aload_n 0, [], []),
  (72, .bipush 41, [], []),
  (74, .invokevirtual 82, [75, 76, 2, 4], [0, 0, 7]),
  (77, .ifCond .ne 5, [44], []),
  (80, .iconst 0, [], []),
  (81, .ireturn, [4], []),
  (82, .iload 5, [], []),
  (84, .ifCond .eq 7, [48], []),
  (87, .iload_n 3, [], []),
  (88, .goto 4, [49], []),
  (91, .iconst (-1), [], []),
  (92, .istore 7, [], []),
  (94, .aload_n 1, [], []),
  (95, .aload_n 0, [], []),
  (96, .getfield 15, [19, 7, 3], [20, 64, 6]),
  (99, .iload 4, [], []),
  (101, .iaload, [], []),
  (102, .iload 6, [], []),
  (104, .iload 7, [], []),
  (106, .invokevirtual 103, [79, 119, 4, 4], [0, 0, 10]),
  (109, .ifCond .eq 15, [66], []),
  (112, .aload_n 0, [], []),
  (113, .aload_n 0, [], []),
  (114, .getfield 18, [20, 7, 3], [20, 64, 7]),
  (117, .iload 4, [], []),
  (119, .iaload, [], []),
  (120, .invokevirtual 57, [69, 73, 2, 4], [0, 0, 7]),
  (123, .ireturn, [4], []),
  (124, .aload_n 0, [], []),
  (125, .getfield 24, [22, 7, 3], [20, 384, 9]),
  (128, .iload 4, [], []),
  (130, .bipush 6, [], []),
  (132, .imul, [], []),
  (133, .aload_n 0, [], []),
  (134, .getfield 27, [23, 7, 3], [20, 6, 10]),
  (137, .iconst 0, [], []),
  (138, .bipush 6, [], []),
  (140, .invokestatic 88, [9998], []),
  (143, .aload_n 0, [], []),
  (144, .aload_n 1, [], []),
  (145, .aload_n 0, [], []),
  (146, .getfield 15, [19, 7, 3], [20, 64, 6]),
  (149, .iload 4, [], []),
  (151, .iaload, [], []),
  (152, .iload 6, [], []),
  (154, .iload 7, [], []),
  (156, .invokevirtual 74, [73, 72, 5, 1], [0, 0, 7]),
  (159, .istore_n 3, [], []),
  (160, .aload_n 0, [], []),
  (161, .iload 4, [], []),
  (163, .putfield 40, [27, 7, 1], [0, 0, 5]),
  (166, .iinc 4 (-1), [], []),
  (169, .goto (-154), [9], []),
  (172, .aload_n 0, [], []),
  (173, .invokevirtual 50, [67, 75, 1, 0], [0, 0, 7]),
  (176, .aload_n 0, [], []),
  (177, .getfield 37, [26, 7, 1], [0, 0, 2]),
  (180, .aload_n 0, [], []),
  (181, .getfield 30, [24, 7, 1], [0, 0, 1]),
  (184, .if_icmp .ge 18, [105], []),
  (187, .aload_n 0, [], []),
  (188, .aload_n 0, [], []),
  (189, .getfield 37, [26, 7, 1], [0, 0, 2]),
  (192, .invokevirtual 57, [69, 73, 2, 4], [0, 0, 7]),
  (195, .ifCond .eq 7, [105], []),
  (198, .iconst 1, [], []),
  (199, .goto 4, [106], []),
  (202, .iconst 0, [], []),
  (203, .ireturn, [4], [])]
set_option maxRecDepth 100000 in
noncomputable def zc_X6_write : List (Nat × Jvm.ClassFile.Instr × List Nat × List Int) := [(0, .aload_n 1, [], []),
  (1, .invokevirtual 109, [80, 110, 1, 1], [0, 0, 10]),
  (4, .aload_n 0, [], []),
  (5, .getfield 34, [25, 7, 1], [0, 0, 4]),
  (8, .iadd, [], []),
  (9, .istore 5, [], []),
  (11, .aload_n 1, [], []),
  (12, .iload 5, [], []),
  (14, .iload_n 2, [], []),
  (15, .iload_n 3, [], []),
  (16, .iload 4, [], []),
  (18, .aload_n 0, [], []),
  (19, .getfield 27, [23, 7, 3], [20, 6, 10]),
  (22, .invokevirtual 111, [81, 122, 6, 0], [0, 0, 10]),
  (25, .aload_n 0, [], []),
  (26, .dup, [], []),
  (27, .getfield 34, [25, 7, 1], [0, 0, 4]),
  (30, .iconst 1, [], []),
  (31, .iadd, [], []),
  (32, .putfield 34, [25, 7, 1], [0, 0, 4]),
  (35, .iload 5, [], []),
  (37, .ireturn, [1], [])]
set_option maxRecDepth 100000 in
noncomputable def zc_X6_isFault : List (Nat × Jvm.ClassFile.Instr × List Nat × List Int) := [(0, .aload_n 0, [], []),
  (1, .iload_n 1, [], []),
  (2, .putfield 43, [28, 7, 1], [0, 0, 3]),
  (5, .iconst 0, [], []),
  (6, .ireturn, [4], [])]
set_option maxRecDepth 100000 in
noncomputable def zc_X6_byteAt : List (Nat × Jvm.ClassFile.Instr × List Nat × List Int) := [(0, .iload_n 1, [], []),
  (1, .ifCond .lt 27, [14], []),
  (4, .iload_n 1, [], []),
  (5, .aload_n 0, [], []),
  (6, .getfield 30, [24, 7, 1], [0, 0, 1]),
  (9, .if_icmp .ge 19, [14], []),
  (12, .iload_n 1, [], []),
  (13, .sipush 250, [], []),
  (16, .if_icmp .ge 12, [14], []),
  (19, .aload_n 0, [], []),
  (20, .getfield 11, [18, 7, 3], [20, 250, 0]),
  (23, .iload_n 1, [], []),
  (24, .iaload, [], []),
  (25, .goto 4, [15], []),
  (28, .iconst (-1), [], []),
  (29, .ireturn, [1], [])]
set_option maxRecDepth 100000 in
noncomputable def zc_X6_skipBlanks : List (Nat × Jvm.ClassFile.Instr × List Nat × List Int) := [(0, .aload_n 0, [], []),
  (1, .getfield 37, [26, 7, 1], [0, 0, 2]),
  (4, .istore_n 1, [], []),
  (5, .iload_n 1, [], []),
  (6, .aload_n 0, [], []),
  (7, .getfield 30, [24, 7, 1], [0, 0, 1]),
  (10, .if_icmp .ge 26, [19], []),
  (13, .aload_n 0, [], []),
  (14, .iload_n 1, [], []),
  (15, .invokevirtual 114, [82, 74, 2, 1], [0, 0, 7]),
  (18, .bipush 32, [], []),
  (20, .if_icmp .ne 16, [19], []),
  (23, .aload_n 0, [], []),
  (24, .iload_n 1, [], []),
  (25, .iconst 1, [], []),
  (26, .iadd, [], []),
  (27, .putfield 37, [26, 7, 1], [0, 0, 2]),
  (30, .iinc 1 1, [], []),
  (33, .goto (-28), [3], []),
  (36, .return_, [], [])]
set_option maxRecDepth 100000 in
noncomputable def zc_X6_readSign : List (Nat × Jvm.ClassFile.Instr × List Nat × List Int) := [(0, .aload_n 0, [], []),
  (1, .invokevirtual 50, [67, 75, 1, 0], [0, 0, 7]),
  (4, .aload_n 0, [], []),
  (5, .aload_n 0, [], []),
  (6, .getfield 37, [26, 7, 1], [0, 0, 2]),
  (9, .invokevirtual 114, [82, 74, 2, 1], [0, 0, 7]),
  (12, .iload_n 1, [], []),
  (13, .if_icmp .eq 12, [13], []),
  (16, .aload_n 0, [], []),
  (17, .aload_n 0, [], []),
  (18, .getfield 37, [26, 7, 1], [0, 0, 2]),
  (21, .invokevirtual 57, [69, 73, 2, 4], [0, 0, 7]),
  (24, .ireturn, [4], []),
  (25, .aload_n 0, [], []),
  (26, .dup, [], []),
  (27, .getfield 37, [26, 7, 1], [0, 0, 2]),
  (30, .iconst 1, [], []),
  (31, .iadd, [], []),
  (32, .putfield 37, [26, 7, 1], [0, 0, 2]),
  (35, .iconst 1, [], []),
  (36, .ireturn, [4], [])]
set_option maxRecDepth 100000 in
noncomputable def zc_X6_readWord : List (Nat × Jvm.ClassFile.Instr × List Nat × List Int) := [(0, .aload_n 0, [], []),
  (1, .getfield 37, [26, 7, 1], [0, 0, 2]),
  (4, .istore_n 1, [], []),
  (5, .iload_n 1, [], []),
  (6, .istore_n 2, [], []),
  (7, .iload_n 2, [], []),
  (8, .aload_n 0, [], []),
  (9, .getfield 30, [24, 7, 1], [0, 0, 1]),
  (12, .if_icmp .ge 31, [23], []),
  (15, .aload_n 0, [], []),
  (16, .iload_n 2, [], []),
  (17, .invokevirtual 114, [82, 74, 2, 1], [0, 0, 7]),
  (20, .bipush 97, [], []),
  (22, .bipush 122, [], []),
  (24, .invokestatic 117, [83, 200, 3, 4], [0, 0]),
  (27, .ifCond .eq 16, [23], []),
  (30, .aload_n 0, [], []),
  (31, .iload_n 2, [], []),
  (32, .iconst 1, [], []),
  (33, .iadd, [], []),
  (34, .putfield 37, [26, 7, 1], [0, 0, 2]),
  (37, .iinc 2 1, [], []),
  (40, .goto (-33), [5], []),
  (43, .iconst 3, [], []),
  (44, .istore_n 2, [], []),
  (45, .iload_n 2, [], []),
  (46, .bipush 17, [], []),
  (48, .if_icmp .gt 31, [42], []),
  (51, .aload_n 0, [], []),
  (52, .getfield 37, [26, 7, 1], [0, 0, 2]),
  (55, .iload_n 1, [], []),
  (56, .if_icmp .le 23, [42], []),
  (59, .aload_n 0, [], []),
  (60, .iload_n 1, [], []),
  (61, .iload_n 2, [], []),
  (62, .invokestatic 120, [84, 34, 1, 3], [40, 0]),
  (65, .invokevirtual 124, [85, 78, 3, 4], [0, 0, 7]),
  (68, .ifCond .eq 5, [40], []),
  (71, .iload_n 2, [], []),
  (72, .ireturn, [1], []),
  (73, .iinc 2 1, [], []),
  (76, .goto (-31), [25], []),
  (79, .iconst (-1), [], []),
  (80, .ireturn, [1], [])]
set_option maxRecDepth 100000 in
noncomputable def zc_X6_isWord : List (Nat × Jvm.ClassFile.Instr × List Nat × List Int) := [(0, .aload_n 2, [], []),
  (1, .invokevirtual 128, [86, 345, 1, 1], [0, 0, 40]),
  (4, .aload_n 0, [], []),
  (5, .getfield 37, [26, 7, 1], [0, 0, 2]),
  (8, .iload_n 1, [], []),
  (9, .isub, [], []),
  (10, .if_icmp .eq 5, [9], []),
  (13, .iconst 0, [], []),
  (14, .ireturn, [4], []),
  (15, .iconst 0, [], []),
  (16, .istore_n 3, [], []),
  (17, .iload_n 3, [], []),
  (18, .aload_n 2, [], []),
  (19, .invokevirtual 128, [86, 345, 1, 1], [0, 0, 40]),
  (22, .if_icmp .ge 26, [28], []),
  (25, .aload_n 0, [], []),
  (26, .iload_n 1, [], []),
  (27, .iload_n 3, [], []),
  (28, .iadd, [], []),
  (29, .invokevirtual 114, [82, 74, 2, 1], [0, 0, 7]),
  (32, .aload_n 2, [], []),
  (33, .iload_n 3, [], []),
  (34, .invokevirtual 133, [87, 346, 2, 5], [0, 0, 40]),
  (37, .if_icmp .eq 5, [26], []),
  (40, .iconst 0, [], []),
  (41, .ireturn, [4], []),
  (42, .iinc 3 1, [], []),
  (45, .goto (-28), [11], []),
  (48, .iconst 1, [], []),
  (49, .ireturn, [4], [])]
set_option maxRecDepth 100000 in
noncomputable def zc_X6_readNumber : List (Nat × Jvm.ClassFile.Instr × List Nat × List Int) := [(0, .aload_n 0, [], []),
  (1, .invokevirtual 50, [67, 75, 1, 0], [0, 0, 7]),
  (4, .aload_n 0, [], []),
  (5, .aload_n 0, [], []),
  (6, .getfield 37, [26, 7, 1], [0, 0, 2]),
  (9, .invokevirtual 114, [82, 74, 2, 1], [0, 0, 7]),
  (12, .bipush 45, [], []),
  (14, .if_icmp .ne 15, [14], []),
  (17, .iload_n 1, [], []),
  (18, .iload_n 2, [], []),
  (19, .invokestatic 137, [88, 33, 2, 4], [0, 0]),
  (22, .ifCond .eq 7, [14], []),
  (25, .iconst 1, [], []),
  (26, .goto 4, [15], []),
  (29, .iconst 0, [], []),
  (30, .istore_n 3, [], []),
  (31, .iload_n 3, [], []),
  (32, .ifCond .eq 17, [26], []),
  (35, .aload_n 0, [], []),
  (36, .dup, [], []),
  (37, .getfield 37, [26, 7, 1], [0, 0, 2]),
  (40, .iconst 1, [], []),
  (41, .iadd, [], []),
  (42, .putfield 37, [26, 7, 1], [0, 0, 2]),
  (45, .aload_n 0, [], []),
  (46, .invokevirtual 50, [67, 75, 1, 0], [0, 0, 7]),
  (49, .aload_n 0, [], []),
  (50, .getfield 37, [26, 7, 1], [0, 0, 2]),
  (53, .istore 4, [], []),
  (55, .iconst 0, [], []),
  (56, .istore 5, [], []),
  (58, .iload 4, [], []),
  (60, .istore 6, [], []),
  (62, .iload 6, [], []),
  (64, .aload_n 0, [], []),
  (65, .getfield 30, [24, 7, 1], [0, 0, 1]),
  (68, .if_icmp .ge 50, [61], []),
  (71, .aload_n 0, [], []),
  (72, .iload 6, [], []),
  (74, .invokevirtual 114, [82, 74, 2, 1], [0, 0, 7]),
  (77, .bipush 48, [], []),
  (79, .bipush 57, [], []),
  (81, .invokestatic 117, [83, 200, 3, 4], [0, 0]),
  (84, .ifCond .eq 34, [61], []),
  (87, .iload 5, [], []),
  (89, .bipush 10, [], []),
  (91, .imul, [], []),
  (92, .aload_n 0, [], []),
  (93, .iload 6, [], []),
  (95, .invokevirtual 114, [82, 74, 2, 1], [0, 0, 7]),
  (98, .iadd, [], []),
  (99, .bipush 48, [], []),
  (101, .isub, [], []),
  (102, .istore 5, [], []),
  (104, .aload_n 0, [], []),
  (105, .iload 6, [], []),
  (107, .iconst 1, [], []),
  (108, .iadd, [], []),
  (109, .putfield 37, [26, 7, 1], [0, 0, 2]),
  (112, .iinc 6 1, [], []),
  (115, .goto (-53), [33], []),
  (118, .aload_n 0, [], []),
  (119, .getfield 37, [26, 7, 1], [0, 0, 2]),
  (122, .iload 4, [], []),
  (124, .if_icmp .eq 24, [76], []),
  (127, .aload_n 0, [], []),
  (128, .getfield 37, [26, 7, 1], [0, 0, 2]),
  (131, .iload 4, [], []),
  (133, .isub, [], []),
  (134, .iconst 3, [], []),
  (135, .if_icmp .gt 13, [76], []),
  (138, .iload_n 2, [], []),
  (139, .ifCond .lt 9, [76], []),
  (142, .iload_n 2, [], []),
  (143, .bipush 6, [], []),
  (145, .if_icmp .lt 10, [80], []),
  (148, .aload_n 0, [], []),
  (149, .iload 4, [], []),
  (151, .invokevirtual 57, [69, 73, 2, 4], [0, 0, 7]),
  (154, .ireturn, [4], []),
  (155, .aload_n 0, [], []),
  (156, .getfield 27, [23, 7, 3], [20, 6, 10]),
  (159, .iload_n 2, [], []),
  (160, .iload_n 3, [], []),
  (161, .ifCond .eq 9, [88], []),
  (164, .iload 5, [], []),
  (166, .ineg, [], []),
  (167, .goto 5, [89], []),
  (170, .iload 5, [], []),
  (172, .iastore, [], []),
  (173, .iload_n 1, [], []),
  (174, .iload_n 2, [], []),
  (175, .aload_n 0, [], []),
  (176, .getfield 27, [23, 7, 3], [20, 6, 10]),
  (179, .invokestatic 140, [89, 31, 3, 4], [0, 0]),
  (182, .ifCond .ne 12, [100], []),
  (185, .aload_n 0, [], []),
  (186, .iload 4, [], []),
  (188, .invokevirtual 57, [69, 73, 2, 4], [0, 0, 7]),
  (191, .ifCond .eq 7, [102], []),
  (194, .iconst 1, [], []),
  (195, .goto 4, [103], []),
  (198, .iconst 0, [], []),
  (199, .ireturn, [4], [])]
set_option maxRecDepth 100000 in
noncomputable def zc_X7_init : List (Nat × Jvm.ClassFile.Instr × List Nat × List Int) := [(0, .aload_n 0, [], []),
  (1, .invokespecial 3, [9999], []),
  (4, .aload_n 0, [], []),
  (5, .bipush 8, [], []),
  (7, .newarray .int, [20], []),
  (9, .putfield 9, [29, 8, 3], [20, 8, 0]),
  (12, .aload_n 0, [], []),
  (13, .bipush 8, [], []),
  (15, .newarray .int, [20], []),
  (17, .putfield 15, [30, 8, 3], [20, 8, 1]),
  (20, .aload_n 0, [], []),
  (21, .sipush 320, [], []),
  (24, .newarray .long, [21], []),
  (26, .putfield 18, [31, 8, 3], [21, 320, 2]),
  (29, .iconst 0, [], []),
  (30, .istore_n 1, [], []),
  (31, .iload_n 1, [], []),
  (32, .aload_n 0, [], []),
  (33, .getfield 9, [29, 8, 3], [20, 8, 0]),
  (36, .arraylength, [], []),
  (37, .if_icmp .ge 16, [28], []),
  (40, .aload_n 0, [], []),
  (41, .getfield 9, [29, 8, 3], [20, 8, 0]),
  (44, .iload_n 1, [], []),
  (45, .iconst (-1), [], []),
  (46, .iastore, [], []),
  (47, .iinc 1 1, [], []),
  (50, .goto (-19), [16], []),
  (53, .return_, [], [])]
set_option maxRecDepth 100000 in
noncomputable def zc_X7_heldBy : List (Nat × Jvm.ClassFile.Instr × List Nat × List Int) := [(0, .iload_n 1, [], []),
  (1, .invokestatic 22, [90, 201, 1, 4], [0, 0]),
  (4, .ifCond .eq 12, [8], []),
  (7, .aload_n 0, [], []),
  (8, .getfield 9, [29, 8, 3], [20, 8, 0]),
  (11, .iload_n 1, [], []),
  (12, .iaload, [], []),
  (13, .goto 4, [9], []),
  (16, .iconst (-1), [], []),
  (17, .ireturn, [1], [])]
set_option maxRecDepth 100000 in
noncomputable def zc_X7_sizeOf : List (Nat × Jvm.ClassFile.Instr × List Nat × List Int) := [(0, .iload_n 1, [], []),
  (1, .invokestatic 22, [90, 201, 1, 4], [0, 0]),
  (4, .ifCond .eq 12, [8], []),
  (7, .aload_n 0, [], []),
  (8, .getfield 15, [30, 8, 3], [20, 8, 1]),
  (11, .iload_n 1, [], []),
  (12, .iaload, [], []),
  (13, .goto 4, [9], []),
  (16, .iconst 0, [], []),
  (17, .ireturn, [1], [])]
set_option maxRecDepth 100000 in
noncomputable def zc_X7_full : List (Nat × Jvm.ClassFile.Instr × List Nat × List Int) := [(0, .iconst 0, [], []),
  (1, .istore_n 1, [], []),
  (2, .iconst 0, [], []),
  (3, .istore_n 2, [], []),
  (4, .iload_n 2, [], []),
  (5, .aload_n 0, [], []),
  (6, .getfield 9, [29, 8, 3], [20, 8, 0]),
  (9, .arraylength, [], []),
  (10, .if_icmp .ge 27, [23], []),
  (13, .iload_n 1, [], []),
  (14, .aload_n 0, [], []),
  (15, .getfield 9, [29, 8, 3], [20, 8, 0]),
  (18, .iload_n 2, [], []),
  (19, .iaload, [], []),
  (20, .iconst (-1), [], []),
  (21, .if_icmp .ne 7, [18], []),
  (24, .iconst 0, [], []),
  (25, .goto 4, [19], []),
  (28, .iconst 1, [], []),
  (29, .iadd, [], []),
  (30, .istore_n 1, [], []),
  (31, .iinc 2 1, [], []),
  (34, .goto (-30), [4], []),
  (37, .iload_n 1, [], []),
  (38, .ireturn, [1], [])]
set_option maxRecDepth 100000 in
noncomputable def zc_X7_putRow : List (Nat × Jvm.ClassFile.Instr × List Nat × List Int) := [(0, .iload_n 1, [], []),
  (1, .invokestatic 22, [90, 201, 1, 4], [0, 0]),
  (4, .ifCond .ne 4, [4], []),
  (7, .return_, [], []),
  (8, .aload_n 0, [], []),
  (9, .getfield 9, [29, 8, 3], [20, 8, 0]),
  (12, .iload_n 1, [], []),
  (13, .iload_n 2, [], []),
  (14, .iastore, [], []),
  (15, .aload_n 0, [], []),
  (16, .getfield 15, [30, 8, 3], [20, 8, 1]),
  (19, .iload_n 1, [], []),
  (20, .iload_n 3, [], []),
  (21, .iastore, [], []),
  (22, .iconst 0, [], []),
  (23, .istore 4, [], []),
  (25, .iload 4, [], []),
  (27, .bipush 40, [], []),
  (29, .if_icmp .ge 22, [30], []),
  (32, .aload_n 0, [], []),
  (33, .getfield 18, [31, 8, 3], [21, 320, 2]),
  (36, .iload_n 1, [], []),
  (37, .bipush 40, [], []),
  (39, .imul, [], []),
  (40, .iload 4, [], []),
  (42, .iadd, [], []),
  (43, .lconst 0, [], []),
  (44, .lastore, [], []),
  (45, .iinc 4 1, [], []),
  (48, .goto (-23), [16], []),
  (51, .return_, [], [])]
set_option maxRecDepth 100000 in
noncomputable def zc_X7_putShape : List (Nat × Jvm.ClassFile.Instr × List Nat × List Int) := [(0, .iload_n 1, [], []),
  (1, .invokestatic 22, [90, 201, 1, 4], [0, 0]),
  (4, .ifCond .eq 29, [20], []),
  (7, .aload_n 0, [], []),
  (8, .getfield 9, [29, 8, 3], [20, 8, 0]),
  (11, .iload_n 1, [], []),
  (12, .iload_n 2, [], []),
  (13, .iconst (-1), [], []),
  (14, .if_icmp .ne 7, [11], []),
  (17, .iconst (-1), [], []),
  (18, .goto 7, [14], []),
  (21, .bipush 10, [], []),
  (23, .iload_n 2, [], []),
  (24, .iadd, [], []),
  (25, .iastore, [], []),
  (26, .aload_n 0, [], []),
  (27, .getfield 15, [30, 8, 3], [20, 8, 1]),
  (30, .iload_n 1, [], []),
  (31, .iconst 0, [], []),
  (32, .iastore, [], []),
  (33, .return_, [], [])]
set_option maxRecDepth 100000 in
noncomputable def zc_X7_keepShapesBelow : List (Nat × Jvm.ClassFile.Instr × List Nat × List Int) := [(0, .iconst 0, [], []),
  (1, .istore_n 2, [], []),
  (2, .iload_n 2, [], []),
  (3, .aload_n 0, [], []),
  (4, .getfield 9, [29, 8, 3], [20, 8, 0]),
  (7, .arraylength, [], []),
  (8, .if_icmp .ge 29, [22], []),
  (11, .aload_n 0, [], []),
  (12, .getfield 9, [29, 8, 3], [20, 8, 0]),
  (15, .iload_n 2, [], []),
  (16, .iaload, [], []),
  (17, .bipush 10, [], []),
  (19, .iload_n 1, [], []),
  (20, .iadd, [], []),
  (21, .if_icmp .lt 10, [20], []),
  (24, .aload_n 0, [], []),
  (25, .getfield 9, [29, 8, 3], [20, 8, 0]),
  (28, .iload_n 2, [], []),
  (29, .iconst (-1), [], []),
  (30, .iastore, [], []),
  (31, .iinc 2 1, [], []),
  (34, .goto (-32), [2], []),
  (37, .return_, [], [])]
set_option maxRecDepth 100000 in
noncomputable def zc_X7_isElement : List (Nat × Jvm.ClassFile.Instr × List Nat × List Int) := [(0, .iload_n 1, [], []),
  (1, .invokestatic 22, [90, 201, 1, 4], [0, 0]),
  (4, .ifCond .eq 27, [16], []),
  (7, .iload_n 2, [], []),
  (8, .iconst 0, [], []),
  (9, .bipush 39, [], []),
  (11, .invokestatic 26, [91, 200, 3, 4], [0, 0]),
  (14, .ifCond .eq 17, [16], []),
  (17, .iload_n 2, [], []),
  (18, .aload_n 0, [], []),
  (19, .getfield 15, [30, 8, 3], [20, 8, 1]),
  (22, .iload_n 1, [], []),
  (23, .iaload, [], []),
  (24, .if_icmp .ge 7, [16], []),
  (27, .iconst 1, [], []),
  (28, .goto 4, [17], []),
  (31, .iconst 0, [], []),
  (32, .ireturn, [4], [])]
set_option maxRecDepth 100000 in
noncomputable def zc_X7_elementOf : List (Nat × Jvm.ClassFile.Instr × List Nat × List Int) := [(0, .aload_n 0, [], []),
  (1, .iload_n 1, [], []),
  (2, .iload_n 2, [], []),
  (3, .invokevirtual 30, [92, 87, 3, 4], [0, 0, 8]),
  (6, .ifCond .eq 17, [14], []),
  (9, .aload_n 0, [], []),
  (10, .getfield 18, [31, 8, 3], [21, 320, 2]),
  (13, .iload_n 1, [], []),
  (14, .bipush 40, [], []),
  (16, .imul, [], []),
  (17, .iload_n 2, [], []),
  (18, .iadd, [], []),
  (19, .laload, [], []),
  (20, .goto 4, [15], []),
  (23, .lconst 0, [], []),
  (24, .lreturn, [], [])]
set_option maxRecDepth 100000 in
noncomputable def zc_X7_putElement : List (Nat × Jvm.ClassFile.Instr × List Nat × List Int) := [(0, .aload_n 0, [], []),
  (1, .iload_n 1, [], []),
  (2, .iload_n 2, [], []),
  (3, .invokevirtual 30, [92, 87, 3, 4], [0, 0, 8]),
  (6, .ifCond .eq 24, [19], []),
  (9, .aload_n 0, [], []),
  (10, .getfield 18, [31, 8, 3], [21, 320, 2]),
  (13, .iload_n 1, [], []),
  (14, .bipush 40, [], []),
  (16, .imul, [], []),
  (17, .iload_n 2, [], []),
  (18, .iadd, [], []),
  (19, .aload_n 0, [], []),
  (20, .getfield 9, [29, 8, 3], [20, 8, 0]),
  (23, .iload_n 1, [], []),
  (24, .iaload, [], []),
  (25, .lload_n 3, [], []),
  (26, .invokestatic 34, [93, 90, 2, 2], [0, 0]),
  (29, .lastore, [], []),
  (30, .return_, [], [])]
set_option maxRecDepth 100000 in
noncomputable def zc_X7_narrowed : List (Nat × Jvm.ClassFile.Instr × List Nat × List Int) := [(0, .iload_n 0, [], []),
  (1, .tableswitch 61 0 4 #[35, 40, 45, 61, 49], [24, 2, 7, 12, 24, 16], []),
  (36, .lload_n 1, [], []),
  (37, .l2i, [], []),
  (38, .i2b, [], []),
  (39, .i2l, [], []),
  (40, .lreturn, [], []),
  (41, .lload_n 1, [], []),
  (42, .l2i, [], []),
  (43, .i2s, [], []),
  (44, .i2l, [], []),
  (45, .lreturn, [], []),
  (46, .lload_n 1, [], []),
  (47, .l2i, [], []),
  (48, .i2l, [], []),
  (49, .lreturn, [], []),
  (50, .lload_n 1, [], []),
  (51, .lconst 0, [], []),
  (52, .lcmp, [], []),
  (53, .ifCond .eq 7, [22], []),
  (56, .lconst 1, [], []),
  (57, .goto 4, [23], []),
  (60, .lconst 0, [], []),
  (61, .lreturn, [], []),
  (62, .lload_n 1, [], []),
  (63, .lreturn, [], [])]
set_option maxRecDepth 100000 in
noncomputable def zc_X7_moveElements : List (Nat × Jvm.ClassFile.Instr × List Nat × List Int) := [(0, .iload 5, [], []),
  (2, .ifCond .le 77, [46], []),
  (5, .aload_n 0, [], []),
  (6, .iload_n 1, [], []),
  (7, .iload_n 3, [], []),
  (8, .invokevirtual 30, [92, 87, 3, 4], [0, 0, 8]),
  (11, .ifCond .eq 68, [46], []),
  (14, .aload_n 0, [], []),
  (15, .iload_n 1, [], []),
  (16, .iload_n 3, [], []),
  (17, .iload 5, [], []),
  (19, .iadd, [], []),
  (20, .iconst 1, [], []),
  (21, .isub, [], []),
  (22, .invokevirtual 30, [92, 87, 3, 4], [0, 0, 8]),
  (25, .ifCond .eq 54, [46], []),
  (28, .aload_n 0, [], []),
  (29, .iload_n 2, [], []),
  (30, .iload 4, [], []),
  (32, .invokevirtual 30, [92, 87, 3, 4], [0, 0, 8]),
  (35, .ifCond .eq 44, [46], []),
  (38, .aload_n 0, [], []),
  (39, .iload_n 2, [], []),
  (40, .iload 4, [], []),
  (42, .iload 5, [], []),
  (44, .iadd, [], []),
  (45, .iconst 1, [], []),
  (46, .isub, [], []),
  (47, .invokevirtual 30, [92, 87, 3, 4], [0, 0, 8]),
  (50, .ifCond .eq 29, [46], []),
  (53, .aload_n 0, [], []),
  (54, .getfield 18, [31, 8, 3], [21, 320, 2]),
  (57, .iload_n 1, [], []),
  (58, .bipush 40, [], []),
  (60, .imul, [], []),
  (61, .iload_n 3, [], []),
  (62, .iadd, [], []),
  (63, .aload_n 0, [], []),
  (64, .getfield 18, [31, 8, 3], [21, 320, 2]),
  (67, .iload_n 2, [], []),
  (68, .bipush 40, [], []),
  (70, .imul, [], []),
  (71, .iload 4, [], []),
  (73, .iadd, [], []),
  (74, .iload 5, [], []),
  (76, .invokestatic 38, [9998], []),
  (79, .return_, [], [])]
set_option maxRecDepth 100000 in
noncomputable def zc_X8_init : List (Nat × Jvm.ClassFile.Instr × List Nat × List Int) := [(0, .aload_n 0, [], []),
  (1, .invokespecial 3, [9999], []),
  (4, .aload_n 0, [], []),
  (5, .bipush 48, [], []),
  (7, .newarray .int, [20], []),
  (9, .putfield 11, [32, 9, 3], [20, 48, 0]),
  (12, .aload_n 0, [], []),
  (13, .bipush 8, [], []),
  (15, .anewarray 15, [195, 30], []),
  (18, .putfield 17, [33, 9, 3], [30, 8, 1]),
  (21, .aload_n 0, [], []),
  (22, .bipush 8, [], []),
  (24, .anewarray 15, [195, 30], []),
  (27, .putfield 21, [34, 9, 3], [30, 8, 2]),
  (30, .iconst 0, [], []),
  (31, .istore_n 1, [], []),
  (32, .iload_n 1, [], []),
  (33, .bipush 8, [], []),
  (35, .if_icmp .ge 35, [35], []),
  (38, .aload_n 0, [], []),
  (39, .getfield 17, [33, 9, 3], [30, 8, 1]),
  (42, .iload_n 1, [], []),
  (43, .new 15, [195, 2, 2], []),
  (46, .dup, [], []),
  (47, .invokespecial 24, [94, 10, 1, 0], [0, 0, 2]),
  (50, .aastore, [], []),
  (51, .aload_n 0, [], []),
  (52, .getfield 21, [34, 9, 3], [30, 8, 2]),
  (55, .iload_n 1, [], []),
  (56, .new 15, [195, 2, 2], []),
  (59, .dup, [], []),
  (60, .invokespecial 24, [94, 10, 1, 0], [0, 0, 2]),
  (63, .aastore, [], []),
  (64, .iinc 1 1, [], []),
  (67, .goto (-35), [16], []),
  (70, .return_, [], [])]
set_option maxRecDepth 100000 in
noncomputable def zc_X8_putFrom : List (Nat × Jvm.ClassFile.Instr × List Nat × List Int) := [(0, .aload_n 0, [], []),
  (1, .getfield 11, [32, 9, 3], [20, 48, 0]),
  (4, .iconst 0, [], []),
  (5, .iload_n 1, [], []),
  (6, .iastore, [], []),
  (7, .aload_n 0, [], []),
  (8, .getfield 11, [32, 9, 3], [20, 48, 0]),
  (11, .iconst 1, [], []),
  (12, .iload_n 2, [], []),
  (13, .iastore, [], []),
  (14, .aload_n 0, [], []),
  (15, .getfield 11, [32, 9, 3], [20, 48, 0]),
  (18, .iconst 2, [], []),
  (19, .iload_n 3, [], []),
  (20, .iastore, [], []),
  (21, .return_, [], [])]
set_option maxRecDepth 100000 in
noncomputable def zc_X8_putTo : List (Nat × Jvm.ClassFile.Instr × List Nat × List Int) := [(0, .aload_n 0, [], []),
  (1, .getfield 11, [32, 9, 3], [20, 48, 0]),
  (4, .iconst 3, [], []),
  (5, .iload_n 1, [], []),
  (6, .iastore, [], []),
  (7, .aload_n 0, [], []),
  (8, .getfield 11, [32, 9, 3], [20, 48, 0]),
  (11, .iconst 4, [], []),
  (12, .iload_n 2, [], []),
  (13, .iastore, [], []),
  (14, .aload_n 0, [], []),
  (15, .getfield 11, [32, 9, 3], [20, 48, 0]),
  (18, .iconst 5, [], []),
  (19, .iload_n 3, [], []),
  (20, .iastore, [], []),
  (21, .return_, [], [])]
set_option maxRecDepth 100000 in
noncomputable def zc_X8_lowest : List (Nat × Jvm.ClassFile.Instr × List Nat × List Int) := [(0, .aload_n 0, [], []),
  (1, .getfield 17, [33, 9, 3], [30, 8, 1]),
  (4, .iconst 0, [], []),
  (5, .aaload, [], []),
  (6, .areturn, [], [2, 2])]
set_option maxRecDepth 100000 in
noncomputable def zc_X8_highest : List (Nat × Jvm.ClassFile.Instr × List Nat × List Int) := [(0, .aload_n 0, [], []),
  (1, .getfield 21, [34, 9, 3], [30, 8, 2]),
  (4, .iconst 0, [], []),
  (5, .aaload, [], []),
  (6, .areturn, [], [2, 2])]
set_option maxRecDepth 100000 in
noncomputable def zc_X8_findFor : List (Nat × Jvm.ClassFile.Instr × List Nat × List Int) := [(0, .aload_n 0, [], []),
  (1, .aload_n 1, [], []),
  (2, .iload_n 2, [], []),
  (3, .iconst 0, [], []),
  (4, .iconst 0, [], []),
  (5, .invokevirtual 25, [95, 98, 5, 0], [0, 0, 9]),
  (8, .return_, [], [])]
set_option maxRecDepth 100000 in
noncomputable def zc_X8_find : List (Nat × Jvm.ClassFile.Instr × List Nat × List Int) := [(0, .iload_n 3, [], []),
  (1, .ifCond .lt 16, [8], []),
  (4, .iload_n 3, [], []),
  (5, .iload 4, [], []),
  (7, .if_icmp .gt 10, [8], []),
  (10, .iload 4, [], []),
  (12, .bipush 7, [], []),
  (14, .if_icmp .lt 4, [9], []),
  (17, .return_, [], []),
  (18, .aload_n 1, [], []),
  (19, .iload_n 2, [], []),
  (20, .invokevirtual 29, [96, 112, 2, 1], [0, 0, 10]),
  (23, .tableswitch 106 3 11 #[49, 64, 79, 106, 106, 94, 94, 94, 94], [47, 13, 22, 31, 47, 47, 40, 40, 40, 40], []),
  (72, .aload_n 0, [], []),
  (73, .aload_n 1, [], []),
  (74, .iload_n 2, [], []),
  (75, .iload_n 3, [], []),
  (76, .bipush 6, [], []),
  (78, .imul, [], []),
  (79, .iload 4, [], []),
  (81, .invokevirtual 35, [97, 99, 5, 0], [0, 0, 9]),
  (84, .goto 54, [53], []),
  (87, .aload_n 0, [], []),
  (88, .aload_n 1, [], []),
  (89, .iload_n 2, [], []),
  (90, .iload_n 3, [], []),
  (91, .bipush 6, [], []),
  (93, .imul, [], []),
  (94, .iload 4, [], []),
  (96, .invokevirtual 38, [98, 100, 5, 0], [0, 0, 9]),
  (99, .goto 39, [53], []),
  (102, .aload_n 0, [], []),
  (103, .aload_n 1, [], []),
  (104, .iload_n 2, [], []),
  (105, .iload_n 3, [], []),
  (106, .bipush 6, [], []),
  (108, .imul, [], []),
  (109, .iload 4, [], []),
  (111, .invokevirtual 41, [99, 101, 5, 0], [0, 0, 9]),
  (114, .goto 24, [53], []),
  (117, .aload_n 0, [], []),
  (118, .aload_n 1, [], []),
  (119, .iload_n 2, [], []),
  (120, .iload_n 3, [], []),
  (121, .iload 4, [], []),
  (123, .invokevirtual 44, [100, 102, 5, 0], [0, 0, 9]),
  (126, .goto 12, [53], []),
  (129, .aload_n 0, [], []),
  (130, .aload_n 1, [], []),
  (131, .iload_n 2, [], []),
  (132, .iload_n 3, [], []),
  (133, .iload 4, [], []),
  (135, .invokevirtual 47, [101, 103, 5, 0], [0, 0, 9]),
  (138, .return_, [], [])]
set_option maxRecDepth 100000 in
noncomputable def zc_X8_ofBall : List (Nat × Jvm.ClassFile.Instr × List Nat × List Int) := [(0, .aload_n 1, [], []),
  (1, .iload_n 2, [], []),
  (2, .iconst 3, [], []),
  (3, .invokevirtual 50, [102, 118, 3, 1], [0, 0, 10]),
  (6, .istore 5, [], []),
  (8, .iload 5, [], []),
  (10, .ineg, [], []),
  (11, .iload 5, [], []),
  (13, .imul, [], []),
  (14, .i2l, [], []),
  (15, .lstore 6, [], []),
  (17, .lload 6, [], []),
  (19, .lstore 8, [], []),
  (21, .iconst 0, [], []),
  (22, .istore 10, [], []),
  (24, .iload 10, [], []),
  (26, .iconst 3, [], []),
  (27, .if_icmp .ge 101, [74], []),
  (30, .aload_n 0, [], []),
  (31, .getfield 11, [32, 9, 3], [20, 48, 0]),
  (34, .iload_n 3, [], []),
  (35, .iload 10, [], []),
  (37, .iadd, [], []),
  (38, .iaload, [], []),
  (39, .aload_n 1, [], []),
  (40, .iload_n 2, [], []),
  (41, .iload 10, [], []),
  (43, .invokevirtual 50, [102, 118, 3, 1], [0, 0, 10]),
  (46, .isub, [], []),
  (47, .istore 11, [], []),
  (49, .aload_n 0, [], []),
  (50, .getfield 11, [32, 9, 3], [20, 48, 0]),
  (53, .iload_n 3, [], []),
  (54, .iconst 3, [], []),
  (55, .iadd, [], []),
  (56, .iload 10, [], []),
  (58, .iadd, [], []),
  (59, .iaload, [], []),
  (60, .aload_n 1, [], []),
  (61, .iload_n 2, [], []),
  (62, .iload 10, [], []),
  (64, .invokevirtual 50, [102, 118, 3, 1], [0, 0, 10]),
  (67, .isub, [], []),
  (68, .istore 12, [], []),
  (70, .lload 6, [], []),
  (72, .iload 11, [], []),
  (74, .ifCond .gt 12, [51], []),
  (77, .iload 12, [], []),
  (79, .ifCond .lt 7, [51], []),
  (82, .lconst 0, [], []),
  (83, .goto 17, [59], []),
  (86, .iload 11, [], []),
  (88, .iload 11, [], []),
  (90, .imul, [], []),
  (91, .iload 12, [], []),
  (93, .iload 12, [], []),
  (95, .imul, [], []),
  (96, .invokestatic 54, [103, 343, 2, 1], [0, 0]),
  (99, .i2l, [], []),
  (100, .ladd, [], []),
  (101, .lstore 6, [], []),
  (103, .lload 8, [], []),
  (105, .iload 11, [], []),
  (107, .iload 11, [], []),
  (109, .imul, [], []),
  (110, .iload 12, [], []),
  (112, .iload 12, [], []),
  (114, .imul, [], []),
  (115, .invokestatic 59, [104, 341, 2, 1], [0, 0]),
  (118, .i2l, [], []),
  (119, .ladd, [], []),
  (120, .lstore 8, [], []),
  (122, .iinc 10 1, [], []),
  (125, .goto (-101), [15], []),
  (128, .aload_n 0, [], []),
  (129, .getfield 17, [33, 9, 3], [30, 8, 1]),
  (132, .iload 4, [], []),
  (134, .aaload, [], []),
  (135, .lload 6, [], []),
  (137, .invokevirtual 62, [105, 16, 2, 0], [0, 0, 2]),
  (140, .aload_n 0, [], []),
  (141, .getfield 21, [34, 9, 3], [30, 8, 2]),
  (144, .iload 4, [], []),
  (146, .aaload, [], []),
  (147, .lload 8, [], []),
  (149, .invokevirtual 62, [105, 16, 2, 0], [0, 0, 2]),
  (152, .return_, [], [])]
set_option maxRecDepth 100000 in
noncomputable def zc_X8_ofBox : List (Nat × Jvm.ClassFile.Instr × List Nat × List Int) := [(0, .ldc 66, [584, 0], [(-1000000000)]),
  (2, .istore 5, [], []),
  (4, .ldc 66, [584, 0], [(-1000000000)]),
  (6, .istore 6, [], []),
  (8, .iconst 0, [], []),
  (9, .istore 7, [], []),
  (11, .iload 7, [], []),
  (13, .iconst 3, [], []),
  (14, .if_icmp .ge 93, [59], []),
  (17, .aload_n 0, [], []),
  (18, .getfield 11, [32, 9, 3], [20, 48, 0]),
  (21, .iload_n 3, [], []),
  (22, .iload 7, [], []),
  (24, .iadd, [], []),
  (25, .iaload, [], []),
  (26, .istore 8, [], []),
  (28, .aload_n 0, [], []),
  (29, .getfield 11, [32, 9, 3], [20, 48, 0]),
  (32, .iload_n 3, [], []),
  (33, .iconst 3, [], []),
  (34, .iadd, [], []),
  (35, .iload 7, [], []),
  (37, .iadd, [], []),
  (38, .iaload, [], []),
  (39, .istore 9, [], []),
  (41, .aload_n 1, [], []),
  (42, .iload_n 2, [], []),
  (43, .iload 7, [], []),
  (45, .invokevirtual 50, [102, 118, 3, 1], [0, 0, 10]),
  (48, .istore 10, [], []),
  (50, .aload_n 1, [], []),
  (51, .iload_n 2, [], []),
  (52, .iconst 3, [], []),
  (53, .iload 7, [], []),
  (55, .iadd, [], []),
  (56, .invokevirtual 50, [102, 118, 3, 1], [0, 0, 10]),
  (59, .istore 11, [], []),
  (61, .iload 5, [], []),
  (63, .iload 10, [], []),
  (65, .iload 9, [], []),
  (67, .isub, [], []),
  (68, .iload 8, [], []),
  (70, .iload 11, [], []),
  (72, .isub, [], []),
  (73, .invokestatic 59, [104, 341, 2, 1], [0, 0]),
  (76, .invokestatic 59, [104, 341, 2, 1], [0, 0]),
  (79, .istore 5, [], []),
  (81, .iload 6, [], []),
  (83, .iload 10, [], []),
  (85, .iload 8, [], []),
  (87, .isub, [], []),
  (88, .iload 9, [], []),
  (90, .iload 11, [], []),
  (92, .isub, [], []),
  (93, .invokestatic 59, [104, 341, 2, 1], [0, 0]),
  (96, .invokestatic 59, [104, 341, 2, 1], [0, 0]),
  (99, .istore 6, [], []),
  (101, .iinc 7 1, [], []),
  (104, .goto (-93), [6], []),
  (107, .aload_n 0, [], []),
  (108, .getfield 17, [33, 9, 3], [30, 8, 1]),
  (111, .iload 4, [], []),
  (113, .aaload, [], []),
  (114, .iload 5, [], []),
  (116, .i2l, [], []),
  (117, .invokevirtual 62, [105, 16, 2, 0], [0, 0, 2]),
  (120, .aload_n 0, [], []),
  (121, .getfield 21, [34, 9, 3], [30, 8, 2]),
  (124, .iload 4, [], []),
  (126, .aaload, [], []),
  (127, .iload 6, [], []),
  (129, .i2l, [], []),
  (130, .invokevirtual 62, [105, 16, 2, 0], [0, 0, 2]),
  (133, .return_, [], [])]
set_option maxRecDepth 100000 in
noncomputable def zc_X8_ofHalf : List (Nat × Jvm.ClassFile.Instr × List Nat × List Int) := [(0, .aload_n 1, [], []),
  (1, .iload_n 2, [], []),
  (2, .iconst 3, [], []),
  (3, .invokevirtual 50, [102, 118, 3, 1], [0, 0, 10]),
  (6, .ineg, [], []),
  (7, .i2l, [], []),
  (8, .lstore 5, [], []),
  (10, .lload 5, [], []),
  (12, .lstore 7, [], []),
  (14, .iconst 0, [], []),
  (15, .istore 9, [], []),
  (17, .iload 9, [], []),
  (19, .iconst 3, [], []),
  (20, .if_icmp .ge 75, [56], []),
  (23, .aload_n 0, [], []),
  (24, .getfield 11, [32, 9, 3], [20, 48, 0]),
  (27, .iload_n 3, [], []),
  (28, .iload 9, [], []),
  (30, .iadd, [], []),
  (31, .iaload, [], []),
  (32, .aload_n 1, [], []),
  (33, .iload_n 2, [], []),
  (34, .iload 9, [], []),
  (36, .invokevirtual 50, [102, 118, 3, 1], [0, 0, 10]),
  (39, .imul, [], []),
  (40, .istore 10, [], []),
  (42, .aload_n 0, [], []),
  (43, .getfield 11, [32, 9, 3], [20, 48, 0]),
  (46, .iload_n 3, [], []),
  (47, .iconst 3, [], []),
  (48, .iadd, [], []),
  (49, .iload 9, [], []),
  (51, .iadd, [], []),
  (52, .iaload, [], []),
  (53, .aload_n 1, [], []),
  (54, .iload_n 2, [], []),
  (55, .iload 9, [], []),
  (57, .invokevirtual 50, [102, 118, 3, 1], [0, 0, 10]),
  (60, .imul, [], []),
  (61, .istore 11, [], []),
  (63, .lload 5, [], []),
  (65, .iload 10, [], []),
  (67, .iload 11, [], []),
  (69, .invokestatic 54, [103, 343, 2, 1], [0, 0]),
  (72, .i2l, [], []),
  (73, .ladd, [], []),
  (74, .lstore 5, [], []),
  (76, .lload 7, [], []),
  (78, .iload 10, [], []),
  (80, .iload 11, [], []),
  (82, .invokestatic 59, [104, 341, 2, 1], [0, 0]),
  (85, .i2l, [], []),
  (86, .ladd, [], []),
  (87, .lstore 7, [], []),
  (89, .iinc 9 1, [], []),
  (92, .goto (-75), [11], []),
  (95, .aload_n 0, [], []),
  (96, .getfield 17, [33, 9, 3], [30, 8, 1]),
  (99, .iload 4, [], []),
  (101, .aaload, [], []),
  (102, .lload 5, [], []),
  (104, .invokevirtual 62, [105, 16, 2, 0], [0, 0, 2]),
  (107, .aload_n 0, [], []),
  (108, .getfield 21, [34, 9, 3], [30, 8, 2]),
  (111, .iload 4, [], []),
  (113, .aaload, [], []),
  (114, .lload 7, [], []),
  (116, .invokevirtual 62, [105, 16, 2, 0], [0, 0, 2]),
  (119, .return_, [], [])]
set_option maxRecDepth 100000 in
noncomputable def zc_X8_ofPair : List (Nat × Jvm.ClassFile.Instr × List Nat × List Int) := [(0, .aload_n 1, [], []),
  (1, .iload_n 2, [], []),
  (2, .invokevirtual 67, [106, 113, 2, 1], [0, 0, 10]),
  (5, .istore 5, [], []),
  (7, .aload_n 1, [], []),
  (8, .iload_n 2, [], []),
  (9, .invokevirtual 70, [107, 114, 2, 1], [0, 0, 10]),
  (12, .istore 6, [], []),
  (14, .aload_n 0, [], []),
  (15, .aload_n 1, [], []),
  (16, .iload 5, [], []),
  (18, .iload_n 3, [], []),
  (19, .iload 4, [], []),
  (21, .iconst 1, [], []),
  (22, .iadd, [], []),
  (23, .invokevirtual 25, [95, 98, 5, 0], [0, 0, 9]),
  (26, .aload_n 0, [], []),
  (27, .getfield 17, [33, 9, 3], [30, 8, 1]),
  (30, .iload 4, [], []),
  (32, .aaload, [], []),
  (33, .aload_n 0, [], []),
  (34, .getfield 17, [33, 9, 3], [30, 8, 1]),
  (37, .iload 4, [], []),
  (39, .iconst 1, [], []),
  (40, .iadd, [], []),
  (41, .aaload, [], []),
  (42, .invokevirtual 73, [108, 18, 2, 0], [0, 0, 2]),
  (45, .aload_n 0, [], []),
  (46, .getfield 21, [34, 9, 3], [30, 8, 2]),
  (49, .iload 4, [], []),
  (51, .aaload, [], []),
  (52, .aload_n 0, [], []),
  (53, .getfield 21, [34, 9, 3], [30, 8, 2]),
  (56, .iload 4, [], []),
  (58, .iconst 1, [], []),
  (59, .iadd, [], []),
  (60, .aaload, [], []),
  (61, .invokevirtual 73, [108, 18, 2, 0], [0, 0, 2]),
  (64, .iload 6, [], []),
  (66, .iload 5, [], []),
  (68, .if_icmp .eq 15, [49], []),
  (71, .aload_n 0, [], []),
  (72, .aload_n 1, [], []),
  (73, .iload 6, [], []),
  (75, .iload_n 3, [], []),
  (76, .iload 4, [], []),
  (78, .iconst 1, [], []),
  (79, .iadd, [], []),
  (80, .invokevirtual 25, [95, 98, 5, 0], [0, 0, 9]),
  (83, .aload_n 0, [], []),
  (84, .getfield 17, [33, 9, 3], [30, 8, 1]),
  (87, .iload 4, [], []),
  (89, .iconst 1, [], []),
  (90, .iadd, [], []),
  (91, .aaload, [], []),
  (92, .astore 7, [], []),
  (94, .aload_n 0, [], []),
  (95, .getfield 21, [34, 9, 3], [30, 8, 2]),
  (98, .iload 4, [], []),
  (100, .iconst 1, [], []),
  (101, .iadd, [], []),
  (102, .aaload, [], []),
  (103, .astore 8, [], []),
  (105, .aload_n 1, [], []),
  (106, .iload_n 2, [], []),
  (107, .invokevirtual 29, [96, 112, 2, 1], [0, 0, 10]),
  (110, .tableswitch 117 8 10 #[26, 53, 80], [110, 67, 80, 93], []),
  (136, .aload_n 0, [], []),
  (137, .getfield 17, [33, 9, 3], [30, 8, 1]),
  (140, .iload 4, [], []),
  (142, .aaload, [], []),
  (143, .aload 7, [], []),
  (145, .invokevirtual 77, [109, 19, 2, 0], [0, 0, 2]),
  (148, .aload_n 0, [], []),
  (149, .getfield 21, [34, 9, 3], [30, 8, 2]),
  (152, .iload 4, [], []),
  (154, .aaload, [], []),
  (155, .aload 8, [], []),
  (157, .invokevirtual 77, [109, 19, 2, 0], [0, 0, 2]),
  (160, .goto 115, [138], []),
  (163, .aload_n 0, [], []),
  (164, .getfield 17, [33, 9, 3], [30, 8, 1]),
  (167, .iload 4, [], []),
  (169, .aaload, [], []),
  (170, .aload 7, [], []),
  (172, .invokevirtual 80, [110, 20, 2, 0], [0, 0, 2]),
  (175, .aload_n 0, [], []),
  (176, .getfield 21, [34, 9, 3], [30, 8, 2]),
  (179, .iload 4, [], []),
  (181, .aaload, [], []),
  (182, .aload 8, [], []),
  (184, .invokevirtual 80, [110, 20, 2, 0], [0, 0, 2]),
  (187, .goto 88, [138], []),
  (190, .aload 7, [], []),
  (192, .invokevirtual 83, [111, 22, 1, 0], [0, 0, 2]),
  (195, .aload 8, [], []),
  (197, .invokevirtual 83, [111, 22, 1, 0], [0, 0, 2]),
  (200, .aload_n 0, [], []),
  (201, .getfield 17, [33, 9, 3], [30, 8, 1]),
  (204, .iload 4, [], []),
  (206, .aaload, [], []),
  (207, .aload 8, [], []),
  (209, .invokevirtual 80, [110, 20, 2, 0], [0, 0, 2]),
  (212, .aload_n 0, [], []),
  (213, .getfield 21, [34, 9, 3], [30, 8, 2]),
  (216, .iload 4, [], []),
  (218, .aaload, [], []),
  (219, .aload 7, [], []),
  (221, .invokevirtual 80, [110, 20, 2, 0], [0, 0, 2]),
  (224, .goto 51, [138], []),
  (227, .aload_n 0, [], []),
  (228, .getfield 17, [33, 9, 3], [30, 8, 1]),
  (231, .iload 4, [], []),
  (233, .aaload, [], []),
  (234, .aload 7, [], []),
  (236, .aload_n 1, [], []),
  (237, .iload_n 2, [], []),
  (238, .iconst 0, [], []),
  (239, .invokevirtual 50, [102, 118, 3, 1], [0, 0, 10]),
  (242, .aload_n 1, [], []),
  (243, .iload_n 2, [], []),
  (244, .iconst 1, [], []),
  (245, .invokevirtual 50, [102, 118, 3, 1], [0, 0, 10]),
  (248, .invokevirtual 86, [112, 25, 4, 0], [0, 0, 2]),
  (251, .aload_n 0, [], []),
  (252, .getfield 21, [34, 9, 3], [30, 8, 2]),
  (255, .iload 4, [], []),
  (257, .aaload, [], []),
  (258, .aload 8, [], []),
  (260, .aload_n 1, [], []),
  (261, .iload_n 2, [], []),
  (262, .iconst 0, [], []),
  (263, .invokevirtual 50, [102, 118, 3, 1], [0, 0, 10]),
  (266, .aload_n 1, [], []),
  (267, .iload_n 2, [], []),
  (268, .iconst 1, [], []),
  (269, .invokevirtual 50, [102, 118, 3, 1], [0, 0, 10]),
  (272, .invokevirtual 86, [112, 25, 4, 0], [0, 0, 2]),
  (275, .return_, [], [])]
set_option maxRecDepth 100000 in
noncomputable def zc_X8_ofChange : List (Nat × Jvm.ClassFile.Instr × List Nat × List Int) := [(0, .aload_n 1, [], []),
  (1, .iload_n 2, [], []),
  (2, .invokevirtual 29, [96, 112, 2, 1], [0, 0, 10]),
  (5, .istore 5, [], []),
  (7, .iload 5, [], []),
  (9, .bipush 16, [], []),
  (11, .if_icmp .eq 76, [52], []),
  (14, .iload 5, [], []),
  (16, .bipush 17, [], []),
  (18, .if_icmp .eq 69, [52], []),
  (21, .aload_n 0, [], []),
  (22, .aload_n 1, [], []),
  (23, .iload_n 2, [], []),
  (24, .iload_n 3, [], []),
  (25, .bipush 6, [], []),
  (27, .imul, [], []),
  (28, .invokevirtual 90, [113, 105, 4, 0], [0, 0, 9]),
  (31, .aload_n 0, [], []),
  (32, .aload_n 1, [], []),
  (33, .aload_n 1, [], []),
  (34, .iload_n 2, [], []),
  (35, .invokevirtual 67, [106, 113, 2, 1], [0, 0, 10]),
  (38, .iload_n 3, [], []),
  (39, .iconst 1, [], []),
  (40, .iadd, [], []),
  (41, .iload 4, [], []),
  (43, .iconst 1, [], []),
  (44, .iadd, [], []),
  (45, .invokevirtual 25, [95, 98, 5, 0], [0, 0, 9]),
  (48, .aload_n 0, [], []),
  (49, .getfield 17, [33, 9, 3], [30, 8, 1]),
  (52, .iload 4, [], []),
  (54, .aaload, [], []),
  (55, .aload_n 0, [], []),
  (56, .getfield 17, [33, 9, 3], [30, 8, 1]),
  (59, .iload 4, [], []),
  (61, .iconst 1, [], []),
  (62, .iadd, [], []),
  (63, .aaload, [], []),
  (64, .invokevirtual 73, [108, 18, 2, 0], [0, 0, 2]),
  (67, .aload_n 0, [], []),
  (68, .getfield 21, [34, 9, 3], [30, 8, 2]),
  (71, .iload 4, [], []),
  (73, .aaload, [], []),
  (74, .aload_n 0, [], []),
  (75, .getfield 21, [34, 9, 3], [30, 8, 2]),
  (78, .iload 4, [], []),
  (80, .iconst 1, [], []),
  (81, .iadd, [], []),
  (82, .aaload, [], []),
  (83, .invokevirtual 73, [108, 18, 2, 0], [0, 0, 2]),
  (86, .return_, [], []),
  (87, .aload_n 0, [], []),
  (88, .aload_n 1, [], []),
  (89, .aload_n 1, [], []),
  (90, .iload_n 2, [], []),
  (91, .invokevirtual 67, [106, 113, 2, 1], [0, 0, 10]),
  (94, .iload_n 3, [], []),
  (95, .iload 4, [], []),
  (97, .iconst 1, [], []),
  (98, .iadd, [], []),
  (99, .invokevirtual 25, [95, 98, 5, 0], [0, 0, 9]),
  (102, .aload_n 0, [], []),
  (103, .getfield 17, [33, 9, 3], [30, 8, 1]),
  (106, .iload 4, [], []),
  (108, .aaload, [], []),
  (109, .aload_n 0, [], []),
  (110, .getfield 17, [33, 9, 3], [30, 8, 1]),
  (113, .iload 4, [], []),
  (115, .iconst 1, [], []),
  (116, .iadd, [], []),
  (117, .aaload, [], []),
  (118, .invokevirtual 73, [108, 18, 2, 0], [0, 0, 2]),
  (121, .aload_n 0, [], []),
  (122, .getfield 21, [34, 9, 3], [30, 8, 2]),
  (125, .iload 4, [], []),
  (127, .aaload, [], []),
  (128, .aload_n 0, [], []),
  (129, .getfield 21, [34, 9, 3], [30, 8, 2]),
  (132, .iload 4, [], []),
  (134, .iconst 1, [], []),
  (135, .iadd, [], []),
  (136, .aaload, [], []),
  (137, .invokevirtual 73, [108, 18, 2, 0], [0, 0, 2]),
  (140, .iload 5, [], []),
  (142, .bipush 17, [], []),
  (144, .if_icmp .ne 20, [96], []),
  (147, .aload_n 0, [], []),
  (148, .getfield 17, [33, 9, 3], [30, 8, 1]),
  (151, .iload 4, [], []),
  (153, .aaload, [], []),
  (154, .aload_n 0, [], []),
  (155, .getfield 21, [34, 9, 3], [30, 8, 2]),
  (158, .iload 4, [], []),
  (160, .aaload, [], []),
  (161, .invokestatic 94, [114, 104, 2, 0], [0, 0]),
  (164, .aload_n 0, [], []),
  (165, .getfield 17, [33, 9, 3], [30, 8, 1]),
  (168, .iload 4, [], []),
  (170, .aaload, [], []),
  (171, .aload_n 1, [], []),
  (172, .iload_n 2, [], []),
  (173, .iconst 0, [], []),
  (174, .invokevirtual 50, [102, 118, 3, 1], [0, 0, 10]),
  (177, .aload_n 1, [], []),
  (178, .iload_n 2, [], []),
  (179, .iconst 1, [], []),
  (180, .invokevirtual 50, [102, 118, 3, 1], [0, 0, 10]),
  (183, .invokevirtual 98, [115, 24, 3, 0], [0, 0, 2]),
  (186, .aload_n 0, [], []),
  (187, .getfield 21, [34, 9, 3], [30, 8, 2]),
  (190, .iload 4, [], []),
  (192, .aaload, [], []),
  (193, .aload_n 1, [], []),
  (194, .iload_n 2, [], []),
  (195, .iconst 0, [], []),
  (196, .invokevirtual 50, [102, 118, 3, 1], [0, 0, 10]),
  (199, .aload_n 1, [], []),
  (200, .iload_n 2, [], []),
  (201, .iconst 1, [], []),
  (202, .invokevirtual 50, [102, 118, 3, 1], [0, 0, 10]),
  (205, .invokevirtual 98, [115, 24, 3, 0], [0, 0, 2]),
  (208, .return_, [], [])]
set_option maxRecDepth 100000 in
noncomputable def zc_X8_becomeAmounts : List (Nat × Jvm.ClassFile.Instr × List Nat × List Int) := [(0, .aload_n 0, [], []),
  (1, .invokevirtual 102, [116, 13, 1, 4], [0, 0, 2]),
  (4, .ifCond .ne 14, [8], []),
  (7, .aload_n 1, [], []),
  (8, .invokevirtual 106, [117, 14, 1, 4], [0, 0, 2]),
  (11, .ifCond .ne 7, [8], []),
  (14, .iconst 1, [], []),
  (15, .goto 4, [9], []),
  (18, .iconst 0, [], []),
  (19, .istore_n 2, [], []),
  (20, .aload_n 0, [], []),
  (21, .invokevirtual 109, [118, 23, 1, 0], [0, 0, 2]),
  (24, .aload_n 1, [], []),
  (25, .invokevirtual 109, [118, 23, 1, 0], [0, 0, 2]),
  (28, .aload_n 0, [], []),
  (29, .aload_n 1, [], []),
  (30, .invokevirtual 112, [119, 15, 2, 4], [0, 0, 2]),
  (33, .ifCond .eq 8, [21], []),
  (36, .aload_n 0, [], []),
  (37, .aload_n 1, [], []),
  (38, .invokevirtual 116, [120, 21, 2, 0], [0, 0, 2]),
  (41, .iload_n 2, [], []),
  (42, .ifCond .eq 8, [26], []),
  (45, .aload_n 0, [], []),
  (46, .lconst 0, [], []),
  (47, .invokevirtual 62, [105, 16, 2, 0], [0, 0, 2]),
  (50, .return_, [], [])]
set_option maxRecDepth 100000 in
noncomputable def zc_X8_move : List (Nat × Jvm.ClassFile.Instr × List Nat × List Int) := [(0, .iload_n 3, [], []),
  (1, .bipush 6, [], []),
  (3, .iadd, [], []),
  (4, .istore 4, [], []),
  (6, .aload_n 1, [], []),
  (7, .iload_n 2, [], []),
  (8, .invokevirtual 29, [96, 112, 2, 1], [0, 0, 10]),
  (11, .istore 5, [], []),
  (13, .iconst 0, [], []),
  (14, .istore 6, [], []),
  (16, .iload 6, [], []),
  (18, .iconst 3, [], []),
  (19, .if_icmp .ge 77, [57], []),
  (22, .iload 5, [], []),
  (24, .bipush 12, [], []),
  (26, .if_icmp .ne 13, [21], []),
  (29, .aload_n 1, [], []),
  (30, .iload_n 2, [], []),
  (31, .iload 6, [], []),
  (33, .invokevirtual 50, [102, 118, 3, 1], [0, 0, 10]),
  (36, .goto 4, [22], []),
  (39, .iconst 0, [], []),
  (40, .istore 7, [], []),
  (42, .aload_n 0, [], []),
  (43, .getfield 11, [32, 9, 3], [20, 48, 0]),
  (46, .iload 4, [], []),
  (48, .iload 6, [], []),
  (50, .iadd, [], []),
  (51, .aload_n 0, [], []),
  (52, .getfield 11, [32, 9, 3], [20, 48, 0]),
  (55, .iload_n 3, [], []),
  (56, .iload 6, [], []),
  (58, .iadd, [], []),
  (59, .iaload, [], []),
  (60, .iload 7, [], []),
  (62, .isub, [], []),
  (63, .iastore, [], []),
  (64, .aload_n 0, [], []),
  (65, .getfield 11, [32, 9, 3], [20, 48, 0]),
  (68, .iload 4, [], []),
  (70, .iconst 3, [], []),
  (71, .iadd, [], []),
  (72, .iload 6, [], []),
  (74, .iadd, [], []),
  (75, .aload_n 0, [], []),
  (76, .getfield 11, [32, 9, 3], [20, 48, 0]),
  (79, .iload_n 3, [], []),
  (80, .iconst 3, [], []),
  (81, .iadd, [], []),
  (82, .iload 6, [], []),
  (84, .iadd, [], []),
  (85, .iaload, [], []),
  (86, .iload 7, [], []),
  (88, .isub, [], []),
  (89, .iastore, [], []),
  (90, .iinc 6 1, [], []),
  (93, .goto (-77), [10], []),
  (96, .aload_n 1, [], []),
  (97, .iload_n 2, [], []),
  (98, .iconst 0, [], []),
  (99, .invokevirtual 50, [102, 118, 3, 1], [0, 0, 10]),
  (102, .istore 6, [], []),
  (104, .aload_n 1, [], []),
  (105, .iload_n 2, [], []),
  (106, .iconst 1, [], []),
  (107, .invokevirtual 50, [102, 118, 3, 1], [0, 0, 10]),
  (110, .istore 7, [], []),
  (112, .iload 5, [], []),
  (114, .bipush 13, [], []),
  (116, .if_icmp .ne 25, [80], []),
  (119, .iload 6, [], []),
  (121, .invokestatic 119, [121, 203, 1, 4], [0, 0]),
  (124, .ifCond .eq 17, [80], []),
  (127, .aload_n 0, [], []),
  (128, .iload 4, [], []),
  (130, .iload 6, [], []),
  (132, .iadd, [], []),
  (133, .iload 7, [], []),
  (135, .invokevirtual 123, [122, 106, 3, 0], [0, 0, 9]),
  (138, .goto 87, [122], []),
  (141, .iload 5, [], []),
  (143, .bipush 14, [], []),
  (145, .if_icmp .ne 25, [93], []),
  (148, .iload 6, [], []),
  (150, .invokestatic 119, [121, 203, 1, 4], [0, 0]),
  (153, .ifCond .eq 17, [93], []),
  (156, .aload_n 0, [], []),
  (157, .iload 4, [], []),
  (159, .iload 6, [], []),
  (161, .iadd, [], []),
  (162, .iload 7, [], []),
  (164, .invokevirtual 126, [123, 107, 3, 0], [0, 0, 9]),
  (167, .goto 58, [122], []),
  (170, .iload 5, [], []),
  (172, .bipush 15, [], []),
  (174, .if_icmp .ne 51, [122], []),
  (177, .iload 6, [], []),
  (179, .invokestatic 119, [121, 203, 1, 4], [0, 0]),
  (182, .ifCond .eq 43, [122], []),
  (185, .iload 7, [], []),
  (187, .invokestatic 119, [121, 203, 1, 4], [0, 0]),
  (190, .ifCond .eq 35, [122], []),
  (193, .aload_n 0, [], []),
  (194, .iload 4, [], []),
  (196, .iload 6, [], []),
  (198, .iadd, [], []),
  (199, .iload 4, [], []),
  (201, .iload 7, [], []),
  (203, .iadd, [], []),
  (204, .invokevirtual 129, [124, 108, 3, 0], [0, 0, 9]),
  (207, .aload_n 0, [], []),
  (208, .iload 4, [], []),
  (210, .iconst 3, [], []),
  (211, .iadd, [], []),
  (212, .iload 6, [], []),
  (214, .iadd, [], []),
  (215, .iload 4, [], []),
  (217, .iconst 3, [], []),
  (218, .iadd, [], []),
  (219, .iload 7, [], []),
  (221, .iadd, [], []),
  (222, .invokevirtual 129, [124, 108, 3, 0], [0, 0, 9]),
  (225, .return_, [], [])]
set_option maxRecDepth 100000 in
noncomputable def zc_X8_repeat : List (Nat × Jvm.ClassFile.Instr × List Nat × List Int) := [(0, .iload_n 2, [], []),
  (1, .iconst 1, [], []),
  (2, .if_icmp .ge 4, [4], []),
  (5, .return_, [], []),
  (6, .aload_n 0, [], []),
  (7, .getfield 11, [32, 9, 3], [20, 48, 0]),
  (10, .iload_n 1, [], []),
  (11, .iaload, [], []),
  (12, .iload_n 2, [], []),
  (13, .invokestatic 132, [125, 339, 2, 1], [0, 0]),
  (16, .istore_n 3, [], []),
  (17, .aload_n 0, [], []),
  (18, .getfield 11, [32, 9, 3], [20, 48, 0]),
  (21, .iload_n 1, [], []),
  (22, .iconst 3, [], []),
  (23, .iadd, [], []),
  (24, .iaload, [], []),
  (25, .iload_n 2, [], []),
  (26, .invokestatic 132, [125, 339, 2, 1], [0, 0]),
  (29, .istore 4, [], []),
  (31, .iload_n 3, [], []),
  (32, .iload 4, [], []),
  (34, .if_icmp .gt 22, [36], []),
  (37, .aload_n 0, [], []),
  (38, .getfield 11, [32, 9, 3], [20, 48, 0]),
  (41, .iload_n 1, [], []),
  (42, .iconst 3, [], []),
  (43, .iadd, [], []),
  (44, .iaload, [], []),
  (45, .aload_n 0, [], []),
  (46, .getfield 11, [32, 9, 3], [20, 48, 0]),
  (49, .iload_n 1, [], []),
  (50, .iaload, [], []),
  (51, .isub, [], []),
  (52, .iload_n 2, [], []),
  (53, .if_icmp .lt 7, [38], []),
  (56, .iconst 1, [], []),
  (57, .goto 4, [39], []),
  (60, .iconst 0, [], []),
  (61, .istore 5, [], []),
  (63, .aload_n 0, [], []),
  (64, .getfield 11, [32, 9, 3], [20, 48, 0]),
  (67, .iload_n 1, [], []),
  (68, .iload 5, [], []),
  (70, .ifCond .eq 7, [47], []),
  (73, .iconst 0, [], []),
  (74, .goto 4, [48], []),
  (77, .iload_n 3, [], []),
  (78, .iastore, [], []),
  (79, .aload_n 0, [], []),
  (80, .getfield 11, [32, 9, 3], [20, 48, 0]),
  (83, .iload_n 1, [], []),
  (84, .iconst 3, [], []),
  (85, .iadd, [], []),
  (86, .iload 5, [], []),
  (88, .ifCond .eq 9, [60], []),
  (91, .iload_n 2, [], []),
  (92, .iconst 1, [], []),
  (93, .isub, [], []),
  (94, .goto 5, [61], []),
  (97, .iload 4, [], []),
  (99, .iastore, [], []),
  (100, .return_, [], [])]
set_option maxRecDepth 100000 in
noncomputable def zc_X8_mirror : List (Nat × Jvm.ClassFile.Instr × List Nat × List Int) := [(0, .aload_n 0, [], []),
  (1, .getfield 11, [32, 9, 3], [20, 48, 0]),
  (4, .iload_n 1, [], []),
  (5, .iaload, [], []),
  (6, .istore_n 3, [], []),
  (7, .aload_n 0, [], []),
  (8, .getfield 11, [32, 9, 3], [20, 48, 0]),
  (11, .iload_n 1, [], []),
  (12, .iconst 3, [], []),
  (13, .iadd, [], []),
  (14, .iaload, [], []),
  (15, .istore 4, [], []),
  (17, .iload 4, [], []),
  (19, .iload_n 2, [], []),
  (20, .if_icmp .gt 4, [16], []),
  (23, .return_, [], []),
  (24, .aload_n 0, [], []),
  (25, .getfield 11, [32, 9, 3], [20, 48, 0]),
  (28, .iload_n 1, [], []),
  (29, .iload_n 3, [], []),
  (30, .iload_n 2, [], []),
  (31, .if_icmp .le 12, [28], []),
  (34, .iconst 2, [], []),
  (35, .iload_n 2, [], []),
  (36, .imul, [], []),
  (37, .iload 4, [], []),
  (39, .isub, [], []),
  (40, .goto 13, [35], []),
  (43, .iload_n 3, [], []),
  (44, .iconst 2, [], []),
  (45, .iload_n 2, [], []),
  (46, .imul, [], []),
  (47, .iload 4, [], []),
  (49, .isub, [], []),
  (50, .invokestatic 54, [103, 343, 2, 1], [0, 0]),
  (53, .iastore, [], []),
  (54, .aload_n 0, [], []),
  (55, .getfield 11, [32, 9, 3], [20, 48, 0]),
  (58, .iload_n 1, [], []),
  (59, .iconst 3, [], []),
  (60, .iadd, [], []),
  (61, .iload_n 3, [], []),
  (62, .iload_n 2, [], []),
  (63, .if_icmp .le 11, [50], []),
  (66, .iconst 2, [], []),
  (67, .iload_n 2, [], []),
  (68, .imul, [], []),
  (69, .iload_n 3, [], []),
  (70, .isub, [], []),
  (71, .goto 4, [51], []),
  (74, .iload_n 2, [], []),
  (75, .iastore, [], []),
  (76, .return_, [], [])]
set_option maxRecDepth 100000 in
noncomputable def zc_X8_turn : List (Nat × Jvm.ClassFile.Instr × List Nat × List Int) := [(0, .aload_n 0, [], []),
  (1, .getfield 11, [32, 9, 3], [20, 48, 0]),
  (4, .iload_n 1, [], []),
  (5, .iaload, [], []),
  (6, .istore_n 3, [], []),
  (7, .aload_n 0, [], []),
  (8, .getfield 11, [32, 9, 3], [20, 48, 0]),
  (11, .iload_n 1, [], []),
  (12, .aload_n 0, [], []),
  (13, .getfield 11, [32, 9, 3], [20, 48, 0]),
  (16, .iload_n 2, [], []),
  (17, .iaload, [], []),
  (18, .iastore, [], []),
  (19, .aload_n 0, [], []),
  (20, .getfield 11, [32, 9, 3], [20, 48, 0]),
  (23, .iload_n 2, [], []),
  (24, .iload_n 3, [], []),
  (25, .iastore, [], []),
  (26, .return_, [], [])]
set_option maxRecDepth 100000 in
noncomputable def zc_X9_init : List (Nat × Jvm.ClassFile.Instr × List Nat × List Int) := [(0, .aload_n 0, [], []),
  (1, .invokespecial 3, [9999], []),
  (4, .aload_n 0, [], []),
  (5, .bipush 88, [], []),
  (7, .newarray .int, [20], []),
  (9, .putfield 11, [35, 10, 3], [20, 88, 0]),
  (12, .aload_n 0, [], []),
  (13, .bipush 88, [], []),
  (15, .newarray .int, [20], []),
  (17, .putfield 15, [36, 10, 3], [20, 88, 1]),
  (20, .aload_n 0, [], []),
  (21, .bipush 88, [], []),
  (23, .newarray .int, [20], []),
  (25, .putfield 18, [37, 10, 3], [20, 88, 2]),
  (28, .aload_n 0, [], []),
  (29, .bipush 88, [], []),
  (31, .newarray .int, [20], []),
  (33, .putfield 21, [38, 10, 3], [20, 88, 3]),
  (36, .aload_n 0, [], []),
  (37, .bipush 88, [], []),
  (39, .newarray .int, [20], []),
  (41, .putfield 24, [39, 10, 3], [20, 88, 4]),
  (44, .aload_n 0, [], []),
  (45, .bipush 88, [], []),
  (47, .newarray .int, [20], []),
  (49, .putfield 27, [40, 10, 3], [20, 88, 5]),
  (52, .aload_n 0, [], []),
  (53, .sipush 528, [], []),
  (56, .newarray .int, [20], []),
  (58, .putfield 30, [41, 10, 3], [20, 528, 6]),
  (61, .return_, [], [])]
set_option maxRecDepth 100000 in
noncomputable def zc_X9_size : List (Nat × Jvm.ClassFile.Instr × List Nat × List Int) := [(0, .aload_n 0, [], []),
  (1, .getfield 33, [42, 10, 1], [0, 0, 7]),
  (4, .ireturn, [1], [])]
set_option maxRecDepth 100000 in
noncomputable def zc_X9_resize : List (Nat × Jvm.ClassFile.Instr × List Nat × List Int) := [(0, .aload_n 0, [], []),
  (1, .iload_n 1, [], []),
  (2, .putfield 33, [42, 10, 1], [0, 0, 7]),
  (5, .return_, [], [])]
set_option maxRecDepth 100000 in
noncomputable def zc_X9_kindOf : List (Nat × Jvm.ClassFile.Instr × List Nat × List Int) := [(0, .iload_n 1, [], []),
  (1, .ifCond .lt 18, [10], []),
  (4, .iload_n 1, [], []),
  (5, .bipush 88, [], []),
  (7, .if_icmp .ge 12, [10], []),
  (10, .aload_n 0, [], []),
  (11, .getfield 11, [35, 10, 3], [20, 88, 0]),
  (14, .iload_n 1, [], []),
  (15, .iaload, [], []),
  (16, .goto 4, [11], []),
  (19, .iconst (-1), [], []),
  (20, .ireturn, [1], [])]
set_option maxRecDepth 100000 in
noncomputable def zc_X9_firstOf : List (Nat × Jvm.ClassFile.Instr × List Nat × List Int) := [(0, .iload_n 1, [], []),
  (1, .ifCond .lt 18, [10], []),
  (4, .iload_n 1, [], []),
  (5, .bipush 88, [], []),
  (7, .if_icmp .ge 12, [10], []),
  (10, .aload_n 0, [], []),
  (11, .getfield 15, [36, 10, 3], [20, 88, 1]),
  (14, .iload_n 1, [], []),
  (15, .iaload, [], []),
  (16, .goto 4, [11], []),
  (19, .iconst (-1), [], []),
  (20, .ireturn, [1], [])]
set_option maxRecDepth 100000 in
noncomputable def zc_X9_secondOf : List (Nat × Jvm.ClassFile.Instr × List Nat × List Int) := [(0, .iload_n 1, [], []),
  (1, .ifCond .lt 18, [10], []),
  (4, .iload_n 1, [], []),
  (5, .bipush 88, [], []),
  (7, .if_icmp .ge 12, [10], []),
  (10, .aload_n 0, [], []),
  (11, .getfield 18, [37, 10, 3], [20, 88, 2]),
  (14, .iload_n 1, [], []),
  (15, .iaload, [], []),
  (16, .goto 4, [11], []),
  (19, .iconst (-1), [], []),
  (20, .ireturn, [1], [])]
set_option maxRecDepth 100000 in
noncomputable def zc_X9_deepOf : List (Nat × Jvm.ClassFile.Instr × List Nat × List Int) := [(0, .iload_n 1, [], []),
  (1, .ifCond .lt 18, [10], []),
  (4, .iload_n 1, [], []),
  (5, .bipush 88, [], []),
  (7, .if_icmp .ge 12, [10], []),
  (10, .aload_n 0, [], []),
  (11, .getfield 21, [38, 10, 3], [20, 88, 3]),
  (14, .iload_n 1, [], []),
  (15, .iaload, [], []),
  (16, .goto 4, [11], []),
  (19, .iconst 0, [], []),
  (20, .ireturn, [1], [])]
set_option maxRecDepth 100000 in
noncomputable def zc_X9_solidsOf : List (Nat × Jvm.ClassFile.Instr × List Nat × List Int) := [(0, .iload_n 1, [], []),
  (1, .ifCond .lt 18, [10], []),
  (4, .iload_n 1, [], []),
  (5, .bipush 88, [], []),
  (7, .if_icmp .ge 12, [10], []),
  (10, .aload_n 0, [], []),
  (11, .getfield 27, [40, 10, 3], [20, 88, 5]),
  (14, .iload_n 1, [], []),
  (15, .iaload, [], []),
  (16, .goto 4, [11], []),
  (19, .iconst 0, [], []),
  (20, .ireturn, [1], [])]
set_option maxRecDepth 100000 in
noncomputable def zc_X9_blendsOf : List (Nat × Jvm.ClassFile.Instr × List Nat × List Int) := [(0, .iload_n 1, [], []),
  (1, .ifCond .lt 18, [10], []),
  (4, .iload_n 1, [], []),
  (5, .bipush 88, [], []),
  (7, .if_icmp .ge 12, [10], []),
  (10, .aload_n 0, [], []),
  (11, .getfield 24, [39, 10, 3], [20, 88, 4]),
  (14, .iload_n 1, [], []),
  (15, .iaload, [], []),
  (16, .goto 4, [11], []),
  (19, .iconst 0, [], []),
  (20, .ireturn, [1], [])]
set_option maxRecDepth 100000 in
noncomputable def zc_X9_numberOf : List (Nat × Jvm.ClassFile.Instr × List Nat × List Int) := [(0, .iload_n 1, [], []),
  (1, .ifCond .lt 33, [19], []),
  (4, .iload_n 1, [], []),
  (5, .bipush 88, [], []),
  (7, .if_icmp .ge 27, [19], []),
  (10, .iload_n 2, [], []),
  (11, .ifCond .lt 23, [19], []),
  (14, .iload_n 2, [], []),
  (15, .bipush 6, [], []),
  (17, .if_icmp .ge 17, [19], []),
  (20, .aload_n 0, [], []),
  (21, .getfield 30, [41, 10, 3], [20, 528, 6]),
  (24, .iload_n 1, [], []),
  (25, .bipush 6, [], []),
  (27, .imul, [], []),
  (28, .iload_n 2, [], []),
  (29, .iadd, [], []),
  (30, .iaload, [], []),
  (31, .goto 4, [20], []),
  (34, .iconst 0, [], []),
  (35, .ireturn, [1], [])]
set_option maxRecDepth 100000 in
noncomputable def zc_X9_isTooDeep : List (Nat × Jvm.ClassFile.Instr × List Nat × List Int) := [(0, .aload_n 0, [], []),
  (1, .iload_n 1, [], []),
  (2, .iload_n 2, [], []),
  (3, .iload_n 3, [], []),
  (4, .invokevirtual 37, [126, 120, 4, 1], [0, 0, 10]),
  (7, .bipush 6, [], []),
  (9, .if_icmp .gt 14, [14], []),
  (12, .aload_n 0, [], []),
  (13, .iload_n 1, [], []),
  (14, .iload_n 2, [], []),
  (15, .iload_n 3, [], []),
  (16, .invokevirtual 41, [127, 121, 4, 1], [0, 0, 10]),
  (19, .iconst 2, [], []),
  (20, .if_icmp .le 7, [16], []),
  (23, .iconst 1, [], []),
  (24, .goto 4, [17], []),
  (27, .iconst 0, [], []),
  (28, .ireturn, [4], [])]
set_option maxRecDepth 100000 in
noncomputable def zc_X9_deepOver : List (Nat × Jvm.ClassFile.Instr × List Nat × List Int) := [(0, .iload_n 1, [], []),
  (1, .invokestatic 44, [128, 27, 1, 4], [0, 0]),
  (4, .ifCond .eq 7, [5], []),
  (7, .iconst 0, [], []),
  (8, .goto 18, [14], []),
  (11, .iconst 1, [], []),
  (12, .aload_n 0, [], []),
  (13, .iload_n 2, [], []),
  (14, .invokevirtual 50, [129, 115, 2, 1], [0, 0, 10]),
  (17, .aload_n 0, [], []),
  (18, .iload_n 3, [], []),
  (19, .invokevirtual 50, [129, 115, 2, 1], [0, 0, 10]),
  (22, .invokestatic 54, [130, 341, 2, 1], [0, 0]),
  (25, .iadd, [], []),
  (26, .ireturn, [1], [])]
set_option maxRecDepth 100000 in
noncomputable def zc_X9_blendsOver : List (Nat × Jvm.ClassFile.Instr × List Nat × List Int) := [(0, .iload_n 1, [], []),
  (1, .bipush 11, [], []),
  (3, .if_icmp .ne 7, [5], []),
  (6, .iconst 1, [], []),
  (7, .goto 4, [6], []),
  (10, .iconst 0, [], []),
  (11, .aload_n 0, [], []),
  (12, .iload_n 2, [], []),
  (13, .invokevirtual 60, [131, 117, 2, 1], [0, 0, 10]),
  (16, .aload_n 0, [], []),
  (17, .iload_n 3, [], []),
  (18, .invokevirtual 60, [131, 117, 2, 1], [0, 0, 10]),
  (21, .invokestatic 54, [130, 341, 2, 1], [0, 0]),
  (24, .iadd, [], []),
  (25, .ireturn, [1], [])]
set_option maxRecDepth 100000 in
noncomputable def zc_X9_write : List (Nat × Jvm.ClassFile.Instr × List Nat × List Int) := [(0, .iload_n 1, [], []),
  (1, .ifCond .lt 9, [5], []),
  (4, .iload_n 1, [], []),
  (5, .bipush 88, [], []),
  (7, .if_icmp .lt 4, [6], []),
  (10, .return_, [], []),
  (11, .aload_n 0, [], []),
  (12, .getfield 11, [35, 10, 3], [20, 88, 0]),
  (15, .iload_n 1, [], []),
  (16, .iload_n 2, [], []),
  (17, .iastore, [], []),
  (18, .aload_n 0, [], []),
  (19, .getfield 15, [36, 10, 3], [20, 88, 1]),
  (22, .iload_n 1, [], []),
  (23, .iload_n 3, [], []),
  (24, .iastore, [], []),
  (25, .aload_n 0, [], []),
  (26, .getfield 18, [37, 10, 3], [20, 88, 2]),
  (29, .iload_n 1, [], []),
  (30, .iload 4, [], []),
  (32, .iastore, [], []),
  (33, .aload_n 0, [], []),
  (34, .getfield 21, [38, 10, 3], [20, 88, 3]),
  (37, .iload_n 1, [], []),
  (38, .aload_n 0, [], []),
  (39, .iload_n 2, [], []),
  (40, .iload_n 3, [], []),
  (41, .iload 4, [], []),
  (43, .invokevirtual 37, [126, 120, 4, 1], [0, 0, 10]),
  (46, .iastore, [], []),
  (47, .aload_n 0, [], []),
  (48, .getfield 24, [39, 10, 3], [20, 88, 4]),
  (51, .iload_n 1, [], []),
  (52, .aload_n 0, [], []),
  (53, .iload_n 2, [], []),
  (54, .iload_n 3, [], []),
  (55, .iload 4, [], []),
  (57, .invokevirtual 41, [127, 121, 4, 1], [0, 0, 10]),
  (60, .iastore, [], []),
  (61, .aload_n 0, [], []),
  (62, .getfield 27, [40, 10, 3], [20, 88, 5]),
  (65, .iload_n 1, [], []),
  (66, .iload_n 2, [], []),
  (67, .invokestatic 44, [128, 27, 1, 4], [0, 0]),
  (70, .ifCond .eq 7, [47], []),
  (73, .iconst 1, [], []),
  (74, .goto 15, [54], []),
  (77, .aload_n 0, [], []),
  (78, .iload_n 3, [], []),
  (79, .invokevirtual 63, [132, 116, 2, 1], [0, 0, 10]),
  (82, .aload_n 0, [], []),
  (83, .iload 4, [], []),
  (85, .invokevirtual 63, [132, 116, 2, 1], [0, 0, 10]),
  (88, .iadd, [], []),
  (89, .iastore, [], []),
  (90, .iconst 0, [], []),
  (91, .istore 6, [], []),
  (93, .iload 6, [], []),
  (95, .bipush 6, [], []),
  (97, .if_icmp .ge 34, [77], []),
  (100, .iload 6, [], []),
  (102, .aload 5, [], []),
  (104, .arraylength, [], []),
  (105, .if_icmp .ge 26, [77], []),
  (108, .aload_n 0, [], []),
  (109, .getfield 30, [41, 10, 3], [20, 528, 6]),
  (112, .iload_n 1, [], []),
  (113, .bipush 6, [], []),
  (115, .imul, [], []),
  (116, .iload 6, [], []),
  (118, .iadd, [], []),
  (119, .aload 5, [], []),
  (121, .iload 6, [], []),
  (123, .iaload, [], []),
  (124, .iastore, [], []),
  (125, .iinc 6 1, [], []),
  (128, .goto (-35), [57], []),
  (131, .return_, [], [])]
set_option maxRecDepth 100000 in
noncomputable def zc_X9_takeFrom : List (Nat × Jvm.ClassFile.Instr × List Nat × List Int) := [(0, .aload_n 1, [], []),
  (1, .getfield 11, [35, 10, 3], [20, 88, 0]),
  (4, .iconst 0, [], []),
  (5, .aload_n 0, [], []),
  (6, .getfield 11, [35, 10, 3], [20, 88, 0]),
  (9, .iconst 0, [], []),
  (10, .bipush 88, [], []),
  (12, .invokestatic 66, [9998], []),
  (15, .aload_n 1, [], []),
  (16, .getfield 15, [36, 10, 3], [20, 88, 1]),
  (19, .iconst 0, [], []),
  (20, .aload_n 0, [], []),
  (21, .getfield 15, [36, 10, 3], [20, 88, 1]),
  (24, .iconst 0, [], []),
  (25, .bipush 88, [], []),
  (27, .invokestatic 66, [9998], []),
  (30, .aload_n 1, [], []),
  (31, .getfield 18, [37, 10, 3], [20, 88, 2]),
  (34, .iconst 0, [], []),
  (35, .aload_n 0, [], []),
  (36, .getfield 18, [37, 10, 3], [20, 88, 2]),
  (39, .iconst 0, [], []),
  (40, .bipush 88, [], []),
  (42, .invokestatic 66, [9998], []),
  (45, .aload_n 1, [], []),
  (46, .getfield 21, [38, 10, 3], [20, 88, 3]),
  (49, .iconst 0, [], []),
  (50, .aload_n 0, [], []),
  (51, .getfield 21, [38, 10, 3], [20, 88, 3]),
  (54, .iconst 0, [], []),
  (55, .bipush 88, [], []),
  (57, .invokestatic 66, [9998], []),
  (60, .aload_n 1, [], []),
  (61, .getfield 24, [39, 10, 3], [20, 88, 4]),
  (64, .iconst 0, [], []),
  (65, .aload_n 0, [], []),
  (66, .getfield 24, [39, 10, 3], [20, 88, 4]),
  (69, .iconst 0, [], []),
  (70, .bipush 88, [], []),
  (72, .invokestatic 66, [9998], []),
  (75, .aload_n 1, [], []),
  (76, .getfield 27, [40, 10, 3], [20, 88, 5]),
  (79, .iconst 0, [], []),
  (80, .aload_n 0, [], []),
  (81, .getfield 27, [40, 10, 3], [20, 88, 5]),
  (84, .iconst 0, [], []),
  (85, .bipush 88, [], []),
  (87, .invokestatic 66, [9998], []),
  (90, .aload_n 1, [], []),
  (91, .getfield 30, [41, 10, 3], [20, 528, 6]),
  (94, .iconst 0, [], []),
  (95, .aload_n 0, [], []),
  (96, .getfield 30, [41, 10, 3], [20, 528, 6]),
  (99, .iconst 0, [], []),
  (100, .sipush 528, [], []),
  (103, .invokestatic 66, [9998], []),
  (106, .aload_n 0, [], []),
  (107, .aload_n 1, [], []),
  (108, .getfield 33, [42, 10, 1], [0, 0, 7]),
  (111, .putfield 33, [42, 10, 1], [0, 0, 7]),
  (114, .return_, [], [])]
set_option maxRecDepth 100000 in
noncomputable def zc_X10_init : List (Nat × Jvm.ClassFile.Instr × List Nat × List Int) := [(0, .aload_n 0, [], []),
  (1, .invokespecial 3, [9999], []),
  (4, .aload_n 0, [], []),
  (5, .new 9, [229, 6, 1], []),
  (8, .dup, [], []),
  (9, .invokespecial 11, [133, 48, 1, 0], [0, 0, 6]),
  (12, .putfield 12, [43, 11, 3], [6, 1, 0]),
  (15, .aload_n 0, [], []),
  (16, .sipush 4096, [], []),
  (19, .newarray .int, [20], []),
  (21, .putfield 18, [44, 11, 3], [20, 4096, 1]),
  (24, .return_, [], [])]
set_option maxRecDepth 100000 in
noncomputable def zc_X10_stepsTillIn : List (Nat × Jvm.ClassFile.Instr × List Nat × List Int) := [(0, .aload_n 0, [], []),
  (1, .getfield 22, [45, 11, 1], [0, 0, 2]),
  (4, .ireturn, [1], [])]
set_option maxRecDepth 100000 in
noncomputable def zc_X10_placesIn : List (Nat × Jvm.ClassFile.Instr × List Nat × List Int) := [(0, .aload_n 0, [], []),
  (1, .getfield 26, [46, 11, 1], [0, 0, 3]),
  (4, .ireturn, [1], [])]
set_option maxRecDepth 100000 in
noncomputable def zc_X10_timesOver : List (Nat × Jvm.ClassFile.Instr × List Nat × List Int) := [(0, .aload_n 0, [], []),
  (1, .getfield 29, [47, 11, 1], [0, 0, 4]),
  (4, .ireturn, [1], [])]
set_option maxRecDepth 100000 in
noncomputable def zc_X10_parts : List (Nat × Jvm.ClassFile.Instr × List Nat × List Int) := [(0, .aload_n 0, [], []),
  (1, .getfield 32, [48, 11, 1], [0, 0, 5]),
  (4, .ireturn, [1], [])]
set_option maxRecDepth 100000 in
noncomputable def zc_X10_greatest : List (Nat × Jvm.ClassFile.Instr × List Nat × List Int) := [(0, .aload_n 0, [], []),
  (1, .getfield 35, [49, 11, 1], [0, 0, 6]),
  (4, .ireturn, [1], [])]
set_option maxRecDepth 100000 in
noncomputable def zc_X10_leastOfGreatest : List (Nat × Jvm.ClassFile.Instr × List Nat × List Int) := [(0, .aload_n 0, [], []),
  (1, .getfield 38, [50, 11, 1], [0, 0, 7]),
  (4, .ireturn, [1], [])]
set_option maxRecDepth 100000 in
noncomputable def zc_X10_walk : List (Nat × Jvm.ClassFile.Instr × List Nat × List Int) := [(0, .aload_n 0, [], []),
  (1, .iconst (-1), [], []),
  (2, .putfield 22, [45, 11, 1], [0, 0, 2]),
  (5, .aload_n 0, [], []),
  (6, .iconst 0, [], []),
  (7, .putfield 26, [46, 11, 1], [0, 0, 3]),
  (10, .aload_n 0, [], []),
  (11, .iconst 0, [], []),
  (12, .putfield 29, [47, 11, 1], [0, 0, 4]),
  (15, .iload_n 2, [], []),
  (16, .istore 6, [], []),
  (18, .aload_n 1, [], []),
  (19, .iload_n 2, [], []),
  (20, .invokevirtual 41, [134, 49, 2, 4], [0, 0, 6]),
  (23, .istore 7, [], []),
  (25, .iconst 0, [], []),
  (26, .istore 8, [], []),
  (28, .iload 8, [], []),
  (30, .bipush 16, [], []),
  (32, .if_icmp .ge 107, [72], []),
  (35, .iload 6, [], []),
  (37, .iconst (-1), [], []),
  (38, .if_icmp .eq 101, [72], []),
  (41, .aload_n 1, [], []),
  (42, .iload 6, [], []),
  (44, .invokevirtual 41, [134, 49, 2, 4], [0, 0, 6]),
  (47, .istore 9, [], []),
  (49, .iload 9, [], []),
  (51, .ifCond .eq 17, [36], []),
  (54, .aload_n 0, [], []),
  (55, .getfield 22, [45, 11, 1], [0, 0, 2]),
  (58, .iconst (-1), [], []),
  (59, .if_icmp .ne 9, [36], []),
  (62, .aload_n 0, [], []),
  (63, .iload 8, [], []),
  (65, .putfield 22, [45, 11, 1], [0, 0, 2]),
  (68, .aload_n 0, [], []),
  (69, .dup, [], []),
  (70, .getfield 26, [46, 11, 1], [0, 0, 3]),
  (73, .iload 9, [], []),
  (75, .ifCond .eq 7, [43], []),
  (78, .iconst 1, [], []),
  (79, .goto 4, [44], []),
  (82, .iconst 0, [], []),
  (83, .iadd, [], []),
  (84, .putfield 26, [46, 11, 1], [0, 0, 3]),
  (87, .aload_n 0, [], []),
  (88, .dup, [], []),
  (89, .getfield 29, [47, 11, 1], [0, 0, 4]),
  (92, .iload 9, [], []),
  (94, .iload 7, [], []),
  (96, .if_icmp .eq 7, [54], []),
  (99, .iconst 1, [], []),
  (100, .goto 4, [55], []),
  (103, .iconst 0, [], []),
  (104, .iadd, [], []),
  (105, .putfield 29, [47, 11, 1], [0, 0, 4]),
  (108, .iload 9, [], []),
  (110, .istore 7, [], []),
  (112, .iload 6, [], []),
  (114, .iconst 0, [], []),
  (115, .iload_n 3, [], []),
  (116, .invokestatic 45, [135, 211, 3, 1], [0, 0]),
  (119, .iconst 1, [], []),
  (120, .iload 4, [], []),
  (122, .invokestatic 45, [135, 211, 3, 1], [0, 0]),
  (125, .iconst 2, [], []),
  (126, .iload 5, [], []),
  (128, .invokestatic 45, [135, 211, 3, 1], [0, 0]),
  (131, .istore 6, [], []),
  (133, .iinc 8 1, [], []),
  (136, .goto (-108), [17], []),
  (139, .return_, [], [])]
set_option maxRecDepth 100000 in
noncomputable def zc_X10_skinOf : List (Nat × Jvm.ClassFile.Instr × List Nat × List Int) := [(0, .iconst 0, [], []),
  (1, .istore_n 2, [], []),
  (2, .iconst 0, [], []),
  (3, .istore_n 3, [], []),
  (4, .iload_n 3, [], []),
  (5, .sipush 4096, [], []),
  (8, .if_icmp .ge 28, [18], []),
  (11, .aload_n 1, [], []),
  (12, .iload_n 3, [], []),
  (13, .invokevirtual 41, [134, 49, 2, 4], [0, 0, 6]),
  (16, .ifCond .eq 14, [16], []),
  (19, .aload_n 1, [], []),
  (20, .iload_n 3, [], []),
  (21, .invokestatic 49, [136, 133, 2, 4], [0, 0]),
  (24, .ifCond .eq 6, [16], []),
  (27, .iinc 2 1, [], []),
  (30, .iinc 3 1, [], []),
  (33, .goto (-29), [4], []),
  (36, .iload_n 2, [], []),
  (37, .ireturn, [1], [])]
set_option maxRecDepth 100000 in
noncomputable def zc_X10_isBare : List (Nat × Jvm.ClassFile.Instr × List Nat × List Int) := [(0, .iconst 0, [], []),
  (1, .istore_n 2, [], []),
  (2, .iload_n 2, [], []),
  (3, .bipush 6, [], []),
  (5, .if_icmp .ge 23, [15], []),
  (8, .aload_n 0, [], []),
  (9, .iload_n 1, [], []),
  (10, .iload_n 2, [], []),
  (11, .invokestatic 53, [137, 134, 2, 1], [0, 0]),
  (14, .invokevirtual 41, [134, 49, 2, 4], [0, 0, 6]),
  (17, .ifCond .ne 5, [13], []),
  (20, .iconst 1, [], []),
  (21, .ireturn, [4], []),
  (22, .iinc 2 1, [], []),
  (25, .goto (-23), [2], []),
  (28, .iconst 0, [], []),
  (29, .ireturn, [4], [])]
set_option maxRecDepth 100000 in
noncomputable def zc_X10_neighbour : List (Nat × Jvm.ClassFile.Instr × List Nat × List Int) := [(0, .iload_n 0, [], []),
  (1, .iload_n 1, [], []),
  (2, .iconst 2, [], []),
  (3, .idiv, [], []),
  (4, .iload_n 1, [], []),
  (5, .iconst 2, [], []),
  (6, .irem, [], []),
  (7, .ifCond .ne 7, [10], []),
  (10, .iconst (-1), [], []),
  (11, .goto 4, [11], []),
  (14, .iconst 1, [], []),
  (15, .invokestatic 45, [135, 211, 3, 1], [0, 0]),
  (18, .ireturn, [1], [])]
set_option maxRecDepth 100000 in
noncomputable def zc_X10_part : List (Nat × Jvm.ClassFile.Instr × List Nat × List Int) := [(0, .aload_n 0, [], []),
  (1, .iconst 0, [], []),
  (2, .putfield 32, [48, 11, 1], [0, 0, 5]),
  (5, .aload_n 0, [], []),
  (6, .iconst 0, [], []),
  (7, .putfield 35, [49, 11, 1], [0, 0, 6]),
  (10, .aload_n 0, [], []),
  (11, .iconst (-1), [], []),
  (12, .putfield 38, [50, 11, 1], [0, 0, 7]),
  (15, .aload_n 0, [], []),
  (16, .getfield 12, [43, 11, 3], [6, 1, 0]),
  (19, .invokevirtual 57, [138, 52, 1, 0], [0, 0, 6]),
  (22, .iconst 0, [], []),
  (23, .istore_n 2, [], []),
  (24, .iload_n 2, [], []),
  (25, .sipush 4096, [], []),
  (28, .if_icmp .ge 63, [49], []),
  (31, .aload_n 1, [], []),
  (32, .iload_n 2, [], []),
  (33, .invokevirtual 41, [134, 49, 2, 4], [0, 0, 6]),
  (36, .ifCond .eq 49, [47], []),
  (39, .aload_n 0, [], []),
  (40, .getfield 12, [43, 11, 3], [6, 1, 0]),
  (43, .iload_n 2, [], []),
  (44, .invokevirtual 41, [134, 49, 2, 4], [0, 0, 6]),
  (47, .ifCond .ne 38, [47], []),
  (50, .aload_n 0, [], []),
  (51, .aload_n 1, [], []),
  (52, .iload_n 2, [], []),
  (53, .invokevirtual 60, [139, 136, 3, 1], [0, 0, 11]),
  (56, .istore_n 3, [], []),
  (57, .aload_n 0, [], []),
  (58, .dup, [], []),
  (59, .getfield 32, [48, 11, 1], [0, 0, 5]),
  (62, .iconst 1, [], []),
  (63, .iadd, [], []),
  (64, .putfield 32, [48, 11, 1], [0, 0, 5]),
  (67, .iload_n 3, [], []),
  (68, .aload_n 0, [], []),
  (69, .getfield 35, [49, 11, 1], [0, 0, 6]),
  (72, .if_icmp .le 13, [47], []),
  (75, .aload_n 0, [], []),
  (76, .iload_n 3, [], []),
  (77, .putfield 35, [49, 11, 1], [0, 0, 6]),
  (80, .aload_n 0, [], []),
  (81, .iload_n 2, [], []),
  (82, .putfield 38, [50, 11, 1], [0, 0, 7]),
  (85, .iinc 2 1, [], []),
  (88, .goto (-64), [14], []),
  (91, .return_, [], [])]
set_option maxRecDepth 100000 in
noncomputable def zc_X10_sizeOfPiece : List (Nat × Jvm.ClassFile.Instr × List Nat × List Int) := [(0, .iconst 1, [], []),
  (1, .istore_n 3, [], []),
  (2, .aload_n 0, [], []),
  (3, .getfield 18, [44, 11, 3], [20, 4096, 1]),
  (6, .iconst 0, [], []),
  (7, .iload_n 2, [], []),
  (8, .iastore, [], []),
  (9, .aload_n 0, [], []),
  (10, .getfield 12, [43, 11, 3], [6, 1, 0]),
  (13, .iload_n 2, [], []),
  (14, .invokevirtual 64, [140, 50, 2, 0], [0, 0, 6]),
  (17, .iconst 0, [], []),
  (18, .istore 4, [], []),
  (20, .iload 4, [], []),
  (22, .iload_n 3, [], []),
  (23, .if_icmp .ge 99, [61], []),
  (26, .iload 4, [], []),
  (28, .aload_n 0, [], []),
  (29, .getfield 18, [44, 11, 3], [20, 4096, 1]),
  (32, .arraylength, [], []),
  (33, .if_icmp .ge 89, [61], []),
  (36, .iconst 0, [], []),
  (37, .istore 5, [], []),
  (39, .iload 5, [], []),
  (41, .bipush 6, [], []),
  (43, .if_icmp .ge 73, [59], []),
  (46, .aload_n 0, [], []),
  (47, .getfield 18, [44, 11, 3], [20, 4096, 1]),
  (50, .iload 4, [], []),
  (52, .iaload, [], []),
  (53, .iload 5, [], []),
  (55, .invokestatic 53, [137, 134, 2, 1], [0, 0]),
  (58, .istore 6, [], []),
  (60, .aload_n 1, [], []),
  (61, .iload 6, [], []),
  (63, .invokevirtual 41, [134, 49, 2, 4], [0, 0, 6]),
  (66, .ifCond .eq 44, [57], []),
  (69, .aload_n 0, [], []),
  (70, .getfield 12, [43, 11, 3], [6, 1, 0]),
  (73, .iload 6, [], []),
  (75, .invokevirtual 41, [134, 49, 2, 4], [0, 0, 6]),
  (78, .ifCond .ne 32, [57], []),
  (81, .iload_n 3, [], []),
  (82, .aload_n 0, [], []),
  (83, .getfield 18, [44, 11, 3], [20, 4096, 1]),
  (86, .arraylength, [], []),
  (87, .if_icmp .ge 23, [57], []),
  (90, .aload_n 0, [], []),
  (91, .getfield 12, [43, 11, 3], [6, 1, 0]),
  (94, .iload 6, [], []),
  (96, .invokevirtual 64, [140, 50, 2, 0], [0, 0, 6]),
  (99, .aload_n 0, [], []),
  (100, .getfield 18, [44, 11, 3], [20, 4096, 1]),
  (103, .iload_n 3, [], []),
  (104, .iload 6, [], []),
  (106, .iastore, [], []),
  (107, .iinc 3 1, [], []),
  (110, .iinc 5 1, [], []),
  (113, .goto (-74), [23], []),
  (116, .iinc 4 1, [], []),
  (119, .goto (-99), [13], []),
  (122, .iload_n 3, [], []),
  (123, .ireturn, [1], [])]
set_option maxRecDepth 100000 in
noncomputable def zc_X11_init : List (Nat × Jvm.ClassFile.Instr × List Nat × List Int) := [(0, .aload_n 0, [], []),
  (1, .invokespecial 3, [9999], []),
  (4, .aload_n 0, [], []),
  (5, .new 9, [29, 10, 8], []),
  (8, .dup, [], []),
  (9, .invokespecial 11, [141, 109, 1, 0], [0, 0, 10]),
  (12, .putfield 12, [51, 12, 3], [10, 8, 0]),
  (15, .aload_n 0, [], []),
  (16, .new 9, [29, 10, 8], []),
  (19, .dup, [], []),
  (20, .invokespecial 11, [141, 109, 1, 0], [0, 0, 10]),
  (23, .putfield 16, [52, 12, 3], [10, 8, 1]),
  (26, .aload_n 0, [], []),
  (27, .new 19, [61, 1, 6], []),
  (30, .dup, [], []),
  (31, .invokespecial 21, [142, 0, 1, 0], [0, 0, 1]),
  (34, .putfield 22, [53, 12, 3], [1, 6, 2]),
  (37, .aload_n 0, [], []),
  (38, .new 19, [61, 1, 6], []),
  (41, .dup, [], []),
  (42, .invokespecial 21, [142, 0, 1, 0], [0, 0, 1]),
  (45, .putfield 26, [54, 12, 3], [1, 6, 3]),
  (48, .aload_n 0, [], []),
  (49, .new 29, [98, 8, 3], []),
  (52, .dup, [], []),
  (53, .invokespecial 31, [143, 80, 1, 0], [0, 0, 8]),
  (56, .putfield 32, [55, 12, 3], [8, 3, 4]),
  (59, .aload_n 0, [], []),
  (60, .new 36, [114, 7, 11], []),
  (63, .dup, [], []),
  (64, .invokespecial 38, [144, 62, 1, 0], [0, 0, 7]),
  (67, .putfield 39, [56, 12, 3], [7, 11, 5]),
  (70, .aload_n 0, [], []),
  (71, .new 43, [154, 4, 5], []),
  (74, .dup, [], []),
  (75, .invokespecial 45, [145, 35, 1, 0], [0, 0, 4]),
  (78, .putfield 46, [57, 12, 3], [4, 5, 6]),
  (81, .aload_n 0, [], []),
  (82, .new 50, [223, 11, 8], []),
  (85, .dup, [], []),
  (86, .invokespecial 52, [146, 124, 1, 0], [0, 0, 11]),
  (89, .putfield 53, [58, 12, 3], [11, 8, 7]),
  (92, .aload_n 0, [], []),
  (93, .new 57, [256, 5, 2], []),
  (96, .dup, [], []),
  (97, .invokespecial 59, [147, 41, 1, 0], [0, 0, 5]),
  (100, .putfield 60, [59, 12, 3], [5, 2, 8]),
  (103, .aload_n 0, [], []),
  (104, .new 64, [258, 9, 3], []),
  (107, .dup, [], []),
  (108, .invokespecial 66, [148, 92, 1, 0], [0, 0, 9]),
  (111, .putfield 67, [60, 12, 3], [9, 3, 9]),
  (114, .aload_n 0, [], []),
  (115, .new 71, [260, 6, 1], []),
  (118, .dup, [], []),
  (119, .invokespecial 73, [149, 48, 1, 0], [0, 0, 6]),
  (122, .putfield 74, [61, 12, 3], [6, 1, 10]),
  (125, .aload_n 0, [], []),
  (126, .bipush 6, [], []),
  (128, .newarray .int, [20], []),
  (130, .putfield 78, [62, 12, 3], [20, 6, 11]),
  (133, .aload_n 0, [], []),
  (134, .bipush 10, [], []),
  (136, .newarray .int, [20], []),
  (138, .putfield 82, [63, 12, 3], [20, 10, 12]),
  (141, .aload_n 0, [], []),
  (142, .iconst 5, [], []),
  (143, .newarray .int, [20], []),
  (145, .putfield 85, [64, 12, 3], [20, 5, 13]),
  (148, .return_, [], [])]
set_option maxRecDepth 100000 in
noncomputable def zc_X11_row : List (Nat × Jvm.ClassFile.Instr × List Nat × List Int) := [(0, .iload_n 1, [], []),
  (1, .invokestatic 88, [150, 201, 1, 4], [0, 0]),
  (4, .ifCond .eq 22, [13], []),
  (7, .iload_n 2, [], []),
  (8, .iconst 0, [], []),
  (9, .iconst 4, [], []),
  (10, .invokestatic 92, [151, 200, 3, 4], [0, 0]),
  (13, .ifCond .eq 13, [13], []),
  (16, .iload_n 3, [], []),
  (17, .iconst 0, [], []),
  (18, .bipush 40, [], []),
  (20, .invokestatic 92, [151, 200, 3, 4], [0, 0]),
  (23, .ifCond .ne 10, [17], []),
  (26, .aload_n 0, [], []),
  (27, .bipush (-62), [], []),
  (29, .invokevirtual 96, [152, 194, 2, 1], [0, 0, 12]),
  (32, .ireturn, [1], []),
  (33, .aload_n 0, [], []),
  (34, .getfield 32, [55, 12, 3], [8, 3, 4]),
  (37, .iload_n 1, [], []),
  (38, .iload_n 2, [], []),
  (39, .iload_n 3, [], []),
  (40, .invokevirtual 100, [153, 84, 4, 0], [0, 0, 8]),
  (43, .iconst 1, [], []),
  (44, .ireturn, [1], [])]
set_option maxRecDepth 100000 in
noncomputable def zc_X11_set : List (Nat × Jvm.ClassFile.Instr × List Nat × List Int) := [(0, .aload_n 0, [], []),
  (1, .iload_n 1, [], []),
  (2, .invokevirtual 104, [154, 195, 2, 1], [0, 0, 12]),
  (5, .istore 5, [], []),
  (7, .iload 5, [], []),
  (9, .ifCond .eq 10, [10], []),
  (12, .aload_n 0, [], []),
  (13, .iload 5, [], []),
  (15, .invokevirtual 96, [152, 194, 2, 1], [0, 0, 12]),
  (18, .ireturn, [1], []),
  (19, .iload_n 2, [], []),
  (20, .iconst 0, [], []),
  (21, .aload_n 0, [], []),
  (22, .getfield 32, [55, 12, 3], [8, 3, 4]),
  (25, .iload_n 1, [], []),
  (26, .invokevirtual 107, [155, 82, 2, 1], [0, 0, 8]),
  (29, .iconst 1, [], []),
  (30, .isub, [], []),
  (31, .invokestatic 92, [151, 200, 3, 4], [0, 0]),
  (34, .ifCond .ne 10, [24], []),
  (37, .aload_n 0, [], []),
  (38, .bipush (-62), [], []),
  (40, .invokevirtual 96, [152, 194, 2, 1], [0, 0, 12]),
  (43, .ireturn, [1], []),
  (44, .aload_n 0, [], []),
  (45, .getfield 32, [55, 12, 3], [8, 3, 4]),
  (48, .iload_n 1, [], []),
  (49, .iload_n 2, [], []),
  (50, .lload_n 3, [], []),
  (51, .invokevirtual 110, [156, 89, 4, 0], [0, 0, 8]),
  (54, .iconst 1, [], []),
  (55, .ireturn, [1], [])]
set_option maxRecDepth 100000 in
noncomputable def zc_X11_copy : List (Nat × Jvm.ClassFile.Instr × List Nat × List Int) := [(0, .iload_n 1, [], []),
  (1, .invokestatic 88, [150, 201, 1, 4], [0, 0]),
  (4, .ifCond .eq 10, [6], []),
  (7, .iload_n 2, [], []),
  (8, .invokestatic 88, [150, 201, 1, 4], [0, 0]),
  (11, .ifCond .ne 10, [10], []),
  (14, .aload_n 0, [], []),
  (15, .bipush (-62), [], []),
  (17, .invokevirtual 96, [152, 194, 2, 1], [0, 0, 12]),
  (20, .ireturn, [1], []),
  (21, .aload_n 0, [], []),
  (22, .getfield 32, [55, 12, 3], [8, 3, 4]),
  (25, .iload_n 1, [], []),
  (26, .invokevirtual 114, [157, 81, 2, 1], [0, 0, 8]),
  (29, .istore 6, [], []),
  (31, .aload_n 0, [], []),
  (32, .getfield 32, [55, 12, 3], [8, 3, 4]),
  (35, .iload_n 2, [], []),
  (36, .invokevirtual 114, [157, 81, 2, 1], [0, 0, 8]),
  (39, .istore 7, [], []),
  (41, .iload 6, [], []),
  (43, .bipush 10, [], []),
  (45, .if_icmp .ge 29, [35], []),
  (48, .iload 7, [], []),
  (50, .bipush 10, [], []),
  (52, .if_icmp .ge 22, [35], []),
  (55, .iload 6, [], []),
  (57, .iconst (-1), [], []),
  (58, .if_icmp .eq 23, [39], []),
  (61, .iload 7, [], []),
  (63, .iconst (-1), [], []),
  (64, .if_icmp .eq 17, [39], []),
  (67, .iload 6, [], []),
  (69, .iload 7, [], []),
  (71, .if_icmp .eq 10, [39], []),
  (74, .aload_n 0, [], []),
  (75, .bipush (-63), [], []),
  (77, .invokevirtual 96, [152, 194, 2, 1], [0, 0, 12]),
  (80, .ireturn, [1], []),
  (81, .iload 6, [], []),
  (83, .iconst (-1), [], []),
  (84, .if_icmp .eq 9, [45], []),
  (87, .iload 7, [], []),
  (89, .iconst (-1), [], []),
  (90, .if_icmp .ne 10, [49], []),
  (93, .aload_n 0, [], []),
  (94, .bipush (-64), [], []),
  (96, .invokevirtual 96, [152, 194, 2, 1], [0, 0, 12]),
  (99, .ireturn, [1], []),
  (100, .iload_n 3, [], []),
  (101, .iload 5, [], []),
  (103, .aload_n 0, [], []),
  (104, .getfield 32, [55, 12, 3], [8, 3, 4]),
  (107, .iload_n 1, [], []),
  (108, .invokevirtual 107, [155, 82, 2, 1], [0, 0, 8]),
  (111, .invokestatic 117, [158, 206, 3, 4], [0, 0]),
  (114, .ifCond .eq 21, [65], []),
  (117, .iload 4, [], []),
  (119, .iload 5, [], []),
  (121, .aload_n 0, [], []),
  (122, .getfield 32, [55, 12, 3], [8, 3, 4]),
  (125, .iload_n 2, [], []),
  (126, .invokevirtual 107, [155, 82, 2, 1], [0, 0, 8]),
  (129, .invokestatic 117, [158, 206, 3, 4], [0, 0]),
  (132, .ifCond .ne 10, [69], []),
  (135, .aload_n 0, [], []),
  (136, .bipush (-62), [], []),
  (138, .invokevirtual 96, [152, 194, 2, 1], [0, 0, 12]),
  (141, .ireturn, [1], []),
  (142, .aload_n 0, [], []),
  (143, .getfield 32, [55, 12, 3], [8, 3, 4]),
  (146, .iload_n 1, [], []),
  (147, .iload_n 2, [], []),
  (148, .iload_n 3, [], []),
  (149, .iload 4, [], []),
  (151, .iload 5, [], []),
  (153, .invokevirtual 120, [159, 91, 6, 0], [0, 0, 8]),
  (156, .iload 5, [], []),
  (158, .ireturn, [1], [])]
set_option maxRecDepth 100000 in
noncomputable def zc_X11_element : List (Nat × Jvm.ClassFile.Instr × List Nat × List Int) := [(0, .aload_n 0, [], []),
  (1, .getfield 32, [55, 12, 3], [8, 3, 4]),
  (4, .iload_n 1, [], []),
  (5, .iload_n 2, [], []),
  (6, .invokevirtual 124, [160, 88, 3, 2], [0, 0, 8]),
  (9, .lreturn, [], [])]
set_option maxRecDepth 100000 in
noncomputable def zc_X11_holds : List (Nat × Jvm.ClassFile.Instr × List Nat × List Int) := [(0, .aload_n 0, [], []),
  (1, .getfield 32, [55, 12, 3], [8, 3, 4]),
  (4, .iload_n 1, [], []),
  (5, .invokevirtual 114, [157, 81, 2, 1], [0, 0, 8]),
  (8, .ireturn, [1], [])]
set_option maxRecDepth 100000 in
noncomputable def zc_X11_show : List (Nat × Jvm.ClassFile.Instr × List Nat × List Int) := [(0, .iload_n 1, [], []),
  (1, .invokestatic 88, [150, 201, 1, 4], [0, 0]),
  (4, .ifCond .eq 16, [10], []),
  (7, .iload_n 2, [], []),
  (8, .iconst (-1), [], []),
  (9, .if_icmp .eq 18, [14], []),
  (12, .aload_n 0, [], []),
  (13, .iload_n 2, [], []),
  (14, .invokevirtual 128, [161, 197, 2, 4], [0, 0, 12]),
  (17, .ifCond .ne 10, [14], []),
  (20, .aload_n 0, [], []),
  (21, .bipush (-62), [], []),
  (23, .invokevirtual 96, [152, 194, 2, 1], [0, 0, 12]),
  (26, .ireturn, [1], []),
  (27, .aload_n 0, [], []),
  (28, .getfield 32, [55, 12, 3], [8, 3, 4]),
  (31, .iload_n 1, [], []),
  (32, .iload_n 2, [], []),
  (33, .invokevirtual 131, [162, 85, 3, 0], [0, 0, 8]),
  (36, .iconst 1, [], []),
  (37, .ireturn, [1], [])]
set_option maxRecDepth 100000 in
noncomputable def zc_X11_says : List (Nat × Jvm.ClassFile.Instr × List Nat × List Int) := [(0, .aload_n 0, [], []),
  (1, .iload_n 1, [], []),
  (2, .iload_n 2, [], []),
  (3, .invokevirtual 135, [163, 145, 3, 1], [0, 0, 12]),
  (6, .istore_n 3, [], []),
  (7, .iload_n 3, [], []),
  (8, .ifCond .eq 9, [11], []),
  (11, .aload_n 0, [], []),
  (12, .iload_n 3, [], []),
  (13, .invokevirtual 96, [152, 194, 2, 1], [0, 0, 12]),
  (16, .ireturn, [1], []),
  (17, .aload_n 0, [], []),
  (18, .getfield 32, [55, 12, 3], [8, 3, 4]),
  (21, .iload_n 1, [], []),
  (22, .invokevirtual 114, [157, 81, 2, 1], [0, 0, 8]),
  (25, .bipush 10, [], []),
  (27, .isub, [], []),
  (28, .istore 4, [], []),
  (30, .aload_n 0, [], []),
  (31, .getfield 12, [51, 12, 3], [10, 8, 0]),
  (34, .iload 4, [], []),
  (36, .invokevirtual 139, [164, 113, 2, 1], [0, 0, 10]),
  (39, .istore 5, [], []),
  (41, .aload_n 0, [], []),
  (42, .getfield 12, [51, 12, 3], [10, 8, 0]),
  (45, .iload 4, [], []),
  (47, .invokevirtual 142, [165, 114, 2, 1], [0, 0, 10]),
  (50, .istore 6, [], []),
  (52, .iload_n 2, [], []),
  (53, .tableswitch 137 0 10 #[59, 69, 79, 137, 137, 137, 82, 85, 105, 105, 121], [70, 30, 35, 40, 70, 70, 70, 42, 44, 54, 54, 62], []),
  (112, .aload_n 0, [], []),
  (113, .getfield 12, [51, 12, 3], [10, 8, 0]),
  (116, .iload 4, [], []),
  (118, .invokevirtual 145, [166, 115, 2, 1], [0, 0, 10]),
  (121, .ireturn, [1], []),
  (122, .aload_n 0, [], []),
  (123, .iload 4, [], []),
  (125, .invokevirtual 148, [167, 198, 2, 3], [6, 1, 12]),
  (128, .invokevirtual 152, [168, 57, 1, 1], [0, 0, 6]),
  (131, .ireturn, [1], []),
  (132, .iload 5, [], []),
  (134, .ireturn, [1], []),
  (135, .iload 6, [], []),
  (137, .ireturn, [1], []),
  (138, .aload_n 0, [], []),
  (139, .iload 4, [], []),
  (141, .invokevirtual 148, [167, 198, 2, 3], [6, 1, 12]),
  (144, .invokevirtual 152, [168, 57, 1, 1], [0, 0, 6]),
  (147, .aload_n 0, [], []),
  (148, .iload 5, [], []),
  (150, .invokevirtual 148, [167, 198, 2, 3], [6, 1, 12]),
  (153, .invokevirtual 152, [168, 57, 1, 1], [0, 0, 6]),
  (156, .isub, [], []),
  (157, .ireturn, [1], []),
  (158, .aload_n 0, [], []),
  (159, .iload 5, [], []),
  (161, .invokevirtual 148, [167, 198, 2, 3], [6, 1, 12]),
  (164, .aload_n 0, [], []),
  (165, .iload 6, [], []),
  (167, .invokevirtual 148, [167, 198, 2, 3], [6, 1, 12]),
  (170, .invokevirtual 156, [169, 59, 2, 1], [0, 0, 6]),
  (173, .ireturn, [1], []),
  (174, .aload_n 0, [], []),
  (175, .iload 5, [], []),
  (177, .invokevirtual 148, [167, 198, 2, 3], [6, 1, 12]),
  (180, .aload_n 0, [], []),
  (181, .iload 6, [], []),
  (183, .invokevirtual 148, [167, 198, 2, 3], [6, 1, 12]),
  (186, .invokevirtual 160, [170, 58, 2, 1], [0, 0, 6]),
  (189, .ireturn, [1], []),
  (190, .aload_n 0, [], []),
  (191, .iload_n 2, [], []),
  (192, .iload 4, [], []),
  (194, .invokevirtual 163, [171, 146, 3, 1], [0, 0, 12]),
  (197, .ireturn, [1], [])]
set_option maxRecDepth 100000 in
noncomputable def zc_X11_saysRefusal : List (Nat × Jvm.ClassFile.Instr × List Nat × List Int) := [(0, .iload_n 1, [], []),
  (1, .invokestatic 88, [150, 201, 1, 4], [0, 0]),
  (4, .ifCond .eq 13, [8], []),
  (7, .iload_n 2, [], []),
  (8, .iconst 0, [], []),
  (9, .bipush 17, [], []),
  (11, .invokestatic 92, [151, 200, 3, 4], [0, 0]),
  (14, .ifCond .ne 6, [10], []),
  (17, .bipush (-62), [], []),
  (19, .ireturn, [1], []),
  (20, .aload_n 0, [], []),
  (21, .getfield 32, [55, 12, 3], [8, 3, 4]),
  (24, .iload_n 1, [], []),
  (25, .invokevirtual 114, [157, 81, 2, 1], [0, 0, 8]),
  (28, .istore_n 3, [], []),
  (29, .iload_n 3, [], []),
  (30, .iconst (-1), [], []),
  (31, .if_icmp .ne 6, [20], []),
  (34, .bipush (-64), [], []),
  (36, .ireturn, [1], []),
  (37, .iload_n 3, [], []),
  (38, .bipush 10, [], []),
  (40, .isub, [], []),
  (41, .istore 4, [], []),
  (43, .aload_n 0, [], []),
  (44, .iload 4, [], []),
  (46, .invokevirtual 128, [161, 197, 2, 4], [0, 0, 12]),
  (49, .ifCond .eq 23, [37], []),
  (52, .aload_n 0, [], []),
  (53, .getfield 12, [51, 12, 3], [10, 8, 0]),
  (56, .iload 4, [], []),
  (58, .invokevirtual 166, [172, 112, 2, 1], [0, 0, 10]),
  (61, .iload_n 2, [], []),
  (62, .invokestatic 169, [173, 26, 2, 4], [0, 0]),
  (65, .ifCond .eq 7, [37], []),
  (68, .iconst 0, [], []),
  (69, .goto 5, [38], []),
  (72, .bipush (-63), [], []),
  (74, .ireturn, [1], [])]
set_option maxRecDepth 100000 in
noncomputable def zc_X11_saidOfNumbers : List (Nat × Jvm.ClassFile.Instr × List Nat × List Int) := [(0, .aload_n 0, [], []),
  (1, .getfield 12, [51, 12, 3], [10, 8, 0]),
  (4, .iload_n 2, [], []),
  (5, .iconst 0, [], []),
  (6, .invokevirtual 175, [174, 118, 3, 1], [0, 0, 10]),
  (9, .istore_n 3, [], []),
  (10, .aload_n 0, [], []),
  (11, .getfield 12, [51, 12, 3], [10, 8, 0]),
  (14, .iload_n 2, [], []),
  (15, .iconst 1, [], []),
  (16, .invokevirtual 175, [174, 118, 3, 1], [0, 0, 10]),
  (19, .istore 4, [], []),
  (21, .aload_n 0, [], []),
  (22, .getfield 12, [51, 12, 3], [10, 8, 0]),
  (25, .iload_n 2, [], []),
  (26, .iconst 2, [], []),
  (27, .invokevirtual 175, [174, 118, 3, 1], [0, 0, 10]),
  (30, .istore 5, [], []),
  (32, .aload_n 0, [], []),
  (33, .getfield 12, [51, 12, 3], [10, 8, 0]),
  (36, .iload_n 2, [], []),
  (37, .iconst 3, [], []),
  (38, .invokevirtual 175, [174, 118, 3, 1], [0, 0, 10]),
  (41, .istore 6, [], []),
  (43, .iload_n 1, [], []),
  (44, .tableswitch 134 3 15 #[105, 68, 105, 134, 134, 134, 134, 134, 108, 116, 124, 124, 127], [74, 52, 26, 52, 74, 74, 74, 74, 74, 54, 60, 66, 66, 68], []),
  (112, .iload 6, [], []),
  (114, .iload_n 3, [], []),
  (115, .isub, [], []),
  (116, .iconst 1, [], []),
  (117, .iadd, [], []),
  (118, .aload_n 0, [], []),
  (119, .getfield 12, [51, 12, 3], [10, 8, 0]),
  (122, .iload_n 2, [], []),
  (123, .iconst 4, [], []),
  (124, .invokevirtual 175, [174, 118, 3, 1], [0, 0, 10]),
  (127, .iload 4, [], []),
  (129, .isub, [], []),
  (130, .iconst 1, [], []),
  (131, .iadd, [], []),
  (132, .imul, [], []),
  (133, .aload_n 0, [], []),
  (134, .getfield 12, [51, 12, 3], [10, 8, 0]),
  (137, .iload_n 2, [], []),
  (138, .iconst 5, [], []),
  (139, .invokevirtual 175, [174, 118, 3, 1], [0, 0, 10]),
  (142, .iload 5, [], []),
  (144, .isub, [], []),
  (145, .iconst 1, [], []),
  (146, .iadd, [], []),
  (147, .imul, [], []),
  (148, .ireturn, [1], []),
  (149, .iload 6, [], []),
  (151, .ireturn, [1], []),
  (152, .bipush 10, [], []),
  (154, .iload_n 3, [], []),
  (155, .imul, [], []),
  (156, .iload 4, [], []),
  (158, .iadd, [], []),
  (159, .ireturn, [1], []),
  (160, .iload_n 3, [], []),
  (161, .iload 4, [], []),
  (163, .iadd, [], []),
  (164, .iload 5, [], []),
  (166, .iadd, [], []),
  (167, .ireturn, [1], []),
  (168, .iload 4, [], []),
  (170, .ireturn, [1], []),
  (171, .iconst 3, [], []),
  (172, .iload_n 3, [], []),
  (173, .isub, [], []),
  (174, .iload 4, [], []),
  (176, .isub, [], []),
  (177, .ireturn, [1], []),
  (178, .iload_n 3, [], []),
  (179, .ireturn, [1], [])]
set_option maxRecDepth 100000 in
noncomputable def zc_X11_feed : List (Nat × Jvm.ClassFile.Instr × List Nat × List Int) := [(0, .iload_n 1, [], []),
  (1, .iconst 0, [], []),
  (2, .sipush 255, [], []),
  (5, .invokestatic 92, [151, 200, 3, 4], [0, 0]),
  (8, .ifCond .ne 10, [9], []),
  (11, .aload_n 0, [], []),
  (12, .bipush (-62), [], []),
  (14, .invokevirtual 96, [152, 194, 2, 1], [0, 0, 12]),
  (17, .ireturn, [1], []),
  (18, .aload_n 0, [], []),
  (19, .getfield 39, [56, 12, 3], [7, 11, 5]),
  (22, .invokevirtual 178, [175, 65, 1, 4], [0, 0, 7]),
  (25, .ifCond .eq 10, [17], []),
  (28, .aload_n 0, [], []),
  (29, .bipush (-66), [], []),
  (31, .invokevirtual 96, [152, 194, 2, 1], [0, 0, 12]),
  (34, .ireturn, [1], []),
  (35, .aload_n 0, [], []),
  (36, .getfield 39, [56, 12, 3], [7, 11, 5]),
  (39, .iload_n 1, [], []),
  (40, .invokevirtual 182, [176, 66, 2, 0], [0, 0, 7]),
  (43, .aload_n 0, [], []),
  (44, .getfield 39, [56, 12, 3], [7, 11, 5]),
  (47, .invokevirtual 186, [177, 63, 1, 1], [0, 0, 7]),
  (50, .ireturn, [1], [])]
set_option maxRecDepth 100000 in
noncomputable def zc_X11_wipe : List (Nat × Jvm.ClassFile.Instr × List Nat × List Int) := [(0, .aload_n 0, [], []),
  (1, .getfield 39, [56, 12, 3], [7, 11, 5]),
  (4, .invokevirtual 186, [177, 63, 1, 1], [0, 0, 7]),
  (7, .istore_n 1, [], []),
  (8, .aload_n 0, [], []),
  (9, .getfield 39, [56, 12, 3], [7, 11, 5]),
  (12, .invokevirtual 187, [178, 67, 1, 0], [0, 0, 7]),
  (15, .iload_n 1, [], []),
  (16, .ireturn, [1], [])]
set_option maxRecDepth 100000 in
noncomputable def zc_X11_shape : List (Nat × Jvm.ClassFile.Instr × List Nat × List Int) := [(0, .aload_n 0, [], []),
  (1, .getfield 39, [56, 12, 3], [7, 11, 5]),
  (4, .aload_n 0, [], []),
  (5, .getfield 12, [51, 12, 3], [10, 8, 0]),
  (8, .invokevirtual 190, [179, 68, 2, 1], [0, 0, 7]),
  (11, .istore_n 1, [], []),
  (12, .aload_n 0, [], []),
  (13, .getfield 39, [56, 12, 3], [7, 11, 5]),
  (16, .invokevirtual 194, [180, 64, 1, 1], [0, 0, 7]),
  (19, .istore_n 2, [], []),
  (20, .aload_n 0, [], []),
  (21, .getfield 39, [56, 12, 3], [7, 11, 5]),
  (24, .invokevirtual 187, [178, 67, 1, 0], [0, 0, 7]),
  (27, .iload_n 1, [], []),
  (28, .iconst (-1), [], []),
  (29, .if_icmp .eq 16, [24], []),
  (32, .aload_n 0, [], []),
  (33, .bipush (-62), [], []),
  (35, .invokevirtual 96, [152, 194, 2, 1], [0, 0, 12]),
  (38, .pop, [], []),
  (39, .sipush (-700), [], []),
  (42, .iload_n 1, [], []),
  (43, .isub, [], []),
  (44, .ireturn, [1], []),
  (45, .iload_n 2, [], []),
  (46, .bipush 24, [], []),
  (48, .aload_n 0, [], []),
  (49, .getfield 12, [51, 12, 3], [10, 8, 0]),
  (52, .invokevirtual 197, [181, 110, 1, 1], [0, 0, 10]),
  (55, .isub, [], []),
  (56, .if_icmp .le 10, [35], []),
  (59, .aload_n 0, [], []),
  (60, .bipush (-66), [], []),
  (62, .invokevirtual 96, [152, 194, 2, 1], [0, 0, 12]),
  (65, .ireturn, [1], []),
  (66, .aload_n 0, [], []),
  (67, .iload_n 2, [], []),
  (68, .invokevirtual 198, [182, 160, 2, 1], [0, 0, 12]),
  (71, .ireturn, [1], [])]
set_option maxRecDepth 100000 in
noncomputable def zc_X11_ball : List (Nat × Jvm.ClassFile.Instr × List Nat × List Int) := [(0, .aload_n 0, [], []),
  (1, .iload_n 1, [], []),
  (2, .iload_n 2, [], []),
  (3, .iload_n 3, [], []),
  (4, .invokevirtual 201, [183, 158, 4, 0], [0, 0, 12]),
  (7, .aload_n 0, [], []),
  (8, .getfield 78, [62, 12, 3], [20, 6, 11]),
  (11, .iconst 3, [], []),
  (12, .iload 4, [], []),
  (14, .iastore, [], []),
  (15, .aload_n 0, [], []),
  (16, .iconst 3, [], []),
  (17, .iconst (-1), [], []),
  (18, .iconst (-1), [], []),
  (19, .invokevirtual 204, [184, 159, 4, 1], [0, 0, 12]),
  (22, .ireturn, [1], [])]
set_option maxRecDepth 100000 in
noncomputable def zc_X11_box : List (Nat × Jvm.ClassFile.Instr × List Nat × List Int) := [(0, .aload_n 0, [], []),
  (1, .iload_n 1, [], []),
  (2, .iload_n 2, [], []),
  (3, .iload_n 3, [], []),
  (4, .invokevirtual 201, [183, 158, 4, 0], [0, 0, 12]),
  (7, .aload_n 0, [], []),
  (8, .getfield 78, [62, 12, 3], [20, 6, 11]),
  (11, .iconst 3, [], []),
  (12, .iload 4, [], []),
  (14, .iastore, [], []),
  (15, .aload_n 0, [], []),
  (16, .getfield 78, [62, 12, 3], [20, 6, 11]),
  (19, .iconst 4, [], []),
  (20, .iload 5, [], []),
  (22, .iastore, [], []),
  (23, .aload_n 0, [], []),
  (24, .getfield 78, [62, 12, 3], [20, 6, 11]),
  (27, .iconst 5, [], []),
  (28, .iload 6, [], []),
  (30, .iastore, [], []),
  (31, .aload_n 0, [], []),
  (32, .iconst 4, [], []),
  (33, .iconst (-1), [], []),
  (34, .iconst (-1), [], []),
  (35, .invokevirtual 204, [184, 159, 4, 1], [0, 0, 12]),
  (38, .ireturn, [1], [])]
set_option maxRecDepth 100000 in
noncomputable def zc_X11_half : List (Nat × Jvm.ClassFile.Instr × List Nat × List Int) := [(0, .aload_n 0, [], []),
  (1, .iload_n 1, [], []),
  (2, .iload_n 2, [], []),
  (3, .iload_n 3, [], []),
  (4, .invokevirtual 201, [183, 158, 4, 0], [0, 0, 12]),
  (7, .aload_n 0, [], []),
  (8, .getfield 78, [62, 12, 3], [20, 6, 11]),
  (11, .iconst 3, [], []),
  (12, .iload 4, [], []),
  (14, .iastore, [], []),
  (15, .aload_n 0, [], []),
  (16, .iconst 5, [], []),
  (17, .iconst (-1), [], []),
  (18, .iconst (-1), [], []),
  (19, .invokevirtual 204, [184, 159, 4, 1], [0, 0, 12]),
  (22, .ireturn, [1], [])]
set_option maxRecDepth 100000 in
noncomputable def zc_X11_pair : List (Nat × Jvm.ClassFile.Instr × List Nat × List Int) := [(0, .iload_n 1, [], []),
  (1, .bipush 8, [], []),
  (3, .bipush 10, [], []),
  (5, .invokestatic 92, [151, 200, 3, 4], [0, 0]),
  (8, .ifCond .eq 11, [9], []),
  (11, .aload_n 0, [], []),
  (12, .iload_n 3, [], []),
  (13, .invokevirtual 128, [161, 197, 2, 4], [0, 0, 12]),
  (16, .ifCond .ne 10, [13], []),
  (19, .aload_n 0, [], []),
  (20, .bipush (-62), [], []),
  (22, .invokevirtual 96, [152, 194, 2, 1], [0, 0, 12]),
  (25, .ireturn, [1], []),
  (26, .aload_n 0, [], []),
  (27, .iload_n 1, [], []),
  (28, .iload_n 2, [], []),
  (29, .iload_n 3, [], []),
  (30, .invokevirtual 204, [184, 159, 4, 1], [0, 0, 12]),
  (33, .ireturn, [1], [])]
set_option maxRecDepth 100000 in
noncomputable def zc_X11_blend : List (Nat × Jvm.ClassFile.Instr × List Nat × List Int) := [(0, .aload_n 0, [], []),
  (1, .iload_n 2, [], []),
  (2, .invokevirtual 128, [161, 197, 2, 4], [0, 0, 12]),
  (5, .ifCond .ne 10, [8], []),
  (8, .aload_n 0, [], []),
  (9, .bipush (-62), [], []),
  (11, .invokevirtual 96, [152, 194, 2, 1], [0, 0, 12]),
  (14, .ireturn, [1], []),
  (15, .aload_n 0, [], []),
  (16, .iload_n 3, [], []),
  (17, .iload 4, [], []),
  (19, .iconst 0, [], []),
  (20, .invokevirtual 201, [183, 158, 4, 0], [0, 0, 12]),
  (23, .aload_n 0, [], []),
  (24, .bipush 11, [], []),
  (26, .iload_n 1, [], []),
  (27, .iload_n 2, [], []),
  (28, .invokevirtual 204, [184, 159, 4, 1], [0, 0, 12]),
  (31, .ireturn, [1], [])]
set_option maxRecDepth 100000 in
noncomputable def zc_X11_shift : List (Nat × Jvm.ClassFile.Instr × List Nat × List Int) := [(0, .aload_n 0, [], []),
  (1, .iload_n 2, [], []),
  (2, .iload_n 3, [], []),
  (3, .iload 4, [], []),
  (5, .invokevirtual 201, [183, 158, 4, 0], [0, 0, 12]),
  (8, .aload_n 0, [], []),
  (9, .bipush 12, [], []),
  (11, .iload_n 1, [], []),
  (12, .iconst (-1), [], []),
  (13, .invokevirtual 204, [184, 159, 4, 1], [0, 0, 12]),
  (16, .ireturn, [1], [])]
set_option maxRecDepth 100000 in
noncomputable def zc_X11_change : List (Nat × Jvm.ClassFile.Instr × List Nat × List Int) := [(0, .iload_n 1, [], []),
  (1, .bipush 13, [], []),
  (3, .bipush 15, [], []),
  (5, .invokestatic 92, [151, 200, 3, 4], [0, 0]),
  (8, .ifCond .ne 10, [9], []),
  (11, .aload_n 0, [], []),
  (12, .bipush (-62), [], []),
  (14, .invokevirtual 96, [152, 194, 2, 1], [0, 0, 12]),
  (17, .ireturn, [1], []),
  (18, .aload_n 0, [], []),
  (19, .iload_n 3, [], []),
  (20, .iload 4, [], []),
  (22, .iconst 0, [], []),
  (23, .invokevirtual 201, [183, 158, 4, 0], [0, 0, 12]),
  (26, .aload_n 0, [], []),
  (27, .iload_n 1, [], []),
  (28, .iload_n 2, [], []),
  (29, .iconst (-1), [], []),
  (30, .invokevirtual 204, [184, 159, 4, 1], [0, 0, 12]),
  (33, .ireturn, [1], [])]
set_option maxRecDepth 100000 in
noncomputable def zc_X11_grown : List (Nat × Jvm.ClassFile.Instr × List Nat × List Int) := [(0, .iload_n 1, [], []),
  (1, .bipush 16, [], []),
  (3, .bipush 17, [], []),
  (5, .invokestatic 92, [151, 200, 3, 4], [0, 0]),
  (8, .ifCond .ne 10, [9], []),
  (11, .aload_n 0, [], []),
  (12, .bipush (-62), [], []),
  (14, .invokevirtual 96, [152, 194, 2, 1], [0, 0, 12]),
  (17, .ireturn, [1], []),
  (18, .aload_n 0, [], []),
  (19, .iload_n 3, [], []),
  (20, .iload 4, [], []),
  (22, .iconst 0, [], []),
  (23, .invokevirtual 201, [183, 158, 4, 0], [0, 0, 12]),
  (26, .aload_n 0, [], []),
  (27, .iload_n 1, [], []),
  (28, .iload_n 2, [], []),
  (29, .iconst (-1), [], []),
  (30, .invokevirtual 204, [184, 159, 4, 1], [0, 0, 12]),
  (33, .ireturn, [1], [])]
set_option maxRecDepth 100000 in
noncomputable def zc_X11_putNumbers : List (Nat × Jvm.ClassFile.Instr × List Nat × List Int) := [(0, .aload_n 0, [], []),
  (1, .getfield 78, [62, 12, 3], [20, 6, 11]),
  (4, .iconst 0, [], []),
  (5, .iload_n 1, [], []),
  (6, .iastore, [], []),
  (7, .aload_n 0, [], []),
  (8, .getfield 78, [62, 12, 3], [20, 6, 11]),
  (11, .iconst 1, [], []),
  (12, .iload_n 2, [], []),
  (13, .iastore, [], []),
  (14, .aload_n 0, [], []),
  (15, .getfield 78, [62, 12, 3], [20, 6, 11]),
  (18, .iconst 2, [], []),
  (19, .iload_n 3, [], []),
  (20, .iastore, [], []),
  (21, .return_, [], [])]
set_option maxRecDepth 100000 in
noncomputable def zc_X11_built : List (Nat × Jvm.ClassFile.Instr × List Nat × List Int) := [(0, .iload_n 1, [], []),
  (1, .invokestatic 208, [185, 27, 1, 4], [0, 0]),
  (4, .ifCond .ne 11, [7], []),
  (7, .aload_n 0, [], []),
  (8, .iload_n 2, [], []),
  (9, .invokevirtual 128, [161, 197, 2, 4], [0, 0, 12]),
  (12, .ifCond .eq 14, [12], []),
  (15, .iload_n 1, [], []),
  (16, .aload_n 0, [], []),
  (17, .getfield 78, [62, 12, 3], [20, 6, 11]),
  (20, .invokestatic 211, [186, 30, 2, 4], [0, 0]),
  (23, .ifCond .ne 10, [16], []),
  (26, .aload_n 0, [], []),
  (27, .bipush (-62), [], []),
  (29, .invokevirtual 96, [152, 194, 2, 1], [0, 0, 12]),
  (32, .ireturn, [1], []),
  (33, .aload_n 0, [], []),
  (34, .getfield 12, [51, 12, 3], [10, 8, 0]),
  (37, .iload_n 1, [], []),
  (38, .iload_n 2, [], []),
  (39, .iload_n 3, [], []),
  (40, .invokevirtual 215, [187, 119, 4, 4], [0, 0, 10]),
  (43, .ifCond .eq 10, [27], []),
  (46, .aload_n 0, [], []),
  (47, .bipush (-65), [], []),
  (49, .invokevirtual 96, [152, 194, 2, 1], [0, 0, 12]),
  (52, .ireturn, [1], []),
  (53, .aload_n 0, [], []),
  (54, .getfield 12, [51, 12, 3], [10, 8, 0]),
  (57, .invokevirtual 197, [181, 110, 1, 1], [0, 0, 10]),
  (60, .bipush 24, [], []),
  (62, .if_icmp .lt 10, [36], []),
  (65, .aload_n 0, [], []),
  (66, .bipush (-66), [], []),
  (68, .invokevirtual 96, [152, 194, 2, 1], [0, 0, 12]),
  (71, .ireturn, [1], []),
  (72, .aload_n 0, [], []),
  (73, .getfield 12, [51, 12, 3], [10, 8, 0]),
  (76, .aload_n 0, [], []),
  (77, .getfield 12, [51, 12, 3], [10, 8, 0]),
  (80, .invokevirtual 197, [181, 110, 1, 1], [0, 0, 10]),
  (83, .iload_n 1, [], []),
  (84, .iload_n 2, [], []),
  (85, .iload_n 3, [], []),
  (86, .aload_n 0, [], []),
  (87, .getfield 78, [62, 12, 3], [20, 6, 11]),
  (90, .invokevirtual 218, [188, 122, 6, 0], [0, 0, 10]),
  (93, .aload_n 0, [], []),
  (94, .iconst 1, [], []),
  (95, .invokevirtual 198, [182, 160, 2, 1], [0, 0, 12]),
  (98, .ireturn, [1], [])]
set_option maxRecDepth 100000 in
noncomputable def zc_X11_added : List (Nat × Jvm.ClassFile.Instr × List Nat × List Int) := [(0, .aload_n 0, [], []),
  (1, .getfield 46, [57, 12, 3], [4, 5, 6]),
  (4, .aload_n 0, [], []),
  (5, .getfield 12, [51, 12, 3], [10, 8, 0]),
  (8, .invokevirtual 197, [181, 110, 1, 1], [0, 0, 10]),
  (11, .invokevirtual 222, [189, 36, 2, 0], [0, 0, 4]),
  (14, .aload_n 0, [], []),
  (15, .getfield 12, [51, 12, 3], [10, 8, 0]),
  (18, .aload_n 0, [], []),
  (19, .getfield 12, [51, 12, 3], [10, 8, 0]),
  (22, .invokevirtual 197, [181, 110, 1, 1], [0, 0, 10]),
  (25, .iload_n 1, [], []),
  (26, .iadd, [], []),
  (27, .invokevirtual 225, [190, 111, 2, 0], [0, 0, 10]),
  (30, .aload_n 0, [], []),
  (31, .getfield 12, [51, 12, 3], [10, 8, 0]),
  (34, .invokevirtual 197, [181, 110, 1, 1], [0, 0, 10]),
  (37, .iconst 1, [], []),
  (38, .isub, [], []),
  (39, .ireturn, [1], [])]
set_option maxRecDepth 100000 in
noncomputable def zc_X11_drop : List (Nat × Jvm.ClassFile.Instr × List Nat × List Int) := [(0, .aload_n 0, [], []),
  (1, .getfield 12, [51, 12, 3], [10, 8, 0]),
  (4, .invokevirtual 197, [181, 110, 1, 1], [0, 0, 10]),
  (7, .iconst 1, [], []),
  (8, .if_icmp .ge 10, [9], []),
  (11, .aload_n 0, [], []),
  (12, .bipush (-65), [], []),
  (14, .invokevirtual 96, [152, 194, 2, 1], [0, 0, 12]),
  (17, .ireturn, [1], []),
  (18, .aload_n 0, [], []),
  (19, .getfield 12, [51, 12, 3], [10, 8, 0]),
  (22, .aload_n 0, [], []),
  (23, .getfield 12, [51, 12, 3], [10, 8, 0]),
  (26, .invokevirtual 197, [181, 110, 1, 1], [0, 0, 10]),
  (29, .iconst 1, [], []),
  (30, .isub, [], []),
  (31, .invokevirtual 225, [190, 111, 2, 0], [0, 0, 10]),
  (34, .aload_n 0, [], []),
  (35, .aload_n 0, [], []),
  (36, .getfield 228, [65, 12, 1], [0, 0, 15]),
  (39, .aload_n 0, [], []),
  (40, .getfield 12, [51, 12, 3], [10, 8, 0]),
  (43, .invokevirtual 197, [181, 110, 1, 1], [0, 0, 10]),
  (46, .invokestatic 232, [191, 343, 2, 1], [0, 0]),
  (49, .putfield 228, [65, 12, 1], [0, 0, 15]),
  (52, .aload_n 0, [], []),
  (53, .getfield 32, [55, 12, 3], [8, 3, 4]),
  (56, .aload_n 0, [], []),
  (57, .getfield 12, [51, 12, 3], [10, 8, 0]),
  (60, .invokevirtual 197, [181, 110, 1, 1], [0, 0, 10]),
  (63, .invokevirtual 237, [192, 86, 2, 0], [0, 0, 8]),
  (66, .aload_n 0, [], []),
  (67, .getfield 12, [51, 12, 3], [10, 8, 0]),
  (70, .invokevirtual 197, [181, 110, 1, 1], [0, 0, 10]),
  (73, .ireturn, [1], [])]
set_option maxRecDepth 100000 in
noncomputable def zc_X11_shapeOf : List (Nat × Jvm.ClassFile.Instr × List Nat × List Int) := [(0, .aload_n 0, [], []),
  (1, .iload_n 1, [], []),
  (2, .invokevirtual 128, [161, 197, 2, 4], [0, 0, 12]),
  (5, .ifCond .ne 10, [8], []),
  (8, .aload_n 0, [], []),
  (9, .bipush (-62), [], []),
  (11, .invokevirtual 96, [152, 194, 2, 1], [0, 0, 12]),
  (14, .ireturn, [1], []),
  (15, .iload_n 2, [], []),
  (16, .tableswitch 81 0 4 #[36, 45, 54, 63, 72], [35, 10, 15, 20, 25, 30], []),
  (52, .aload_n 0, [], []),
  (53, .getfield 12, [51, 12, 3], [10, 8, 0]),
  (56, .iload_n 1, [], []),
  (57, .invokevirtual 166, [172, 112, 2, 1], [0, 0, 10]),
  (60, .ireturn, [1], []),
  (61, .aload_n 0, [], []),
  (62, .getfield 12, [51, 12, 3], [10, 8, 0]),
  (65, .iload_n 1, [], []),
  (66, .invokevirtual 139, [164, 113, 2, 1], [0, 0, 10]),
  (69, .ireturn, [1], []),
  (70, .aload_n 0, [], []),
  (71, .getfield 12, [51, 12, 3], [10, 8, 0]),
  (74, .iload_n 1, [], []),
  (75, .invokevirtual 142, [165, 114, 2, 1], [0, 0, 10]),
  (78, .ireturn, [1], []),
  (79, .aload_n 0, [], []),
  (80, .getfield 12, [51, 12, 3], [10, 8, 0]),
  (83, .iload_n 1, [], []),
  (84, .invokevirtual 145, [166, 115, 2, 1], [0, 0, 10]),
  (87, .ireturn, [1], []),
  (88, .aload_n 0, [], []),
  (89, .getfield 12, [51, 12, 3], [10, 8, 0]),
  (92, .iload_n 1, [], []),
  (93, .invokevirtual 240, [193, 116, 2, 1], [0, 0, 10]),
  (96, .ireturn, [1], []),
  (97, .aload_n 0, [], []),
  (98, .bipush (-62), [], []),
  (100, .invokevirtual 96, [152, 194, 2, 1], [0, 0, 12]),
  (103, .ireturn, [1], [])]
set_option maxRecDepth 100000 in
noncomputable def zc_X11_worth : List (Nat × Jvm.ClassFile.Instr × List Nat × List Int) := [(0, .aload_n 0, [], []),
  (1, .iload_n 1, [], []),
  (2, .invokevirtual 128, [161, 197, 2, 4], [0, 0, 12]),
  (5, .ifCond .eq 35, [18], []),
  (8, .iload_n 2, [], []),
  (9, .invokestatic 243, [194, 204, 1, 4], [0, 0]),
  (12, .ifCond .eq 28, [18], []),
  (15, .iload_n 3, [], []),
  (16, .invokestatic 243, [194, 204, 1, 4], [0, 0]),
  (19, .ifCond .eq 21, [18], []),
  (22, .iload 4, [], []),
  (24, .invokestatic 243, [194, 204, 1, 4], [0, 0]),
  (27, .ifCond .eq 13, [18], []),
  (30, .iload 5, [], []),
  (32, .iconst 0, [], []),
  (33, .iconst 1, [], []),
  (34, .invokestatic 92, [151, 200, 3, 4], [0, 0]),
  (37, .ifCond .ne 15, [25], []),
  (40, .aload_n 0, [], []),
  (41, .bipush (-62), [], []),
  (43, .invokevirtual 96, [152, 194, 2, 1], [0, 0, 12]),
  (46, .i2l, [], []),
  (47, .ldc2_w 246, [958], [(-9000000000000)]),
  (50, .ladd, [], []),
  (51, .lreturn, [], []),
  (52, .aload_n 0, [], []),
  (53, .getfield 60, [59, 12, 3], [5, 2, 8]),
  (56, .aload_n 0, [], []),
  (57, .getfield 12, [51, 12, 3], [10, 8, 0]),
  (60, .iload_n 1, [], []),
  (61, .iload_n 2, [], []),
  (62, .iload_n 3, [], []),
  (63, .iload 4, [], []),
  (65, .invokevirtual 248, [195, 42, 6, 3], [2, 2, 5]),
  (68, .astore 6, [], []),
  (70, .iload 5, [], []),
  (72, .ifCond .ne 11, [40], []),
  (75, .aload 6, [], []),
  (77, .invokevirtual 252, [196, 11, 1, 2], [0, 0, 2]),
  (80, .goto 8, [42], []),
  (83, .aload 6, [], []),
  (85, .invokevirtual 258, [197, 12, 1, 2], [0, 0, 2]),
  (88, .lreturn, [], [])]
set_option maxRecDepth 100000 in
noncomputable def zc_X11_bounds : List (Nat × Jvm.ClassFile.Instr × List Nat × List Int) := [(0, .aload_n 0, [], []),
  (1, .iload_n 1, [], []),
  (2, .invokevirtual 128, [161, 197, 2, 4], [0, 0, 12]),
  (5, .ifCond .eq 21, [13], []),
  (8, .iload_n 2, [], []),
  (9, .iload_n 3, [], []),
  (10, .invokestatic 261, [198, 207, 2, 4], [0, 0]),
  (13, .ifCond .eq 13, [13], []),
  (16, .iload 4, [], []),
  (18, .iconst 0, [], []),
  (19, .iconst 3, [], []),
  (20, .invokestatic 92, [151, 200, 3, 4], [0, 0]),
  (23, .ifCond .ne 15, [20], []),
  (26, .aload_n 0, [], []),
  (27, .bipush (-62), [], []),
  (29, .invokevirtual 96, [152, 194, 2, 1], [0, 0, 12]),
  (32, .i2l, [], []),
  (33, .ldc2_w 246, [958], [(-9000000000000)]),
  (36, .ladd, [], []),
  (37, .lreturn, [], []),
  (38, .aload_n 0, [], []),
  (39, .getfield 67, [60, 12, 3], [9, 3, 9]),
  (42, .iload_n 2, [], []),
  (43, .iconst 0, [], []),
  (44, .invokestatic 264, [199, 209, 2, 1], [0, 0]),
  (47, .iload_n 2, [], []),
  (48, .iconst 1, [], []),
  (49, .invokestatic 264, [199, 209, 2, 1], [0, 0]),
  (52, .iload_n 2, [], []),
  (53, .iconst 2, [], []),
  (54, .invokestatic 264, [199, 209, 2, 1], [0, 0]),
  (57, .invokevirtual 267, [200, 93, 4, 0], [0, 0, 9]),
  (60, .aload_n 0, [], []),
  (61, .getfield 67, [60, 12, 3], [9, 3, 9]),
  (64, .iload_n 3, [], []),
  (65, .iconst 0, [], []),
  (66, .invokestatic 264, [199, 209, 2, 1], [0, 0]),
  (69, .iload_n 3, [], []),
  (70, .iconst 1, [], []),
  (71, .invokestatic 264, [199, 209, 2, 1], [0, 0]),
  (74, .iload_n 3, [], []),
  (75, .iconst 2, [], []),
  (76, .invokestatic 264, [199, 209, 2, 1], [0, 0]),
  (79, .invokevirtual 270, [201, 94, 4, 0], [0, 0, 9]),
  (82, .aload_n 0, [], []),
  (83, .getfield 67, [60, 12, 3], [9, 3, 9]),
  (86, .aload_n 0, [], []),
  (87, .getfield 12, [51, 12, 3], [10, 8, 0]),
  (90, .iload_n 1, [], []),
  (91, .invokevirtual 273, [202, 97, 3, 0], [0, 0, 9]),
  (94, .iload 4, [], []),
  (96, .iconst 2, [], []),
  (97, .if_icmp .ge 13, [57], []),
  (100, .aload_n 0, [], []),
  (101, .getfield 67, [60, 12, 3], [9, 3, 9]),
  (104, .invokevirtual 277, [203, 95, 1, 3], [2, 2, 9]),
  (107, .goto 10, [60], []),
  (110, .aload_n 0, [], []),
  (111, .getfield 67, [60, 12, 3], [9, 3, 9]),
  (114, .invokevirtual 281, [204, 96, 1, 3], [2, 2, 9]),
  (117, .astore 5, [], []),
  (119, .iload 4, [], []),
  (121, .iconst 1, [], []),
  (122, .iand, [], []),
  (123, .ifCond .ne 11, [68], []),
  (126, .aload 5, [], []),
  (128, .invokevirtual 252, [196, 11, 1, 2], [0, 0, 2]),
  (131, .goto 8, [70], []),
  (134, .aload 5, [], []),
  (136, .invokevirtual 258, [197, 12, 1, 2], [0, 0, 2]),
  (139, .lreturn, [], [])]
set_option maxRecDepth 100000 in
noncomputable def zc_X11_in : List (Nat × Jvm.ClassFile.Instr × List Nat × List Int) := [(0, .aload_n 0, [], []),
  (1, .iload_n 1, [], []),
  (2, .invokevirtual 128, [161, 197, 2, 4], [0, 0, 12]),
  (5, .ifCond .eq 10, [7], []),
  (8, .iload_n 2, [], []),
  (9, .invokestatic 284, [205, 202, 1, 4], [0, 0]),
  (12, .ifCond .ne 10, [11], []),
  (15, .aload_n 0, [], []),
  (16, .bipush (-62), [], []),
  (18, .invokevirtual 96, [152, 194, 2, 1], [0, 0, 12]),
  (21, .ireturn, [1], []),
  (22, .aload_n 0, [], []),
  (23, .iload_n 1, [], []),
  (24, .invokevirtual 148, [167, 198, 2, 3], [6, 1, 12]),
  (27, .iload_n 2, [], []),
  (28, .invokevirtual 287, [206, 49, 2, 4], [0, 0, 6]),
  (31, .ifCond .eq 7, [19], []),
  (34, .iconst 1, [], []),
  (35, .goto 4, [20], []),
  (38, .iconst 0, [], []),
  (39, .ireturn, [1], [])]
set_option maxRecDepth 100000 in
noncomputable def zc_X11_count : List (Nat × Jvm.ClassFile.Instr × List Nat × List Int) := [(0, .aload_n 0, [], []),
  (1, .iload_n 1, [], []),
  (2, .invokevirtual 128, [161, 197, 2, 4], [0, 0, 12]),
  (5, .ifCond .eq 12, [9], []),
  (8, .iload_n 2, [], []),
  (9, .iconst 0, [], []),
  (10, .iconst 1, [], []),
  (11, .invokestatic 92, [151, 200, 3, 4], [0, 0]),
  (14, .ifCond .ne 10, [13], []),
  (17, .aload_n 0, [], []),
  (18, .bipush (-62), [], []),
  (20, .invokevirtual 96, [152, 194, 2, 1], [0, 0, 12]),
  (23, .ireturn, [1], []),
  (24, .iload_n 2, [], []),
  (25, .ifCond .ne 14, [20], []),
  (28, .aload_n 0, [], []),
  (29, .iload_n 1, [], []),
  (30, .invokevirtual 148, [167, 198, 2, 3], [6, 1, 12]),
  (33, .invokevirtual 152, [168, 57, 1, 1], [0, 0, 6]),
  (36, .goto 15, [26], []),
  (39, .aload_n 0, [], []),
  (40, .getfield 46, [57, 12, 3], [4, 5, 6]),
  (43, .aload_n 0, [], []),
  (44, .getfield 12, [51, 12, 3], [10, 8, 0]),
  (47, .iload_n 1, [], []),
  (48, .invokevirtual 290, [207, 38, 3, 1], [0, 0, 4]),
  (51, .ireturn, [1], [])]
set_option maxRecDepth 100000 in
noncomputable def zc_X11_placeOf : List (Nat × Jvm.ClassFile.Instr × List Nat × List Int) := [(0, .aload_n 0, [], []),
  (1, .iload_n 1, [], []),
  (2, .invokevirtual 128, [161, 197, 2, 4], [0, 0, 12]),
  (5, .ifCond .ne 10, [8], []),
  (8, .aload_n 0, [], []),
  (9, .bipush (-62), [], []),
  (11, .invokevirtual 96, [152, 194, 2, 1], [0, 0, 12]),
  (14, .ireturn, [1], []),
  (15, .aload_n 0, [], []),
  (16, .iload_n 1, [], []),
  (17, .invokevirtual 148, [167, 198, 2, 3], [6, 1, 12]),
  (20, .iload_n 2, [], []),
  (21, .invokevirtual 294, [208, 61, 2, 1], [0, 0, 6]),
  (24, .istore_n 3, [], []),
  (25, .iload_n 3, [], []),
  (26, .iconst (-1), [], []),
  (27, .if_icmp .ne 12, [21], []),
  (30, .aload_n 0, [], []),
  (31, .bipush (-62), [], []),
  (33, .invokevirtual 96, [152, 194, 2, 1], [0, 0, 12]),
  (36, .goto 4, [22], []),
  (39, .iload_n 3, [], []),
  (40, .ireturn, [1], [])]
set_option maxRecDepth 100000 in
noncomputable def zc_X11_slice : List (Nat × Jvm.ClassFile.Instr × List Nat × List Int) := [(0, .aload_n 0, [], []),
  (1, .iload_n 1, [], []),
  (2, .invokevirtual 128, [161, 197, 2, 4], [0, 0, 12]),
  (5, .ifCond .eq 20, [12], []),
  (8, .iload_n 2, [], []),
  (9, .invokestatic 297, [209, 203, 1, 4], [0, 0]),
  (12, .ifCond .eq 13, [12], []),
  (15, .iload_n 3, [], []),
  (16, .iconst 0, [], []),
  (17, .bipush 15, [], []),
  (19, .invokestatic 92, [151, 200, 3, 4], [0, 0]),
  (22, .ifCond .ne 10, [16], []),
  (25, .aload_n 0, [], []),
  (26, .bipush (-62), [], []),
  (28, .invokevirtual 96, [152, 194, 2, 1], [0, 0, 12]),
  (31, .ireturn, [1], []),
  (32, .aload_n 0, [], []),
  (33, .iload_n 1, [], []),
  (34, .invokevirtual 148, [167, 198, 2, 3], [6, 1, 12]),
  (37, .iload_n 2, [], []),
  (38, .iload_n 3, [], []),
  (39, .invokevirtual 300, [210, 60, 3, 1], [0, 0, 6]),
  (42, .ireturn, [1], [])]
set_option maxRecDepth 100000 in
noncomputable def zc_X11_reach : List (Nat × Jvm.ClassFile.Instr × List Nat × List Int) := [(0, .aload_n 0, [], []),
  (1, .iload_n 1, [], []),
  (2, .invokevirtual 128, [161, 197, 2, 4], [0, 0, 12]),
  (5, .ifCond .eq 19, [12], []),
  (8, .iload_n 2, [], []),
  (9, .invokestatic 297, [209, 203, 1, 4], [0, 0]),
  (12, .ifCond .eq 12, [12], []),
  (15, .iload_n 3, [], []),
  (16, .iconst 0, [], []),
  (17, .iconst 1, [], []),
  (18, .invokestatic 92, [151, 200, 3, 4], [0, 0]),
  (21, .ifCond .ne 10, [16], []),
  (24, .aload_n 0, [], []),
  (25, .bipush (-62), [], []),
  (27, .invokevirtual 96, [152, 194, 2, 1], [0, 0, 12]),
  (30, .ireturn, [1], []),
  (31, .aload_n 0, [], []),
  (32, .iload_n 1, [], []),
  (33, .invokevirtual 148, [167, 198, 2, 3], [6, 1, 12]),
  (36, .astore 4, [], []),
  (38, .iconst 0, [], []),
  (39, .istore 5, [], []),
  (41, .iload 5, [], []),
  (43, .bipush 16, [], []),
  (45, .if_icmp .ge 39, [42], []),
  (48, .iload_n 3, [], []),
  (49, .ifCond .ne 8, [29], []),
  (52, .iload 5, [], []),
  (54, .goto 8, [32], []),
  (57, .bipush 15, [], []),
  (59, .iload 5, [], []),
  (61, .isub, [], []),
  (62, .istore 6, [], []),
  (64, .aload 4, [], []),
  (66, .iload_n 2, [], []),
  (67, .iload 6, [], []),
  (69, .invokevirtual 300, [210, 60, 3, 1], [0, 0, 6]),
  (72, .ifCond .le 6, [40], []),
  (75, .iload 6, [], []),
  (77, .ireturn, [1], []),
  (78, .iinc 5 1, [], []),
  (81, .goto (-40), [22], []),
  (84, .iconst (-1), [], []),
  (85, .ireturn, [1], [])]
set_option maxRecDepth 100000 in
noncomputable def zc_X11_ray : List (Nat × Jvm.ClassFile.Instr × List Nat × List Int) := [(0, .aload_n 0, [], []),
  (1, .iload_n 1, [], []),
  (2, .invokevirtual 128, [161, 197, 2, 4], [0, 0, 12]),
  (5, .ifCond .eq 20, [12], []),
  (8, .iload_n 2, [], []),
  (9, .invokestatic 284, [205, 202, 1, 4], [0, 0]),
  (12, .ifCond .eq 13, [12], []),
  (15, .iload 6, [], []),
  (17, .iconst 0, [], []),
  (18, .iconst 2, [], []),
  (19, .invokestatic 92, [151, 200, 3, 4], [0, 0]),
  (22, .ifCond .ne 10, [16], []),
  (25, .aload_n 0, [], []),
  (26, .bipush (-62), [], []),
  (28, .invokevirtual 96, [152, 194, 2, 1], [0, 0, 12]),
  (31, .ireturn, [1], []),
  (32, .iload_n 3, [], []),
  (33, .invokestatic 303, [211, 205, 1, 4], [0, 0]),
  (36, .ifCond .eq 33, [31], []),
  (39, .iload 4, [], []),
  (41, .invokestatic 303, [211, 205, 1, 4], [0, 0]),
  (44, .ifCond .eq 25, [31], []),
  (47, .iload 5, [], []),
  (49, .invokestatic 303, [211, 205, 1, 4], [0, 0]),
  (52, .ifCond .eq 17, [31], []),
  (55, .iload_n 3, [], []),
  (56, .ifCond .ne 20, [35], []),
  (59, .iload 4, [], []),
  (61, .ifCond .ne 15, [35], []),
  (64, .iload 5, [], []),
  (66, .ifCond .ne 10, [35], []),
  (69, .aload_n 0, [], []),
  (70, .bipush (-62), [], []),
  (72, .invokevirtual 96, [152, 194, 2, 1], [0, 0, 12]),
  (75, .ireturn, [1], []),
  (76, .aload_n 0, [], []),
  (77, .getfield 53, [58, 12, 3], [11, 8, 7]),
  (80, .aload_n 0, [], []),
  (81, .iload_n 1, [], []),
  (82, .invokevirtual 148, [167, 198, 2, 3], [6, 1, 12]),
  (85, .iload_n 2, [], []),
  (86, .iload_n 3, [], []),
  (87, .iload 4, [], []),
  (89, .iload 5, [], []),
  (91, .invokevirtual 306, [212, 131, 6, 0], [0, 0, 11]),
  (94, .iload 6, [], []),
  (96, .lookupswitch 44 #[(0, 28), (1, 36)], [55, 47, 51], [0, 1]),
  (124, .aload_n 0, [], []),
  (125, .getfield 53, [58, 12, 3], [11, 8, 7]),
  (128, .invokevirtual 310, [213, 125, 1, 1], [0, 0, 11]),
  (131, .ireturn, [1], []),
  (132, .aload_n 0, [], []),
  (133, .getfield 53, [58, 12, 3], [11, 8, 7]),
  (136, .invokevirtual 313, [214, 126, 1, 1], [0, 0, 11]),
  (139, .ireturn, [1], []),
  (140, .aload_n 0, [], []),
  (141, .getfield 53, [58, 12, 3], [11, 8, 7]),
  (144, .invokevirtual 316, [215, 127, 1, 1], [0, 0, 11]),
  (147, .ireturn, [1], [])]
set_option maxRecDepth 100000 in
noncomputable def zc_X11_skin : List (Nat × Jvm.ClassFile.Instr × List Nat × List Int) := [(0, .aload_n 0, [], []),
  (1, .iload_n 1, [], []),
  (2, .invokevirtual 128, [161, 197, 2, 4], [0, 0, 12]),
  (5, .ifCond .ne 10, [8], []),
  (8, .aload_n 0, [], []),
  (9, .bipush (-62), [], []),
  (11, .invokevirtual 96, [152, 194, 2, 1], [0, 0, 12]),
  (14, .ireturn, [1], []),
  (15, .aload_n 0, [], []),
  (16, .getfield 53, [58, 12, 3], [11, 8, 7]),
  (19, .aload_n 0, [], []),
  (20, .iload_n 1, [], []),
  (21, .invokevirtual 148, [167, 198, 2, 3], [6, 1, 12]),
  (24, .invokevirtual 319, [216, 132, 2, 1], [0, 0, 11]),
  (27, .ireturn, [1], [])]
set_option maxRecDepth 100000 in
noncomputable def zc_X11_pieces : List (Nat × Jvm.ClassFile.Instr × List Nat × List Int) := [(0, .aload_n 0, [], []),
  (1, .iload_n 1, [], []),
  (2, .invokevirtual 128, [161, 197, 2, 4], [0, 0, 12]),
  (5, .ifCond .eq 12, [9], []),
  (8, .iload_n 2, [], []),
  (9, .iconst 0, [], []),
  (10, .iconst 2, [], []),
  (11, .invokestatic 92, [151, 200, 3, 4], [0, 0]),
  (14, .ifCond .ne 10, [13], []),
  (17, .aload_n 0, [], []),
  (18, .bipush (-62), [], []),
  (20, .invokevirtual 96, [152, 194, 2, 1], [0, 0, 12]),
  (23, .ireturn, [1], []),
  (24, .aload_n 0, [], []),
  (25, .getfield 53, [58, 12, 3], [11, 8, 7]),
  (28, .aload_n 0, [], []),
  (29, .iload_n 1, [], []),
  (30, .invokevirtual 148, [167, 198, 2, 3], [6, 1, 12]),
  (33, .invokevirtual 322, [217, 135, 2, 0], [0, 0, 11]),
  (36, .iload_n 2, [], []),
  (37, .lookupswitch 43 #[(0, 27), (1, 35)], [29, 21, 25], [0, 1]),
  (64, .aload_n 0, [], []),
  (65, .getfield 53, [58, 12, 3], [11, 8, 7]),
  (68, .invokevirtual 326, [218, 128, 1, 1], [0, 0, 11]),
  (71, .ireturn, [1], []),
  (72, .aload_n 0, [], []),
  (73, .getfield 53, [58, 12, 3], [11, 8, 7]),
  (76, .invokevirtual 329, [219, 129, 1, 1], [0, 0, 11]),
  (79, .ireturn, [1], []),
  (80, .aload_n 0, [], []),
  (81, .getfield 53, [58, 12, 3], [11, 8, 7]),
  (84, .invokevirtual 332, [220, 130, 1, 1], [0, 0, 11]),
  (87, .ireturn, [1], [])]
set_option maxRecDepth 100000 in
noncomputable def zc_X11_even : List (Nat × Jvm.ClassFile.Instr × List Nat × List Int) := [(0, .aload_n 0, [], []),
  (1, .iload_n 1, [], []),
  (2, .invokevirtual 128, [161, 197, 2, 4], [0, 0, 12]),
  (5, .ifCond .eq 10, [7], []),
  (8, .iload_n 2, [], []),
  (9, .invokestatic 297, [209, 203, 1, 4], [0, 0]),
  (12, .ifCond .ne 10, [11], []),
  (15, .aload_n 0, [], []),
  (16, .bipush (-62), [], []),
  (18, .invokevirtual 96, [152, 194, 2, 1], [0, 0, 12]),
  (21, .ireturn, [1], []),
  (22, .aload_n 0, [], []),
  (23, .iload_n 1, [], []),
  (24, .invokevirtual 148, [167, 198, 2, 3], [6, 1, 12]),
  (27, .astore_n 3, [], []),
  (28, .iconst 0, [], []),
  (29, .istore 4, [], []),
  (31, .iload 4, [], []),
  (33, .sipush 4096, [], []),
  (36, .if_icmp .ge 45, [42], []),
  (39, .iload 4, [], []),
  (41, .iload_n 2, [], []),
  (42, .bipush 15, [], []),
  (44, .iconst 2, [], []),
  (45, .iload 4, [], []),
  (47, .iload_n 2, [], []),
  (48, .invokestatic 264, [199, 209, 2, 1], [0, 0]),
  (51, .imul, [], []),
  (52, .isub, [], []),
  (53, .invokestatic 335, [221, 211, 3, 1], [0, 0]),
  (56, .istore 5, [], []),
  (58, .aload_n 3, [], []),
  (59, .iload 4, [], []),
  (61, .invokevirtual 287, [206, 49, 2, 4], [0, 0, 6]),
  (64, .aload_n 3, [], []),
  (65, .iload 5, [], []),
  (67, .invokevirtual 287, [206, 49, 2, 4], [0, 0, 6]),
  (70, .if_icmp .eq 5, [40], []),
  (73, .iconst 0, [], []),
  (74, .ireturn, [1], []),
  (75, .iinc 4 1, [], []),
  (78, .goto (-47), [17], []),
  (81, .iconst 1, [], []),
  (82, .ireturn, [1], [])]
set_option maxRecDepth 100000 in
noncomputable def zc_X11_both : List (Nat × Jvm.ClassFile.Instr × List Nat × List Int) := [(0, .aload_n 0, [], []),
  (1, .iload_n 1, [], []),
  (2, .invokevirtual 128, [161, 197, 2, 4], [0, 0, 12]),
  (5, .ifCond .eq 11, [8], []),
  (8, .aload_n 0, [], []),
  (9, .iload_n 2, [], []),
  (10, .invokevirtual 128, [161, 197, 2, 4], [0, 0, 12]),
  (13, .ifCond .ne 10, [12], []),
  (16, .aload_n 0, [], []),
  (17, .bipush (-62), [], []),
  (19, .invokevirtual 96, [152, 194, 2, 1], [0, 0, 12]),
  (22, .ireturn, [1], []),
  (23, .aload_n 0, [], []),
  (24, .iload_n 1, [], []),
  (25, .invokevirtual 148, [167, 198, 2, 3], [6, 1, 12]),
  (28, .aload_n 0, [], []),
  (29, .iload_n 2, [], []),
  (30, .invokevirtual 148, [167, 198, 2, 3], [6, 1, 12]),
  (33, .invokevirtual 160, [170, 58, 2, 1], [0, 0, 6]),
  (36, .ireturn, [1], [])]
set_option maxRecDepth 100000 in
noncomputable def zc_X11_differ : List (Nat × Jvm.ClassFile.Instr × List Nat × List Int) := [(0, .aload_n 0, [], []),
  (1, .iload_n 1, [], []),
  (2, .invokevirtual 128, [161, 197, 2, 4], [0, 0, 12]),
  (5, .ifCond .eq 11, [8], []),
  (8, .aload_n 0, [], []),
  (9, .iload_n 2, [], []),
  (10, .invokevirtual 128, [161, 197, 2, 4], [0, 0, 12]),
  (13, .ifCond .ne 10, [12], []),
  (16, .aload_n 0, [], []),
  (17, .bipush (-62), [], []),
  (19, .invokevirtual 96, [152, 194, 2, 1], [0, 0, 12]),
  (22, .ireturn, [1], []),
  (23, .aload_n 0, [], []),
  (24, .iload_n 1, [], []),
  (25, .invokevirtual 148, [167, 198, 2, 3], [6, 1, 12]),
  (28, .astore_n 3, [], []),
  (29, .aload_n 0, [], []),
  (30, .iload_n 2, [], []),
  (31, .invokevirtual 148, [167, 198, 2, 3], [6, 1, 12]),
  (34, .astore 4, [], []),
  (36, .iconst 0, [], []),
  (37, .istore 5, [], []),
  (39, .iload 5, [], []),
  (41, .sipush 4096, [], []),
  (44, .if_icmp .ge 28, [36], []),
  (47, .aload_n 3, [], []),
  (48, .iload 5, [], []),
  (50, .invokevirtual 287, [206, 49, 2, 4], [0, 0, 6]),
  (53, .aload 4, [], []),
  (55, .iload 5, [], []),
  (57, .invokevirtual 287, [206, 49, 2, 4], [0, 0, 6]),
  (60, .if_icmp .eq 6, [34], []),
  (63, .iload 5, [], []),
  (65, .ireturn, [1], []),
  (66, .iinc 5 1, [], []),
  (69, .goto (-30), [22], []),
  (72, .iconst (-1), [], []),
  (73, .ireturn, [1], [])]
set_option maxRecDepth 100000 in
noncomputable def zc_X11_apart : List (Nat × Jvm.ClassFile.Instr × List Nat × List Int) := [(0, .aload_n 0, [], []),
  (1, .iload_n 1, [], []),
  (2, .invokevirtual 128, [161, 197, 2, 4], [0, 0, 12]),
  (5, .ifCond .eq 18, [11], []),
  (8, .aload_n 0, [], []),
  (9, .iload_n 2, [], []),
  (10, .invokevirtual 128, [161, 197, 2, 4], [0, 0, 12]),
  (13, .ifCond .eq 10, [11], []),
  (16, .iload_n 3, [], []),
  (17, .invokestatic 297, [209, 203, 1, 4], [0, 0]),
  (20, .ifCond .ne 10, [15], []),
  (23, .aload_n 0, [], []),
  (24, .bipush (-62), [], []),
  (26, .invokevirtual 96, [152, 194, 2, 1], [0, 0, 12]),
  (29, .ireturn, [1], []),
  (30, .aload_n 0, [], []),
  (31, .iload_n 1, [], []),
  (32, .invokevirtual 148, [167, 198, 2, 3], [6, 1, 12]),
  (35, .astore 4, [], []),
  (37, .aload_n 0, [], []),
  (38, .iload_n 2, [], []),
  (39, .invokevirtual 148, [167, 198, 2, 3], [6, 1, 12]),
  (42, .astore 5, [], []),
  (44, .iconst 0, [], []),
  (45, .istore 6, [], []),
  (47, .iload 6, [], []),
  (49, .bipush 16, [], []),
  (51, .if_icmp .ge 25, [38], []),
  (54, .aload 4, [], []),
  (56, .aload 5, [], []),
  (58, .iload_n 3, [], []),
  (59, .iload 6, [], []),
  (61, .invokestatic 338, [222, 177, 4, 4], [0, 0]),
  (64, .ifCond .ne 6, [36], []),
  (67, .iload 6, [], []),
  (69, .ireturn, [1], []),
  (70, .iinc 6 1, [], []),
  (73, .goto (-26), [25], []),
  (76, .bipush 16, [], []),
  (78, .ireturn, [1], [])]
set_option maxRecDepth 100000 in
noncomputable def zc_X11_meets : List (Nat × Jvm.ClassFile.Instr × List Nat × List Int) := [(0, .iconst 0, [], []),
  (1, .istore 4, [], []),
  (3, .iload 4, [], []),
  (5, .sipush 4096, [], []),
  (8, .if_icmp .ge 34, [20], []),
  (11, .aload_n 0, [], []),
  (12, .iload 4, [], []),
  (14, .invokevirtual 287, [206, 49, 2, 4], [0, 0, 6]),
  (17, .ifCond .eq 19, [18], []),
  (20, .aload_n 1, [], []),
  (21, .iload 4, [], []),
  (23, .iload_n 2, [], []),
  (24, .iload_n 3, [], []),
  (25, .invokestatic 335, [221, 211, 3, 1], [0, 0]),
  (28, .invokevirtual 287, [206, 49, 2, 4], [0, 0, 6]),
  (31, .ifCond .eq 5, [18], []),
  (34, .iconst 1, [], []),
  (35, .ireturn, [4], []),
  (36, .iinc 4 1, [], []),
  (39, .goto (-36), [2], []),
  (42, .iconst 0, [], []),
  (43, .ireturn, [4], [])]
set_option maxRecDepth 100000 in
noncomputable def zc_X11_enough : List (Nat × Jvm.ClassFile.Instr × List Nat × List Int) := [(0, .aload_n 0, [], []),
  (1, .iload_n 1, [], []),
  (2, .invokevirtual 128, [161, 197, 2, 4], [0, 0, 12]),
  (5, .ifCond .eq 33, [18], []),
  (8, .aload_n 0, [], []),
  (9, .iload_n 2, [], []),
  (10, .invokevirtual 128, [161, 197, 2, 4], [0, 0, 12]),
  (13, .ifCond .eq 25, [18], []),
  (16, .iload_n 3, [], []),
  (17, .iconst 1, [], []),
  (18, .bipush 9, [], []),
  (20, .invokestatic 92, [151, 200, 3, 4], [0, 0]),
  (23, .ifCond .eq 15, [18], []),
  (26, .iload 4, [], []),
  (28, .iconst 0, [], []),
  (29, .sipush 4096, [], []),
  (32, .invokestatic 92, [151, 200, 3, 4], [0, 0]),
  (35, .ifCond .ne 10, [22], []),
  (38, .aload_n 0, [], []),
  (39, .bipush (-62), [], []),
  (41, .invokevirtual 96, [152, 194, 2, 1], [0, 0, 12]),
  (44, .ireturn, [1], []),
  (45, .aload_n 0, [], []),
  (46, .getfield 12, [51, 12, 3], [10, 8, 0]),
  (49, .bipush 11, [], []),
  (51, .iload_n 1, [], []),
  (52, .iload_n 2, [], []),
  (53, .invokevirtual 215, [187, 119, 4, 4], [0, 0, 10]),
  (56, .ifCond .eq 10, [33], []),
  (59, .aload_n 0, [], []),
  (60, .bipush (-65), [], []),
  (62, .invokevirtual 96, [152, 194, 2, 1], [0, 0, 12]),
  (65, .ireturn, [1], []),
  (66, .aload_n 0, [], []),
  (67, .iload_n 1, [], []),
  (68, .iload_n 2, [], []),
  (69, .iload_n 3, [], []),
  (70, .invokevirtual 342, [223, 179, 4, 0], [0, 0, 12]),
  (73, .iconst 0, [], []),
  (74, .istore 5, [], []),
  (76, .iload 5, [], []),
  (78, .iload_n 3, [], []),
  (79, .if_icmp .gt 34, [58], []),
  (82, .iload 5, [], []),
  (84, .aload_n 0, [], []),
  (85, .getfield 82, [63, 12, 3], [20, 10, 12]),
  (88, .arraylength, [], []),
  (89, .if_icmp .ge 24, [58], []),
  (92, .aload_n 0, [], []),
  (93, .getfield 82, [63, 12, 3], [20, 10, 12]),
  (96, .iload 5, [], []),
  (98, .iaload, [], []),
  (99, .iload 4, [], []),
  (101, .if_icmp .lt 6, [56], []),
  (104, .iload 5, [], []),
  (106, .ireturn, [1], []),
  (107, .iinc 5 1, [], []),
  (110, .goto (-34), [40], []),
  (113, .iconst (-1), [], []),
  (114, .ireturn, [1], [])]
set_option maxRecDepth 100000 in
noncomputable def zc_X11_countBlends : List (Nat × Jvm.ClassFile.Instr × List Nat × List Int) := [(0, .iconst 0, [], []),
  (1, .istore 4, [], []),
  (3, .iload 4, [], []),
  (5, .aload_n 0, [], []),
  (6, .getfield 82, [63, 12, 3], [20, 10, 12]),
  (9, .arraylength, [], []),
  (10, .if_icmp .ge 17, [14], []),
  (13, .aload_n 0, [], []),
  (14, .getfield 82, [63, 12, 3], [20, 10, 12]),
  (17, .iload 4, [], []),
  (19, .iconst 0, [], []),
  (20, .iastore, [], []),
  (21, .iinc 4 1, [], []),
  (24, .goto (-21), [2], []),
  (27, .iconst 0, [], []),
  (28, .istore 4, [], []),
  (30, .iload 4, [], []),
  (32, .sipush 4096, [], []),
  (35, .if_icmp .ge 117, [81], []),
  (38, .aload_n 0, [], []),
  (39, .iload_n 1, [], []),
  (40, .iload 4, [], []),
  (42, .invokevirtual 345, [224, 199, 3, 3], [2, 2, 12]),
  (45, .astore 5, [], []),
  (47, .aload 5, [], []),
  (49, .invokevirtual 252, [196, 11, 1, 2], [0, 0, 2]),
  (52, .lstore 6, [], []),
  (54, .aload 5, [], []),
  (56, .invokevirtual 258, [197, 12, 1, 2], [0, 0, 2]),
  (59, .lstore 8, [], []),
  (61, .aload_n 0, [], []),
  (62, .iload_n 2, [], []),
  (63, .iload 4, [], []),
  (65, .invokevirtual 345, [224, 199, 3, 3], [2, 2, 12]),
  (68, .astore 5, [], []),
  (70, .lload 6, [], []),
  (72, .aload 5, [], []),
  (74, .invokevirtual 258, [197, 12, 1, 2], [0, 0, 2]),
  (77, .lmul, [], []),
  (78, .lstore 6, [], []),
  (80, .aload 5, [], []),
  (82, .invokevirtual 252, [196, 11, 1, 2], [0, 0, 2]),
  (85, .lload 8, [], []),
  (87, .lmul, [], []),
  (88, .lstore 10, [], []),
  (90, .iconst 0, [], []),
  (91, .istore 12, [], []),
  (93, .iload 12, [], []),
  (95, .iload_n 3, [], []),
  (96, .if_icmp .gt 50, [79], []),
  (99, .iload 12, [], []),
  (101, .aload_n 0, [], []),
  (102, .getfield 82, [63, 12, 3], [20, 10, 12]),
  (105, .arraylength, [], []),
  (106, .if_icmp .ge 40, [79], []),
  (109, .lload 6, [], []),
  (111, .iload_n 3, [], []),
  (112, .iload 12, [], []),
  (114, .isub, [], []),
  (115, .i2l, [], []),
  (116, .lmul, [], []),
  (117, .lload 10, [], []),
  (119, .iload 12, [], []),
  (121, .i2l, [], []),
  (122, .lmul, [], []),
  (123, .ladd, [], []),
  (124, .lconst 0, [], []),
  (125, .lcmp, [], []),
  (126, .ifCond .gt 14, [77], []),
  (129, .aload_n 0, [], []),
  (130, .getfield 82, [63, 12, 3], [20, 10, 12]),
  (133, .iload 12, [], []),
  (135, .dup2, [], []),
  (136, .iaload, [], []),
  (137, .iconst 1, [], []),
  (138, .iadd, [], []),
  (139, .iastore, [], []),
  (140, .iinc 12 1, [], []),
  (143, .goto (-50), [47], []),
  (146, .iinc 4 1, [], []),
  (149, .goto (-119), [16], []),
  (152, .return_, [], [])]
set_option maxRecDepth 100000 in
noncomputable def zc_X11_kinds : List (Nat × Jvm.ClassFile.Instr × List Nat × List Int) := [(0, .aload_n 0, [], []),
  (1, .iload_n 1, [], []),
  (2, .invokevirtual 128, [161, 197, 2, 4], [0, 0, 12]),
  (5, .ifCond .eq 29, [16], []),
  (8, .aload_n 0, [], []),
  (9, .iload_n 2, [], []),
  (10, .invokevirtual 128, [161, 197, 2, 4], [0, 0, 12]),
  (13, .ifCond .eq 21, [16], []),
  (16, .iload_n 3, [], []),
  (17, .invokestatic 88, [150, 201, 1, 4], [0, 0]),
  (20, .ifCond .eq 14, [16], []),
  (23, .iload 4, [], []),
  (25, .iconst 0, [], []),
  (26, .bipush 20, [], []),
  (28, .invokestatic 92, [151, 200, 3, 4], [0, 0]),
  (31, .ifCond .ne 10, [20], []),
  (34, .aload_n 0, [], []),
  (35, .bipush (-62), [], []),
  (37, .invokevirtual 96, [152, 194, 2, 1], [0, 0, 12]),
  (40, .ireturn, [1], []),
  (41, .aload_n 0, [], []),
  (42, .iload_n 3, [], []),
  (43, .iload 4, [], []),
  (45, .invokevirtual 349, [225, 196, 3, 1], [0, 0, 12]),
  (48, .istore 5, [], []),
  (50, .iload 5, [], []),
  (52, .ifCond .eq 10, [31], []),
  (55, .aload_n 0, [], []),
  (56, .iload 5, [], []),
  (58, .invokevirtual 96, [152, 194, 2, 1], [0, 0, 12]),
  (61, .ireturn, [1], []),
  (62, .iconst 0, [], []),
  (63, .istore 6, [], []),
  (65, .bipush 8, [], []),
  (67, .istore 7, [], []),
  (69, .iload 7, [], []),
  (71, .bipush 10, [], []),
  (73, .if_icmp .gt 32, [54], []),
  (76, .aload_n 0, [], []),
  (77, .iload 7, [], []),
  (79, .iload_n 1, [], []),
  (80, .iload_n 2, [], []),
  (81, .iload_n 3, [], []),
  (82, .iload 4, [], []),
  (84, .invokevirtual 352, [226, 181, 6, 4], [0, 0, 12]),
  (87, .ifCond .eq 12, [52], []),
  (90, .iload 6, [], []),
  (92, .iconst 1, [], []),
  (93, .iload 7, [], []),
  (95, .ishl, [], []),
  (96, .ior, [], []),
  (97, .istore 6, [], []),
  (99, .iinc 7 1, [], []),
  (102, .goto (-33), [35], []),
  (105, .iload 6, [], []),
  (107, .ireturn, [1], [])]
set_option maxRecDepth 100000 in
noncomputable def zc_X11_isSoOfPair : List (Nat × Jvm.ClassFile.Instr × List Nat × List Int) := [(0, .iconst 0, [], []),
  (1, .istore 6, [], []),
  (3, .iload 6, [], []),
  (5, .iload 5, [], []),
  (7, .if_icmp .ge 64, [40], []),
  (10, .aload_n 0, [], []),
  (11, .getfield 32, [55, 12, 3], [8, 3, 4]),
  (14, .iload 4, [], []),
  (16, .iconst 2, [], []),
  (17, .iload 6, [], []),
  (19, .imul, [], []),
  (20, .iconst 1, [], []),
  (21, .iadd, [], []),
  (22, .invokevirtual 124, [160, 88, 3, 2], [0, 0, 8]),
  (25, .lconst 1, [], []),
  (26, .lcmp, [], []),
  (27, .ifCond .ne 7, [19], []),
  (30, .iconst 1, [], []),
  (31, .goto 4, [20], []),
  (34, .iconst 0, [], []),
  (35, .istore 7, [], []),
  (37, .aload_n 0, [], []),
  (38, .iload_n 1, [], []),
  (39, .iload_n 2, [], []),
  (40, .iload_n 3, [], []),
  (41, .aload_n 0, [], []),
  (42, .getfield 32, [55, 12, 3], [8, 3, 4]),
  (45, .iload 4, [], []),
  (47, .iconst 2, [], []),
  (48, .iload 6, [], []),
  (50, .imul, [], []),
  (51, .invokevirtual 124, [160, 88, 3, 2], [0, 0, 8]),
  (54, .l2i, [], []),
  (55, .invokevirtual 356, [227, 182, 5, 4], [0, 0, 12]),
  (58, .iload 7, [], []),
  (60, .if_icmp .eq 5, [38], []),
  (63, .iconst 0, [], []),
  (64, .ireturn, [4], []),
  (65, .iinc 6 1, [], []),
  (68, .goto (-65), [2], []),
  (71, .iconst 1, [], []),
  (72, .ireturn, [4], [])]
set_option maxRecDepth 100000 in
noncomputable def zc_X11_isInPair : List (Nat × Jvm.ClassFile.Instr × List Nat × List Int) := [(0, .aload_n 0, [], []),
  (1, .iload_n 2, [], []),
  (2, .iload 4, [], []),
  (4, .invokevirtual 345, [224, 199, 3, 3], [2, 2, 12]),
  (7, .invokevirtual 360, [228, 13, 1, 4], [0, 0, 2]),
  (10, .ifCond .ne 7, [8], []),
  (13, .iconst 1, [], []),
  (14, .goto 4, [9], []),
  (17, .iconst 0, [], []),
  (18, .istore 5, [], []),
  (20, .aload_n 0, [], []),
  (21, .iload_n 3, [], []),
  (22, .iload 4, [], []),
  (24, .invokevirtual 345, [224, 199, 3, 3], [2, 2, 12]),
  (27, .astore 6, [], []),
  (29, .iload_n 1, [], []),
  (30, .lookupswitch 64 #[(8, 26), (9, 45)], [35, 17, 26], [8, 9]),
  (56, .iload 5, [], []),
  (58, .ifCond .ne 11, [22], []),
  (61, .aload 6, [], []),
  (63, .invokevirtual 360, [228, 13, 1, 4], [0, 0, 2]),
  (66, .ifCond .ne 7, [24], []),
  (69, .iconst 1, [], []),
  (70, .goto 4, [25], []),
  (73, .iconst 0, [], []),
  (74, .ireturn, [4], []),
  (75, .iload 5, [], []),
  (77, .ifCond .eq 15, [33], []),
  (80, .aload 6, [], []),
  (82, .invokevirtual 360, [228, 13, 1, 4], [0, 0, 2]),
  (85, .ifCond .ne 7, [33], []),
  (88, .iconst 1, [], []),
  (89, .goto 4, [34], []),
  (92, .iconst 0, [], []),
  (93, .ireturn, [4], []),
  (94, .iload 5, [], []),
  (96, .ifCond .eq 15, [42], []),
  (99, .aload 6, [], []),
  (101, .invokevirtual 363, [229, 14, 1, 4], [0, 0, 2]),
  (104, .ifCond .ne 7, [42], []),
  (107, .iconst 1, [], []),
  (108, .goto 4, [43], []),
  (111, .iconst 0, [], []),
  (112, .ireturn, [4], [])]
set_option maxRecDepth 100000 in
noncomputable def zc_X11_judge : List (Nat × Jvm.ClassFile.Instr × List Nat × List Int) := [(0, .aload_n 0, [], []),
  (1, .iload_n 1, [], []),
  (2, .invokevirtual 128, [161, 197, 2, 4], [0, 0, 12]),
  (5, .ifCond .eq 20, [12], []),
  (8, .iload_n 2, [], []),
  (9, .invokestatic 88, [150, 201, 1, 4], [0, 0]),
  (12, .ifCond .eq 13, [12], []),
  (15, .iload_n 3, [], []),
  (16, .iconst 0, [], []),
  (17, .bipush 20, [], []),
  (19, .invokestatic 92, [151, 200, 3, 4], [0, 0]),
  (22, .ifCond .ne 10, [16], []),
  (25, .aload_n 0, [], []),
  (26, .bipush (-62), [], []),
  (28, .invokevirtual 96, [152, 194, 2, 1], [0, 0, 12]),
  (31, .ireturn, [1], []),
  (32, .aload_n 0, [], []),
  (33, .iload_n 2, [], []),
  (34, .iload_n 3, [], []),
  (35, .invokevirtual 349, [225, 196, 3, 1], [0, 0, 12]),
  (38, .istore 4, [], []),
  (40, .iload 4, [], []),
  (42, .ifCond .eq 10, [27], []),
  (45, .aload_n 0, [], []),
  (46, .iload 4, [], []),
  (48, .invokevirtual 96, [152, 194, 2, 1], [0, 0, 12]),
  (51, .ireturn, [1], []),
  (52, .iconst 0, [], []),
  (53, .istore 5, [], []),
  (55, .iload 5, [], []),
  (57, .iload_n 3, [], []),
  (58, .if_icmp .ge 64, [66], []),
  (61, .aload_n 0, [], []),
  (62, .getfield 32, [55, 12, 3], [8, 3, 4]),
  (65, .iload_n 2, [], []),
  (66, .iconst 2, [], []),
  (67, .iload 5, [], []),
  (69, .imul, [], []),
  (70, .iconst 1, [], []),
  (71, .iadd, [], []),
  (72, .invokevirtual 124, [160, 88, 3, 2], [0, 0, 8]),
  (75, .lconst 1, [], []),
  (76, .lcmp, [], []),
  (77, .ifCond .ne 7, [46], []),
  (80, .iconst 1, [], []),
  (81, .goto 4, [47], []),
  (84, .iconst 0, [], []),
  (85, .istore 6, [], []),
  (87, .aload_n 0, [], []),
  (88, .iload_n 1, [], []),
  (89, .invokevirtual 148, [167, 198, 2, 3], [6, 1, 12]),
  (92, .aload_n 0, [], []),
  (93, .getfield 32, [55, 12, 3], [8, 3, 4]),
  (96, .iload_n 2, [], []),
  (97, .iconst 2, [], []),
  (98, .iload 5, [], []),
  (100, .imul, [], []),
  (101, .invokevirtual 124, [160, 88, 3, 2], [0, 0, 8]),
  (104, .l2i, [], []),
  (105, .invokevirtual 287, [206, 49, 2, 4], [0, 0, 6]),
  (108, .iload 6, [], []),
  (110, .if_icmp .eq 6, [64], []),
  (113, .iload 5, [], []),
  (115, .ireturn, [1], []),
  (116, .iinc 5 1, [], []),
  (119, .goto (-64), [29], []),
  (122, .iconst (-1), [], []),
  (123, .ireturn, [1], [])]
set_option maxRecDepth 100000 in
noncomputable def zc_X11_carve : List (Nat × Jvm.ClassFile.Instr × List Nat × List Int) := [(0, .aload_n 0, [], []),
  (1, .iload_n 1, [], []),
  (2, .invokevirtual 128, [161, 197, 2, 4], [0, 0, 12]),
  (5, .ifCond .eq 12, [9], []),
  (8, .iload_n 2, [], []),
  (9, .iconst 0, [], []),
  (10, .iconst 3, [], []),
  (11, .invokestatic 92, [151, 200, 3, 4], [0, 0]),
  (14, .ifCond .ne 10, [13], []),
  (17, .aload_n 0, [], []),
  (18, .bipush (-62), [], []),
  (20, .invokevirtual 96, [152, 194, 2, 1], [0, 0, 12]),
  (23, .ireturn, [1], []),
  (24, .aload_n 0, [], []),
  (25, .getfield 22, [53, 12, 3], [1, 6, 2]),
  (28, .aload_n 0, [], []),
  (29, .iload_n 1, [], []),
  (30, .invokevirtual 148, [167, 198, 2, 3], [6, 1, 12]),
  (33, .iload_n 2, [], []),
  (34, .invokevirtual 366, [230, 7, 3, 1], [0, 0, 1]),
  (37, .ireturn, [1], [])]
set_option maxRecDepth 100000 in
noncomputable def zc_X11_undo : List (Nat × Jvm.ClassFile.Instr × List Nat × List Int) := [(0, .aload_n 0, [], []),
  (1, .getfield 22, [53, 12, 3], [1, 6, 2]),
  (4, .invokevirtual 370, [231, 2, 1, 1], [0, 0, 1]),
  (7, .iconst 1, [], []),
  (8, .if_icmp .ge 10, [9], []),
  (11, .aload_n 0, [], []),
  (12, .bipush (-65), [], []),
  (14, .invokevirtual 96, [152, 194, 2, 1], [0, 0, 12]),
  (17, .ireturn, [1], []),
  (18, .aload_n 0, [], []),
  (19, .getfield 22, [53, 12, 3], [1, 6, 2]),
  (22, .invokevirtual 373, [232, 8, 1, 0], [0, 0, 1]),
  (25, .aload_n 0, [], []),
  (26, .getfield 22, [53, 12, 3], [1, 6, 2]),
  (29, .invokevirtual 370, [231, 2, 1, 1], [0, 0, 1]),
  (32, .ireturn, [1], [])]
set_option maxRecDepth 100000 in
noncomputable def zc_X11_block : List (Nat × Jvm.ClassFile.Instr × List Nat × List Int) := [(0, .iload_n 1, [], []),
  (1, .tableswitch 75 0 2 #[27, 38, 53], [24, 2, 7, 14], []),
  (28, .aload_n 0, [], []),
  (29, .getfield 22, [53, 12, 3], [1, 6, 2]),
  (32, .invokevirtual 376, [233, 1, 1, 3], [6, 1, 1]),
  (35, .invokevirtual 152, [168, 57, 1, 1], [0, 0, 6]),
  (38, .ireturn, [1], []),
  (39, .aload_n 0, [], []),
  (40, .getfield 53, [58, 12, 3], [11, 8, 7]),
  (43, .aload_n 0, [], []),
  (44, .getfield 22, [53, 12, 3], [1, 6, 2]),
  (47, .invokevirtual 376, [233, 1, 1, 3], [6, 1, 1]),
  (50, .invokevirtual 319, [216, 132, 2, 1], [0, 0, 11]),
  (53, .ireturn, [1], []),
  (54, .aload_n 0, [], []),
  (55, .getfield 53, [58, 12, 3], [11, 8, 7]),
  (58, .aload_n 0, [], []),
  (59, .getfield 22, [53, 12, 3], [1, 6, 2]),
  (62, .invokevirtual 376, [233, 1, 1, 3], [6, 1, 1]),
  (65, .invokevirtual 322, [217, 135, 2, 0], [0, 0, 11]),
  (68, .aload_n 0, [], []),
  (69, .getfield 53, [58, 12, 3], [11, 8, 7]),
  (72, .invokevirtual 326, [218, 128, 1, 1], [0, 0, 11]),
  (75, .ireturn, [1], []),
  (76, .aload_n 0, [], []),
  (77, .bipush (-62), [], []),
  (79, .invokevirtual 96, [152, 194, 2, 1], [0, 0, 12]),
  (82, .ireturn, [1], [])]
set_option maxRecDepth 100000 in
noncomputable def zc_X11_has : List (Nat × Jvm.ClassFile.Instr × List Nat × List Int) := [(0, .iload_n 1, [], []),
  (1, .invokestatic 284, [205, 202, 1, 4], [0, 0]),
  (4, .ifCond .ne 10, [7], []),
  (7, .aload_n 0, [], []),
  (8, .bipush (-62), [], []),
  (10, .invokevirtual 96, [152, 194, 2, 1], [0, 0, 12]),
  (13, .ireturn, [1], []),
  (14, .aload_n 0, [], []),
  (15, .getfield 22, [53, 12, 3], [1, 6, 2]),
  (18, .invokevirtual 376, [233, 1, 1, 3], [6, 1, 1]),
  (21, .iload_n 1, [], []),
  (22, .invokevirtual 287, [206, 49, 2, 4], [0, 0, 6]),
  (25, .ifCond .eq 7, [15], []),
  (28, .iconst 1, [], []),
  (29, .goto 4, [16], []),
  (32, .iconst 0, [], []),
  (33, .ireturn, [1], [])]
set_option maxRecDepth 100000 in
noncomputable def zc_X11_off : List (Nat × Jvm.ClassFile.Instr × List Nat × List Int) := [(0, .aload_n 0, [], []),
  (1, .iload_n 1, [], []),
  (2, .invokevirtual 128, [161, 197, 2, 4], [0, 0, 12]),
  (5, .ifCond .ne 10, [8], []),
  (8, .aload_n 0, [], []),
  (9, .bipush (-62), [], []),
  (11, .invokevirtual 96, [152, 194, 2, 1], [0, 0, 12]),
  (14, .ireturn, [1], []),
  (15, .aload_n 0, [], []),
  (16, .iload_n 1, [], []),
  (17, .invokevirtual 148, [167, 198, 2, 3], [6, 1, 12]),
  (20, .aload_n 0, [], []),
  (21, .getfield 22, [53, 12, 3], [1, 6, 2]),
  (24, .invokevirtual 376, [233, 1, 1, 3], [6, 1, 1]),
  (27, .invokevirtual 156, [169, 59, 2, 1], [0, 0, 6]),
  (30, .ireturn, [1], [])]
set_option maxRecDepth 100000 in
noncomputable def zc_X11_days : List (Nat × Jvm.ClassFile.Instr × List Nat × List Int) := [(0, .iload_n 1, [], []),
  (1, .iconst 1, [], []),
  (2, .bipush 60, [], []),
  (4, .invokestatic 92, [151, 200, 3, 4], [0, 0]),
  (7, .ifCond .ne 10, [9], []),
  (10, .aload_n 0, [], []),
  (11, .bipush (-62), [], []),
  (13, .invokevirtual 96, [152, 194, 2, 1], [0, 0, 12]),
  (16, .ireturn, [1], []),
  (17, .iconst 0, [], []),
  (18, .istore_n 2, [], []),
  (19, .iload_n 2, [], []),
  (20, .iload_n 1, [], []),
  (21, .if_icmp .ge 86, [53], []),
  (24, .aload_n 0, [], []),
  (25, .getfield 22, [53, 12, 3], [1, 6, 2]),
  (28, .bipush 16, [], []),
  (30, .invokevirtual 380, [234, 6, 2, 1], [0, 0, 1]),
  (33, .istore_n 3, [], []),
  (34, .aload_n 0, [], []),
  (35, .getfield 22, [53, 12, 3], [1, 6, 2]),
  (38, .bipush 16, [], []),
  (40, .invokevirtual 380, [234, 6, 2, 1], [0, 0, 1]),
  (43, .istore 4, [], []),
  (45, .aload_n 0, [], []),
  (46, .getfield 22, [53, 12, 3], [1, 6, 2]),
  (49, .bipush 16, [], []),
  (51, .invokevirtual 380, [234, 6, 2, 1], [0, 0, 1]),
  (54, .istore 5, [], []),
  (56, .aload_n 0, [], []),
  (57, .getfield 22, [53, 12, 3], [1, 6, 2]),
  (60, .bipush 6, [], []),
  (62, .invokevirtual 380, [234, 6, 2, 1], [0, 0, 1]),
  (65, .istore 6, [], []),
  (67, .aload_n 0, [], []),
  (68, .getfield 74, [61, 12, 3], [6, 1, 10]),
  (71, .iload_n 3, [], []),
  (72, .iload 4, [], []),
  (74, .iload 5, [], []),
  (76, .iload 6, [], []),
  (78, .invokevirtual 383, [235, 54, 5, 0], [0, 0, 6]),
  (81, .aload_n 0, [], []),
  (82, .getfield 22, [53, 12, 3], [1, 6, 2]),
  (85, .aload_n 0, [], []),
  (86, .getfield 74, [61, 12, 3], [6, 1, 10]),
  (89, .aload_n 0, [], []),
  (90, .getfield 22, [53, 12, 3], [1, 6, 2]),
  (93, .iconst 4, [], []),
  (94, .invokevirtual 380, [234, 6, 2, 1], [0, 0, 1]),
  (97, .invokevirtual 366, [230, 7, 3, 1], [0, 0, 1]),
  (100, .pop, [], []),
  (101, .iinc 2 1, [], []),
  (104, .goto (-85), [11], []),
  (107, .aload_n 0, [], []),
  (108, .getfield 22, [53, 12, 3], [1, 6, 2]),
  (111, .invokevirtual 376, [233, 1, 1, 3], [6, 1, 1]),
  (114, .invokevirtual 152, [168, 57, 1, 1], [0, 0, 6]),
  (117, .ireturn, [1], [])]
set_option maxRecDepth 100000 in
noncomputable def zc_X11_seed : List (Nat × Jvm.ClassFile.Instr × List Nat × List Int) := [(0, .aload_n 0, [], []),
  (1, .getfield 22, [53, 12, 3], [1, 6, 2]),
  (4, .invokevirtual 387, [236, 4, 1, 1], [0, 0, 1]),
  (7, .istore_n 2, [], []),
  (8, .aload_n 0, [], []),
  (9, .getfield 22, [53, 12, 3], [1, 6, 2]),
  (12, .iload_n 1, [], []),
  (13, .invokevirtual 390, [237, 5, 2, 0], [0, 0, 1]),
  (16, .iload_n 2, [], []),
  (17, .ireturn, [1], [])]
set_option maxRecDepth 100000 in
noncomputable def zc_X11_image : List (Nat × Jvm.ClassFile.Instr × List Nat × List Int) := [(0, .aload_n 0, [], []),
  (1, .getfield 16, [52, 12, 3], [10, 8, 1]),
  (4, .aload_n 0, [], []),
  (5, .getfield 12, [51, 12, 3], [10, 8, 0]),
  (8, .invokevirtual 393, [238, 123, 2, 0], [0, 0, 10]),
  (11, .aload_n 0, [], []),
  (12, .getfield 26, [54, 12, 3], [1, 6, 3]),
  (15, .aload_n 0, [], []),
  (16, .getfield 22, [53, 12, 3], [1, 6, 2]),
  (19, .invokevirtual 397, [239, 9, 2, 0], [0, 0, 1]),
  (22, .aload_n 0, [], []),
  (23, .iconst 1, [], []),
  (24, .putfield 400, [66, 12, 6], [0, 0, 14]),
  (27, .aload_n 0, [], []),
  (28, .aload_n 0, [], []),
  (29, .getfield 12, [51, 12, 3], [10, 8, 0]),
  (32, .invokevirtual 197, [181, 110, 1, 1], [0, 0, 10]),
  (35, .putfield 228, [65, 12, 1], [0, 0, 15]),
  (38, .iconst 1, [], []),
  (39, .ireturn, [1], [])]
set_option maxRecDepth 100000 in
noncomputable def zc_X11_back : List (Nat × Jvm.ClassFile.Instr × List Nat × List Int) := [(0, .aload_n 0, [], []),
  (1, .getfield 400, [66, 12, 1], [0, 0, 14]),
  (4, .ifCond .ne 10, [7], []),
  (7, .aload_n 0, [], []),
  (8, .bipush (-65), [], []),
  (10, .invokevirtual 96, [152, 194, 2, 1], [0, 0, 12]),
  (13, .ireturn, [1], []),
  (14, .aload_n 0, [], []),
  (15, .getfield 12, [51, 12, 3], [10, 8, 0]),
  (18, .aload_n 0, [], []),
  (19, .getfield 16, [52, 12, 3], [10, 8, 1]),
  (22, .invokevirtual 393, [238, 123, 2, 0], [0, 0, 10]),
  (25, .aload_n 0, [], []),
  (26, .getfield 22, [53, 12, 3], [1, 6, 2]),
  (29, .aload_n 0, [], []),
  (30, .getfield 26, [54, 12, 3], [1, 6, 3]),
  (33, .invokevirtual 397, [239, 9, 2, 0], [0, 0, 1]),
  (36, .aload_n 0, [], []),
  (37, .getfield 46, [57, 12, 3], [4, 5, 6]),
  (40, .aload_n 0, [], []),
  (41, .getfield 228, [65, 12, 1], [0, 0, 15]),
  (44, .invokevirtual 222, [189, 36, 2, 0], [0, 0, 4]),
  (47, .aload_n 0, [], []),
  (48, .aload_n 0, [], []),
  (49, .getfield 12, [51, 12, 3], [10, 8, 0]),
  (52, .invokevirtual 197, [181, 110, 1, 1], [0, 0, 10]),
  (55, .putfield 228, [65, 12, 1], [0, 0, 15]),
  (58, .aload_n 0, [], []),
  (59, .getfield 32, [55, 12, 3], [8, 3, 4]),
  (62, .aload_n 0, [], []),
  (63, .getfield 12, [51, 12, 3], [10, 8, 0]),
  (66, .invokevirtual 197, [181, 110, 1, 1], [0, 0, 10]),
  (69, .invokevirtual 237, [192, 86, 2, 0], [0, 0, 8]),
  (72, .iconst 1, [], []),
  (73, .ireturn, [1], [])]
set_option maxRecDepth 100000 in
noncomputable def zc_X11_status : List (Nat × Jvm.ClassFile.Instr × List Nat × List Int) := [(0, .iload_n 1, [], []),
  (1, .tableswitch 102 0 6 #[43, 51, 59, 70, 78, 86, 94], [31, 2, 6, 10, 15, 19, 23, 27], []),
  (44, .aload_n 0, [], []),
  (45, .getfield 12, [51, 12, 3], [10, 8, 0]),
  (48, .invokevirtual 197, [181, 110, 1, 1], [0, 0, 10]),
  (51, .ireturn, [1], []),
  (52, .aload_n 0, [], []),
  (53, .getfield 22, [53, 12, 3], [1, 6, 2]),
  (56, .invokevirtual 370, [231, 2, 1, 1], [0, 0, 1]),
  (59, .ireturn, [1], []),
  (60, .aload_n 0, [], []),
  (61, .getfield 22, [53, 12, 3], [1, 6, 2]),
  (64, .invokevirtual 376, [233, 1, 1, 3], [6, 1, 1]),
  (67, .invokevirtual 152, [168, 57, 1, 1], [0, 0, 6]),
  (70, .ireturn, [1], []),
  (71, .aload_n 0, [], []),
  (72, .getfield 22, [53, 12, 3], [1, 6, 2]),
  (75, .invokevirtual 404, [240, 3, 1, 1], [0, 0, 1]),
  (78, .ireturn, [1], []),
  (79, .aload_n 0, [], []),
  (80, .getfield 39, [56, 12, 3], [7, 11, 5]),
  (83, .invokevirtual 186, [177, 63, 1, 1], [0, 0, 7]),
  (86, .ireturn, [1], []),
  (87, .aload_n 0, [], []),
  (88, .getfield 22, [53, 12, 3], [1, 6, 2]),
  (91, .invokevirtual 387, [236, 4, 1, 1], [0, 0, 1]),
  (94, .ireturn, [1], []),
  (95, .aload_n 0, [], []),
  (96, .getfield 32, [55, 12, 3], [8, 3, 4]),
  (99, .invokevirtual 407, [241, 83, 1, 1], [0, 0, 8]),
  (102, .ireturn, [1], []),
  (103, .iload_n 1, [], []),
  (104, .bipush 12, [], []),
  (106, .bipush 11, [], []),
  (108, .aload_n 0, [], []),
  (109, .getfield 85, [64, 12, 3], [20, 5, 13]),
  (112, .arraylength, [], []),
  (113, .iadd, [], []),
  (114, .invokestatic 92, [151, 200, 3, 4], [0, 0]),
  (117, .ifCond .eq 15, [47], []),
  (120, .aload_n 0, [], []),
  (121, .getfield 85, [64, 12, 3], [20, 5, 13]),
  (124, .iload_n 1, [], []),
  (125, .bipush 12, [], []),
  (127, .isub, [], []),
  (128, .iaload, [], []),
  (129, .goto 4, [48], []),
  (132, .iconst (-1), [], []),
  (133, .ireturn, [1], [])]
set_option maxRecDepth 100000 in
noncomputable def zc_X11_refused : List (Nat × Jvm.ClassFile.Instr × List Nat × List Int) := [(0, .bipush (-62), [], []),
  (2, .iload_n 1, [], []),
  (3, .isub, [], []),
  (4, .istore_n 2, [], []),
  (5, .iload_n 2, [], []),
  (6, .ifCond .lt 22, [19], []),
  (9, .iload_n 2, [], []),
  (10, .aload_n 0, [], []),
  (11, .getfield 85, [64, 12, 3], [20, 5, 13]),
  (14, .arraylength, [], []),
  (15, .if_icmp .ge 13, [19], []),
  (18, .aload_n 0, [], []),
  (19, .getfield 85, [64, 12, 3], [20, 5, 13]),
  (22, .iload_n 2, [], []),
  (23, .dup2, [], []),
  (24, .iaload, [], []),
  (25, .iconst 1, [], []),
  (26, .iadd, [], []),
  (27, .iastore, [], []),
  (28, .iload_n 1, [], []),
  (29, .ireturn, [1], [])]
set_option maxRecDepth 100000 in
noncomputable def zc_X11_rowRefusal : List (Nat × Jvm.ClassFile.Instr × List Nat × List Int) := [(0, .iload_n 1, [], []),
  (1, .invokestatic 88, [150, 201, 1, 4], [0, 0]),
  (4, .ifCond .ne 6, [5], []),
  (7, .bipush (-62), [], []),
  (9, .ireturn, [1], []),
  (10, .aload_n 0, [], []),
  (11, .getfield 32, [55, 12, 3], [8, 3, 4]),
  (14, .iload_n 1, [], []),
  (15, .invokevirtual 114, [157, 81, 2, 1], [0, 0, 8]),
  (18, .istore_n 2, [], []),
  (19, .iload_n 2, [], []),
  (20, .bipush 10, [], []),
  (22, .if_icmp .lt 6, [15], []),
  (25, .bipush (-63), [], []),
  (27, .ireturn, [1], []),
  (28, .iload_n 2, [], []),
  (29, .iconst (-1), [], []),
  (30, .if_icmp .ne 8, [20], []),
  (33, .bipush (-64), [], []),
  (35, .goto 4, [21], []),
  (38, .iconst 0, [], []),
  (39, .ireturn, [1], [])]
set_option maxRecDepth 100000 in
noncomputable def zc_X11_toldRefusal : List (Nat × Jvm.ClassFile.Instr × List Nat × List Int) := [(0, .aload_n 0, [], []),
  (1, .iload_n 1, [], []),
  (2, .invokevirtual 104, [154, 195, 2, 1], [0, 0, 12]),
  (5, .istore_n 3, [], []),
  (6, .iload_n 3, [], []),
  (7, .ifCond .eq 5, [8], []),
  (10, .iload_n 3, [], []),
  (11, .ireturn, [1], []),
  (12, .aload_n 0, [], []),
  (13, .getfield 32, [55, 12, 3], [8, 3, 4]),
  (16, .iload_n 1, [], []),
  (17, .invokevirtual 107, [155, 82, 2, 1], [0, 0, 8]),
  (20, .iconst 2, [], []),
  (21, .iload_n 2, [], []),
  (22, .imul, [], []),
  (23, .if_icmp .ge 6, [18], []),
  (26, .bipush (-62), [], []),
  (28, .ireturn, [1], []),
  (29, .iconst 0, [], []),
  (30, .istore 4, [], []),
  (32, .iload 4, [], []),
  (34, .iload_n 2, [], []),
  (35, .if_icmp .ge 72, [61], []),
  (38, .aload_n 0, [], []),
  (39, .getfield 32, [55, 12, 3], [8, 3, 4]),
  (42, .iload_n 1, [], []),
  (43, .iconst 2, [], []),
  (44, .iload 4, [], []),
  (46, .imul, [], []),
  (47, .invokevirtual 124, [160, 88, 3, 2], [0, 0, 8]),
  (50, .lstore 5, [], []),
  (52, .aload_n 0, [], []),
  (53, .getfield 32, [55, 12, 3], [8, 3, 4]),
  (56, .iload_n 1, [], []),
  (57, .iconst 2, [], []),
  (58, .iload 4, [], []),
  (60, .imul, [], []),
  (61, .iconst 1, [], []),
  (62, .iadd, [], []),
  (63, .invokevirtual 124, [160, 88, 3, 2], [0, 0, 8]),
  (66, .lstore 7, [], []),
  (68, .lload 5, [], []),
  (70, .lconst 0, [], []),
  (71, .lcmp, [], []),
  (72, .ifCond .lt 26, [57], []),
  (75, .lload 5, [], []),
  (77, .ldc2_w 410, [1128], [4096]),
  (80, .lcmp, [], []),
  (81, .ifCond .ge 17, [57], []),
  (84, .lload 7, [], []),
  (86, .lconst 0, [], []),
  (87, .lcmp, [], []),
  (88, .ifCond .lt 10, [57], []),
  (91, .lload 7, [], []),
  (93, .lconst 1, [], []),
  (94, .lcmp, [], []),
  (95, .ifCond .le 6, [59], []),
  (98, .bipush (-65), [], []),
  (100, .ireturn, [1], []),
  (101, .iinc 4 1, [], []),
  (104, .goto (-72), [20], []),
  (107, .iconst 0, [], []),
  (108, .ireturn, [1], [])]
set_option maxRecDepth 100000 in
noncomputable def zc_X11_isShape : List (Nat × Jvm.ClassFile.Instr × List Nat × List Int) := [(0, .iload_n 1, [], []),
  (1, .ifCond .lt 18, [9], []),
  (4, .iload_n 1, [], []),
  (5, .aload_n 0, [], []),
  (6, .getfield 12, [51, 12, 3], [10, 8, 0]),
  (9, .invokevirtual 197, [181, 110, 1, 1], [0, 0, 10]),
  (12, .if_icmp .ge 7, [9], []),
  (15, .iconst 1, [], []),
  (16, .goto 4, [10], []),
  (19, .iconst 0, [], []),
  (20, .ireturn, [4], [])]
set_option maxRecDepth 100000 in
noncomputable def zc_X11_placesOf : List (Nat × Jvm.ClassFile.Instr × List Nat × List Int) := [(0, .aload_n 0, [], []),
  (1, .getfield 46, [57, 12, 3], [4, 5, 6]),
  (4, .aload_n 0, [], []),
  (5, .getfield 12, [51, 12, 3], [10, 8, 0]),
  (8, .iload_n 1, [], []),
  (9, .invokevirtual 412, [242, 37, 3, 3], [6, 1, 4]),
  (12, .areturn, [], [6, 1])]
set_option maxRecDepth 100000 in
noncomputable def zc_X11_worthIn : List (Nat × Jvm.ClassFile.Instr × List Nat × List Int) := [(0, .aload_n 0, [], []),
  (1, .getfield 60, [59, 12, 3], [5, 2, 8]),
  (4, .aload_n 0, [], []),
  (5, .getfield 12, [51, 12, 3], [10, 8, 0]),
  (8, .iload_n 1, [], []),
  (9, .iload_n 2, [], []),
  (10, .iconst 0, [], []),
  (11, .invokestatic 264, [199, 209, 2, 1], [0, 0]),
  (14, .iload_n 2, [], []),
  (15, .iconst 1, [], []),
  (16, .invokestatic 264, [199, 209, 2, 1], [0, 0]),
  (19, .iload_n 2, [], []),
  (20, .iconst 2, [], []),
  (21, .invokestatic 264, [199, 209, 2, 1], [0, 0]),
  (24, .invokevirtual 248, [195, 42, 6, 3], [2, 2, 5]),
  (27, .areturn, [], [2, 2])]
set_option maxRecDepth 100000 in
noncomputable def zc_X11_isBetween : List (Nat × Jvm.ClassFile.Instr × List Nat × List Int) := [(0, .iload_n 0, [], []),
  (1, .iload_n 1, [], []),
  (2, .if_icmp .lt 12, [8], []),
  (5, .iload_n 0, [], []),
  (6, .iload_n 2, [], []),
  (7, .if_icmp .gt 7, [8], []),
  (10, .iconst 1, [], []),
  (11, .goto 4, [9], []),
  (14, .iconst 0, [], []),
  (15, .ireturn, [4], [])]
set_option maxRecDepth 100000 in
noncomputable def zc_X11_isShelf : List (Nat × Jvm.ClassFile.Instr × List Nat × List Int) := [(0, .iload_n 0, [], []),
  (1, .ifCond .lt 13, [7], []),
  (4, .iload_n 0, [], []),
  (5, .bipush 8, [], []),
  (7, .if_icmp .ge 7, [7], []),
  (10, .iconst 1, [], []),
  (11, .goto 4, [8], []),
  (14, .iconst 0, [], []),
  (15, .ireturn, [4], [])]
set_option maxRecDepth 100000 in
noncomputable def zc_X11_isPlace : List (Nat × Jvm.ClassFile.Instr × List Nat × List Int) := [(0, .iload_n 0, [], []),
  (1, .ifCond .lt 14, [7], []),
  (4, .iload_n 0, [], []),
  (5, .sipush 4096, [], []),
  (8, .if_icmp .ge 7, [7], []),
  (11, .iconst 1, [], []),
  (12, .goto 4, [8], []),
  (15, .iconst 0, [], []),
  (16, .ireturn, [4], [])]
set_option maxRecDepth 100000 in
noncomputable def zc_X11_isAxis : List (Nat × Jvm.ClassFile.Instr × List Nat × List Int) := [(0, .iload_n 0, [], []),
  (1, .ifCond .lt 12, [7], []),
  (4, .iload_n 0, [], []),
  (5, .iconst 3, [], []),
  (6, .if_icmp .ge 7, [7], []),
  (9, .iconst 1, [], []),
  (10, .goto 4, [8], []),
  (13, .iconst 0, [], []),
  (14, .ireturn, [4], [])]
set_option maxRecDepth 100000 in
noncomputable def zc_X11_isNear : List (Nat × Jvm.ClassFile.Instr × List Nat × List Int) := [(0, .iload_n 0, [], []),
  (1, .bipush (-99), [], []),
  (3, .bipush 99, [], []),
  (5, .invokestatic 92, [151, 200, 3, 4], [0, 0]),
  (8, .ireturn, [4], [])]
set_option maxRecDepth 100000 in
noncomputable def zc_X11_isStep : List (Nat × Jvm.ClassFile.Instr × List Nat × List Int) := [(0, .iload_n 0, [], []),
  (1, .bipush (-4), [], []),
  (3, .iconst 4, [], []),
  (4, .invokestatic 92, [151, 200, 3, 4], [0, 0]),
  (7, .ireturn, [4], [])]
set_option maxRecDepth 100000 in
noncomputable def zc_X11_isRun : List (Nat × Jvm.ClassFile.Instr × List Nat × List Int) := [(0, .iload_n 0, [], []),
  (1, .ifCond .lt 23, [14], []),
  (4, .iload_n 1, [], []),
  (5, .ifCond .lt 19, [14], []),
  (8, .iload_n 1, [], []),
  (9, .iload_n 2, [], []),
  (10, .if_icmp .gt 14, [14], []),
  (13, .iload_n 0, [], []),
  (14, .iload_n 2, [], []),
  (15, .iload_n 1, [], []),
  (16, .isub, [], []),
  (17, .if_icmp .gt 7, [14], []),
  (20, .iconst 1, [], []),
  (21, .goto 4, [15], []),
  (24, .iconst 0, [], []),
  (25, .ireturn, [4], [])]
set_option maxRecDepth 100000 in
noncomputable def zc_X11_isRegion : List (Nat × Jvm.ClassFile.Instr × List Nat × List Int) := [(0, .iload_n 0, [], []),
  (1, .invokestatic 284, [205, 202, 1, 4], [0, 0]),
  (4, .ifCond .eq 10, [6], []),
  (7, .iload_n 1, [], []),
  (8, .invokestatic 284, [205, 202, 1, 4], [0, 0]),
  (11, .ifCond .ne 5, [8], []),
  (14, .iconst 0, [], []),
  (15, .ireturn, [4], []),
  (16, .iconst 0, [], []),
  (17, .istore_n 2, [], []),
  (18, .iload_n 2, [], []),
  (19, .iconst 3, [], []),
  (20, .if_icmp .ge 24, [24], []),
  (23, .iload_n 0, [], []),
  (24, .iload_n 2, [], []),
  (25, .invokestatic 264, [199, 209, 2, 1], [0, 0]),
  (28, .iload_n 1, [], []),
  (29, .iload_n 2, [], []),
  (30, .invokestatic 264, [199, 209, 2, 1], [0, 0]),
  (33, .if_icmp .le 5, [22], []),
  (36, .iconst 0, [], []),
  (37, .ireturn, [4], []),
  (38, .iinc 2 1, [], []),
  (41, .goto (-23), [10], []),
  (44, .iconst 1, [], []),
  (45, .ireturn, [4], [])]
set_option maxRecDepth 100000 in
noncomputable def zc_X11_placeAt : List (Nat × Jvm.ClassFile.Instr × List Nat × List Int) := [(0, .sipush 256, [], []),
  (3, .iload_n 0, [], []),
  (4, .imul, [], []),
  (5, .bipush 16, [], []),
  (7, .iload_n 1, [], []),
  (8, .imul, [], []),
  (9, .iadd, [], []),
  (10, .iload_n 2, [], []),
  (11, .iadd, [], []),
  (12, .ireturn, [1], [])]
set_option maxRecDepth 100000 in
noncomputable def zc_X11_numberOn : List (Nat × Jvm.ClassFile.Instr × List Nat × List Int) := [(0, .iload_n 0, [], []),
  (1, .iload_n 1, [], []),
  (2, .invokestatic 415, [243, 210, 1, 1], [0, 0]),
  (5, .ishr, [], []),
  (6, .bipush 15, [], []),
  (8, .iand, [], []),
  (9, .ireturn, [1], [])]
set_option maxRecDepth 100000 in
noncomputable def zc_X11_shiftOf : List (Nat × Jvm.ClassFile.Instr × List Nat × List Int) := [(0, .iconst 4, [], []),
  (1, .iconst 2, [], []),
  (2, .iload_n 0, [], []),
  (3, .isub, [], []),
  (4, .imul, [], []),
  (5, .ireturn, [1], [])]
set_option maxRecDepth 100000 in
noncomputable def zc_X11_moved : List (Nat × Jvm.ClassFile.Instr × List Nat × List Int) := [(0, .iload_n 0, [], []),
  (1, .invokestatic 284, [205, 202, 1, 4], [0, 0]),
  (4, .ifCond .eq 19, [12], []),
  (7, .iload_n 0, [], []),
  (8, .iload_n 1, [], []),
  (9, .invokestatic 264, [199, 209, 2, 1], [0, 0]),
  (12, .iload_n 2, [], []),
  (13, .iadd, [], []),
  (14, .iconst 0, [], []),
  (15, .bipush 15, [], []),
  (17, .invokestatic 92, [151, 200, 3, 4], [0, 0]),
  (20, .ifCond .ne 5, [14], []),
  (23, .iconst (-1), [], []),
  (24, .ireturn, [1], []),
  (25, .iload_n 0, [], []),
  (26, .iload_n 2, [], []),
  (27, .iload_n 1, [], []),
  (28, .invokestatic 415, [243, 210, 1, 1], [0, 0]),
  (31, .ishl, [], []),
  (32, .iadd, [], []),
  (33, .ireturn, [1], [])]
set_option maxRecDepth 100000 in
noncomputable def zc_X12_init : List (Nat × Jvm.ClassFile.Instr × List Nat × List Int) := [(0, .aload_n 0, [], []),
  (1, .invokespecial 1, [9999], []),
  (4, .aload_n 0, [], []),
  (5, .sipush 264, [], []),
  (8, .newarray .int, [20], []),
  (10, .putfield 9, [67, 13, 3], [20, 264, 0]),
  (13, .aload_n 0, [], []),
  (14, .iconst 5, [], []),
  (15, .newarray .int, [20], []),
  (17, .putfield 13, [68, 13, 3], [20, 5, 2]),
  (20, .aload_n 0, [], []),
  (21, .bipush 9, [], []),
  (23, .newarray .long, [21], []),
  (25, .putfield 16, [69, 13, 3], [21, 9, 3]),
  (28, .aload_n 0, [], []),
  (29, .bipush 9, [], []),
  (31, .newarray .long, [21], []),
  (33, .putfield 20, [70, 13, 3], [21, 9, 4]),
  (36, .aload_n 0, [], []),
  (37, .iconst 4, [], []),
  (38, .sipush 4096, [], []),
  (41, .multianewarray 23 2, [0, 32], []),
  (45, .putfield 25, [71, 13, 3], [32, 4, 5]),
  (48, .aload_n 0, [], []),
  (49, .sipush 4096, [], []),
  (52, .newarray .boolean, [22], []),
  (54, .putfield 28, [72, 13, 3], [22, 4096, 6]),
  (57, .aload_n 0, [], []),
  (58, .sipush 4096, [], []),
  (61, .newarray .int, [20], []),
  (63, .putfield 32, [73, 13, 3], [20, 4096, 7]),
  (66, .aload_n 0, [], []),
  (67, .bipush 6, [], []),
  (69, .newarray .int, [20], []),
  (71, .putfield 35, [74, 13, 3], [20, 6, 8]),
  (74, .aload_n 0, [], []),
  (75, .bipush 13, [], []),
  (77, .anewarray 38, [1260, 34], []),
  (80, .dup, [], []),
  (81, .iconst 0, [], []),
  (82, .ldc 40, [1262, 1], [(-11)]),
  (84, .aastore, [], []),
  (85, .dup, [], []),
  (86, .iconst 1, [], []),
  (87, .ldc 42, [1263, 1], [(-13)]),
  (89, .aastore, [], []),
  (90, .dup, [], []),
  (91, .iconst 2, [], []),
  (92, .ldc 44, [1264, 1], [(-17)]),
  (94, .aastore, [], []),
  (95, .dup, [], []),
  (96, .iconst 3, [], []),
  (97, .ldc 46, [1265, 1], [(-23)]),
  (99, .aastore, [], []),
  (100, .dup, [], []),
  (101, .iconst 4, [], []),
  (102, .ldc 48, [1266, 1], [(-14)]),
  (104, .aastore, [], []),
  (105, .dup, [], []),
  (106, .iconst 5, [], []),
  (107, .ldc 50, [1267, 1], [(-15)]),
  (109, .aastore, [], []),
  (110, .dup, [], []),
  (111, .bipush 6, [], []),
  (113, .ldc 52, [1268, 1], [(-12)]),
  (115, .aastore, [], []),
  (116, .dup, [], []),
  (117, .bipush 7, [], []),
  (119, .ldc 54, [1269, 1], [(-21)]),
  (121, .aastore, [], []),
  (122, .dup, [], []),
  (123, .bipush 8, [], []),
  (125, .ldc 56, [1270, 1], [(-19)]),
  (127, .aastore, [], []),
  (128, .dup, [], []),
  (129, .bipush 9, [], []),
  (131, .ldc 58, [1271, 1], [(-18)]),
  (133, .aastore, [], []),
  (134, .dup, [], []),
  (135, .bipush 10, [], []),
  (137, .ldc 60, [1272, 1], [(-22)]),
  (139, .aastore, [], []),
  (140, .dup, [], []),
  (141, .bipush 11, [], []),
  (143, .ldc 62, [1273, 1], [(-16)]),
  (145, .aastore, [], []),
  (146, .dup, [], []),
  (147, .bipush 12, [], []),
  (149, .ldc 64, [1274, 1], [(-20)]),
  (151, .aastore, [], []),
  (152, .putfield 66, [75, 13, 3], [34, 13, 9]),
  (155, .aload_n 0, [], []),
  (156, .sipush 250, [], []),
  (159, .newarray .int, [20], []),
  (161, .putfield 70, [76, 13, 3], [20, 250, 10]),
  (164, .aload_n 0, [], []),
  (165, .sipush 770, [], []),
  (168, .newarray .int, [20], []),
  (170, .putfield 73, [77, 13, 3], [20, 770, 16]),
  (173, .aload_n 0, [], []),
  (174, .sipush 420, [], []),
  (177, .newarray .int, [20], []),
  (179, .putfield 76, [78, 13, 3], [20, 420, 18]),
  (182, .aload_n 0, [], []),
  (183, .bipush 8, [], []),
  (185, .newarray .int, [20], []),
  (187, .dup, [], []),
  (188, .iconst 0, [], []),
  (189, .iconst (-1), [], []),
  (190, .iastore, [], []),
  (191, .dup, [], []),
  (192, .iconst 1, [], []),
  (193, .iconst (-1), [], []),
  (194, .iastore, [], []),
  (195, .dup, [], []),
  (196, .iconst 2, [], []),
  (197, .iconst (-1), [], []),
  (198, .iastore, [], []),
  (199, .dup, [], []),
  (200, .iconst 3, [], []),
  (201, .iconst (-1), [], []),
  (202, .iastore, [], []),
  (203, .dup, [], []),
  (204, .iconst 4, [], []),
  (205, .iconst (-1), [], []),
  (206, .iastore, [], []),
  (207, .dup, [], []),
  (208, .iconst 5, [], []),
  (209, .iconst (-1), [], []),
  (210, .iastore, [], []),
  (211, .dup, [], []),
  (212, .bipush 6, [], []),
  (214, .iconst (-1), [], []),
  (215, .iastore, [], []),
  (216, .dup, [], []),
  (217, .bipush 7, [], []),
  (219, .iconst (-1), [], []),
  (220, .iastore, [], []),
  (221, .putfield 79, [79, 13, 3], [20, 8, 19]),
  (224, .aload_n 0, [], []),
  (225, .bipush 8, [], []),
  (227, .newarray .int, [20], []),
  (229, .putfield 82, [80, 13, 3], [20, 8, 20]),
  (232, .aload_n 0, [], []),
  (233, .sipush 320, [], []),
  (236, .newarray .long, [21], []),
  (238, .putfield 85, [81, 13, 3], [21, 320, 21]),
  (241, .aload_n 0, [], []),
  (242, .sipush 4096, [], []),
  (245, .newarray .boolean, [22], []),
  (247, .putfield 88, [82, 13, 3], [22, 4096, 22]),
  (250, .aload_n 0, [], []),
  (251, .bipush 12, [], []),
  (253, .sipush 4096, [], []),
  (256, .multianewarray 23 2, [0, 33], []),
  (260, .putfield 91, [83, 13, 3], [33, 12, 23]),
  (263, .aload_n 0, [], []),
  (264, .iconst 1, [], []),
  (265, .putfield 94, [84, 13, 1], [0, 0, 26]),
  (268, .aload_n 0, [], []),
  (269, .sipush 264, [], []),
  (272, .newarray .int, [20], []),
  (274, .putfield 98, [85, 13, 3], [20, 264, 27]),
  (277, .aload_n 0, [], []),
  (278, .sipush 4096, [], []),
  (281, .newarray .boolean, [22], []),
  (283, .putfield 101, [86, 13, 3], [22, 4096, 28]),
  (286, .aload_n 0, [], []),
  (287, .bipush 12, [], []),
  (289, .sipush 4096, [], []),
  (292, .multianewarray 23 2, [0, 32], []),
  (296, .putfield 104, [87, 13, 3], [32, 12, 29]),
  (299, .aload_n 0, [], []),
  (300, .iconst 4, [], []),
  (301, .newarray .int, [20], []),
  (303, .putfield 107, [88, 13, 3], [20, 4, 30]),
  (306, .return_, [], [])]
set_option maxRecDepth 100000 in
noncomputable def zc_X12_is : List (Nat × Jvm.ClassFile.Instr × List Nat × List Int) := [(0, .lload_n 0, [], []),
  (1, .lload_n 2, [], []),
  (2, .lcmp, [], []),
  (3, .ifCond .lt 14, [10], []),
  (6, .lload_n 0, [], []),
  (7, .lload 4, [], []),
  (9, .lcmp, [], []),
  (10, .ifCond .gt 7, [10], []),
  (13, .iconst 1, [], []),
  (14, .goto 4, [11], []),
  (17, .iconst 0, [], []),
  (18, .ireturn, [4], [])]
set_option maxRecDepth 100000 in
noncomputable def zc_X12_refused : List (Nat × Jvm.ClassFile.Instr × List Nat × List Int) := [(0, .aload_n 0, [], []),
  (1, .getfield 13, [68, 13, 3], [20, 5, 2]),
  (4, .iload_n 1, [], []),
  (5, .ineg, [], []),
  (6, .bipush 62, [], []),
  (8, .isub, [], []),
  (9, .dup2, [], []),
  (10, .iaload, [], []),
  (11, .iconst 1, [], []),
  (12, .iadd, [], []),
  (13, .iastore, [], []),
  (14, .iload_n 1, [], []),
  (15, .ireturn, [1], [])]
set_option maxRecDepth 100000 in
noncomputable def zc_X12_refusedLong : List (Nat × Jvm.ClassFile.Instr × List Nat × List Int) := [(0, .aload_n 0, [], []),
  (1, .iload_n 1, [], []),
  (2, .invokevirtual 110, [244, 214, 2, 1], [0, 0, 13]),
  (5, .i2l, [], []),
  (6, .ldc2_w 114, [1394], [9000000000000]),
  (9, .lsub, [], []),
  (10, .lreturn, [], [])]
set_option maxRecDepth 100000 in
noncomputable def zc_X12_of : List (Nat × Jvm.ClassFile.Instr × List Nat × List Int) := [(0, .aload_n 0, [], []),
  (1, .getfield 9, [67, 13, 3], [20, 264, 0]),
  (4, .bipush 11, [], []),
  (6, .iload_n 1, [], []),
  (7, .imul, [], []),
  (8, .iload_n 2, [], []),
  (9, .iadd, [], []),
  (10, .iaload, [], []),
  (11, .ireturn, [1], [])]
set_option maxRecDepth 100000 in
noncomputable def zc_X12_number : List (Nat × Jvm.ClassFile.Instr × List Nat × List Int) := [(0, .aload_n 0, [], []),
  (1, .getfield 9, [67, 13, 3], [20, 264, 0]),
  (4, .bipush 11, [], []),
  (6, .iload_n 1, [], []),
  (7, .imul, [], []),
  (8, .iconst 5, [], []),
  (9, .iadd, [], []),
  (10, .iload_n 2, [], []),
  (11, .iadd, [], []),
  (12, .iaload, [], []),
  (13, .ireturn, [1], [])]
set_option maxRecDepth 100000 in
noncomputable def zc_X12_isShape : List (Nat × Jvm.ClassFile.Instr × List Nat × List Int) := [(0, .iload_n 1, [], []),
  (1, .i2l, [], []),
  (2, .lconst 0, [], []),
  (3, .aload_n 0, [], []),
  (4, .getfield 116, [89, 13, 1], [0, 0, 1]),
  (7, .iconst 1, [], []),
  (8, .isub, [], []),
  (9, .i2l, [], []),
  (10, .invokestatic 119, [245, 213, 3, 4], [0, 0]),
  (13, .ireturn, [4], [])]
set_option maxRecDepth 100000 in
noncomputable def zc_X12_worthAt : List (Nat × Jvm.ClassFile.Instr × List Nat × List Int) := [(0, .aload_n 0, [], []),
  (1, .iload_n 1, [], []),
  (2, .iconst 0, [], []),
  (3, .invokevirtual 123, [246, 216, 3, 1], [0, 0, 13]),
  (6, .tableswitch 331 3 11 #[50, 121, 154, 331, 331, 200, 232, 264, 297], [191, 5, 53, 73, 191, 191, 108, 128, 148, 169], []),
  (56, .iload_n 2, [], []),
  (57, .aload_n 0, [], []),
  (58, .iload_n 1, [], []),
  (59, .iconst 0, [], []),
  (60, .invokevirtual 127, [247, 217, 3, 1], [0, 0, 13]),
  (63, .isub, [], []),
  (64, .i2l, [], []),
  (65, .lstore 5, [], []),
  (67, .iload_n 3, [], []),
  (68, .aload_n 0, [], []),
  (69, .iload_n 1, [], []),
  (70, .iconst 1, [], []),
  (71, .invokevirtual 127, [247, 217, 3, 1], [0, 0, 13]),
  (74, .isub, [], []),
  (75, .i2l, [], []),
  (76, .lstore 7, [], []),
  (78, .iload 4, [], []),
  (80, .aload_n 0, [], []),
  (81, .iload_n 1, [], []),
  (82, .iconst 2, [], []),
  (83, .invokevirtual 127, [247, 217, 3, 1], [0, 0, 13]),
  (86, .isub, [], []),
  (87, .i2l, [], []),
  (88, .lstore 9, [], []),
  (90, .aload_n 0, [], []),
  (91, .iload_n 1, [], []),
  (92, .iconst 3, [], []),
  (93, .invokevirtual 127, [247, 217, 3, 1], [0, 0, 13]),
  (96, .i2l, [], []),
  (97, .lstore 11, [], []),
  (99, .lload 5, [], []),
  (101, .lload 5, [], []),
  (103, .lmul, [], []),
  (104, .lload 7, [], []),
  (106, .lload 7, [], []),
  (108, .lmul, [], []),
  (109, .ladd, [], []),
  (110, .lload 9, [], []),
  (112, .lload 9, [], []),
  (114, .lmul, [], []),
  (115, .ladd, [], []),
  (116, .lload 11, [], []),
  (118, .lload 11, [], []),
  (120, .lmul, [], []),
  (121, .lsub, [], []),
  (122, .ldc2_w 130, [1407], [16003008000]),
  (125, .lmul, [], []),
  (126, .lreturn, [], []),
  (127, .ldc2_w 130, [1407], [16003008000]),
  (130, .aload_n 0, [], []),
  (131, .iload_n 1, [], []),
  (132, .iconst 0, [], []),
  (133, .iload_n 2, [], []),
  (134, .invokevirtual 132, [248, 220, 4, 2], [0, 0, 13]),
  (137, .aload_n 0, [], []),
  (138, .iload_n 1, [], []),
  (139, .iconst 1, [], []),
  (140, .iload_n 3, [], []),
  (141, .invokevirtual 132, [248, 220, 4, 2], [0, 0, 13]),
  (144, .invokestatic 136, [249, 342, 2, 2], [0, 0]),
  (147, .aload_n 0, [], []),
  (148, .iload_n 1, [], []),
  (149, .iconst 2, [], []),
  (150, .iload 4, [], []),
  (152, .invokevirtual 132, [248, 220, 4, 2], [0, 0, 13]),
  (155, .invokestatic 136, [249, 342, 2, 2], [0, 0]),
  (158, .lmul, [], []),
  (159, .lreturn, [], []),
  (160, .ldc2_w 130, [1407], [16003008000]),
  (163, .aload_n 0, [], []),
  (164, .iload_n 1, [], []),
  (165, .iconst 0, [], []),
  (166, .invokevirtual 127, [247, 217, 3, 1], [0, 0, 13]),
  (169, .i2l, [], []),
  (170, .iload_n 2, [], []),
  (171, .i2l, [], []),
  (172, .lmul, [], []),
  (173, .aload_n 0, [], []),
  (174, .iload_n 1, [], []),
  (175, .iconst 1, [], []),
  (176, .invokevirtual 127, [247, 217, 3, 1], [0, 0, 13]),
  (179, .i2l, [], []),
  (180, .iload_n 3, [], []),
  (181, .i2l, [], []),
  (182, .lmul, [], []),
  (183, .ladd, [], []),
  (184, .aload_n 0, [], []),
  (185, .iload_n 1, [], []),
  (186, .iconst 2, [], []),
  (187, .invokevirtual 127, [247, 217, 3, 1], [0, 0, 13]),
  (190, .i2l, [], []),
  (191, .iload 4, [], []),
  (193, .i2l, [], []),
  (194, .lmul, [], []),
  (195, .ladd, [], []),
  (196, .aload_n 0, [], []),
  (197, .iload_n 1, [], []),
  (198, .iconst 3, [], []),
  (199, .invokevirtual 127, [247, 217, 3, 1], [0, 0, 13]),
  (202, .i2l, [], []),
  (203, .lsub, [], []),
  (204, .lmul, [], []),
  (205, .lreturn, [], []),
  (206, .aload_n 0, [], []),
  (207, .aload_n 0, [], []),
  (208, .iload_n 1, [], []),
  (209, .iconst 1, [], []),
  (210, .invokevirtual 123, [246, 216, 3, 1], [0, 0, 13]),
  (213, .iload_n 2, [], []),
  (214, .iload_n 3, [], []),
  (215, .iload 4, [], []),
  (217, .invokevirtual 142, [250, 219, 5, 2], [0, 0, 13]),
  (220, .aload_n 0, [], []),
  (221, .aload_n 0, [], []),
  (222, .iload_n 1, [], []),
  (223, .iconst 2, [], []),
  (224, .invokevirtual 123, [246, 216, 3, 1], [0, 0, 13]),
  (227, .iload_n 2, [], []),
  (228, .iload_n 3, [], []),
  (229, .iload 4, [], []),
  (231, .invokevirtual 142, [250, 219, 5, 2], [0, 0, 13]),
  (234, .invokestatic 146, [251, 344, 2, 2], [0, 0]),
  (237, .lreturn, [], []),
  (238, .aload_n 0, [], []),
  (239, .aload_n 0, [], []),
  (240, .iload_n 1, [], []),
  (241, .iconst 1, [], []),
  (242, .invokevirtual 123, [246, 216, 3, 1], [0, 0, 13]),
  (245, .iload_n 2, [], []),
  (246, .iload_n 3, [], []),
  (247, .iload 4, [], []),
  (249, .invokevirtual 142, [250, 219, 5, 2], [0, 0, 13]),
  (252, .aload_n 0, [], []),
  (253, .aload_n 0, [], []),
  (254, .iload_n 1, [], []),
  (255, .iconst 2, [], []),
  (256, .invokevirtual 123, [246, 216, 3, 1], [0, 0, 13]),
  (259, .iload_n 2, [], []),
  (260, .iload_n 3, [], []),
  (261, .iload 4, [], []),
  (263, .invokevirtual 142, [250, 219, 5, 2], [0, 0, 13]),
  (266, .invokestatic 136, [249, 342, 2, 2], [0, 0]),
  (269, .lreturn, [], []),
  (270, .aload_n 0, [], []),
  (271, .aload_n 0, [], []),
  (272, .iload_n 1, [], []),
  (273, .iconst 1, [], []),
  (274, .invokevirtual 123, [246, 216, 3, 1], [0, 0, 13]),
  (277, .iload_n 2, [], []),
  (278, .iload_n 3, [], []),
  (279, .iload 4, [], []),
  (281, .invokevirtual 142, [250, 219, 5, 2], [0, 0, 13]),
  (284, .aload_n 0, [], []),
  (285, .aload_n 0, [], []),
  (286, .iload_n 1, [], []),
  (287, .iconst 2, [], []),
  (288, .invokevirtual 123, [246, 216, 3, 1], [0, 0, 13]),
  (291, .iload_n 2, [], []),
  (292, .iload_n 3, [], []),
  (293, .iload 4, [], []),
  (295, .invokevirtual 142, [250, 219, 5, 2], [0, 0, 13]),
  (298, .lneg, [], []),
  (299, .invokestatic 136, [249, 342, 2, 2], [0, 0]),
  (302, .lreturn, [], []),
  (303, .aload_n 0, [], []),
  (304, .iload_n 1, [], []),
  (305, .aload_n 0, [], []),
  (306, .aload_n 0, [], []),
  (307, .iload_n 1, [], []),
  (308, .iconst 1, [], []),
  (309, .invokevirtual 123, [246, 216, 3, 1], [0, 0, 13]),
  (312, .iload_n 2, [], []),
  (313, .iload_n 3, [], []),
  (314, .iload 4, [], []),
  (316, .invokevirtual 142, [250, 219, 5, 2], [0, 0, 13]),
  (319, .aload_n 0, [], []),
  (320, .aload_n 0, [], []),
  (321, .iload_n 1, [], []),
  (322, .iconst 2, [], []),
  (323, .invokevirtual 123, [246, 216, 3, 1], [0, 0, 13]),
  (326, .iload_n 2, [], []),
  (327, .iload_n 3, [], []),
  (328, .iload 4, [], []),
  (330, .invokevirtual 142, [250, 219, 5, 2], [0, 0, 13]),
  (333, .invokevirtual 149, [252, 221, 4, 2], [0, 0, 13]),
  (336, .lreturn, [], []),
  (337, .aload_n 0, [], []),
  (338, .iload_n 1, [], []),
  (339, .iload_n 2, [], []),
  (340, .iload_n 3, [], []),
  (341, .iload 4, [], []),
  (343, .invokevirtual 153, [253, 224, 5, 2], [0, 0, 13]),
  (346, .lreturn, [], [])]
set_option maxRecDepth 100000 in
noncomputable def zc_X12_beyond : List (Nat × Jvm.ClassFile.Instr × List Nat × List Int) := [(0, .aload_n 0, [], []),
  (1, .iload_n 1, [], []),
  (2, .iload_n 2, [], []),
  (3, .invokevirtual 127, [247, 217, 3, 1], [0, 0, 13]),
  (6, .iload_n 3, [], []),
  (7, .isub, [], []),
  (8, .iload_n 3, [], []),
  (9, .aload_n 0, [], []),
  (10, .iload_n 1, [], []),
  (11, .iconst 3, [], []),
  (12, .iload_n 2, [], []),
  (13, .iadd, [], []),
  (14, .invokevirtual 127, [247, 217, 3, 1], [0, 0, 13]),
  (17, .isub, [], []),
  (18, .invokestatic 156, [254, 341, 2, 1], [0, 0]),
  (21, .i2l, [], []),
  (22, .lreturn, [], [])]
set_option maxRecDepth 100000 in
noncomputable def zc_X12_blended : List (Nat × Jvm.ClassFile.Instr × List Nat × List Int) := [(0, .aload_n 0, [], []),
  (1, .iload_n 1, [], []),
  (2, .iconst 0, [], []),
  (3, .invokevirtual 127, [247, 217, 3, 1], [0, 0, 13]),
  (6, .istore 6, [], []),
  (8, .aload_n 0, [], []),
  (9, .iload_n 1, [], []),
  (10, .iconst 1, [], []),
  (11, .invokevirtual 127, [247, 217, 3, 1], [0, 0, 13]),
  (14, .istore 7, [], []),
  (16, .lload_n 2, [], []),
  (17, .iload 6, [], []),
  (19, .iload 7, [], []),
  (21, .isub, [], []),
  (22, .i2l, [], []),
  (23, .lmul, [], []),
  (24, .lload 4, [], []),
  (26, .iload 7, [], []),
  (28, .i2l, [], []),
  (29, .lmul, [], []),
  (30, .ladd, [], []),
  (31, .iload 6, [], []),
  (33, .i2l, [], []),
  (34, .ldiv, [], []),
  (35, .lreturn, [], [])]
set_option maxRecDepth 100000 in
noncomputable def zc_X12_grownBy : List (Nat × Jvm.ClassFile.Instr × List Nat × List Int) := [(0, .ldc2_w 130, [1407], [16003008000]),
  (3, .aload_n 0, [], []),
  (4, .iload_n 1, [], []),
  (5, .iconst 1, [], []),
  (6, .invokevirtual 127, [247, 217, 3, 1], [0, 0, 13]),
  (9, .i2l, [], []),
  (10, .ldiv, [], []),
  (11, .aload_n 0, [], []),
  (12, .iload_n 1, [], []),
  (13, .iconst 0, [], []),
  (14, .invokevirtual 127, [247, 217, 3, 1], [0, 0, 13]),
  (17, .i2l, [], []),
  (18, .lmul, [], []),
  (19, .lreturn, [], [])]
set_option maxRecDepth 100000 in
noncomputable def zc_X12_pick : List (Nat × Jvm.ClassFile.Instr × List Nat × List Int) := [(0, .iload_n 0, [], []),
  (1, .ifCond .ne 7, [4], []),
  (4, .iload_n 1, [], []),
  (5, .goto 13, [10], []),
  (8, .iload_n 0, [], []),
  (9, .iconst 1, [], []),
  (10, .if_icmp .ne 7, [9], []),
  (13, .iload_n 2, [], []),
  (14, .goto 4, [10], []),
  (17, .iload_n 3, [], []),
  (18, .ireturn, [1], [])]
set_option maxRecDepth 100000 in
noncomputable def zc_X12_changed : List (Nat × Jvm.ClassFile.Instr × List Nat × List Int) := [(0, .aload_n 0, [], []),
  (1, .iload_n 1, [], []),
  (2, .iconst 1, [], []),
  (3, .invokevirtual 123, [246, 216, 3, 1], [0, 0, 13]),
  (6, .istore 5, [], []),
  (8, .aload_n 0, [], []),
  (9, .iload_n 1, [], []),
  (10, .iconst 0, [], []),
  (11, .invokevirtual 127, [247, 217, 3, 1], [0, 0, 13]),
  (14, .istore 6, [], []),
  (16, .aload_n 0, [], []),
  (17, .iload_n 1, [], []),
  (18, .iconst 1, [], []),
  (19, .invokevirtual 127, [247, 217, 3, 1], [0, 0, 13]),
  (22, .istore 7, [], []),
  (24, .aload_n 0, [], []),
  (25, .iload_n 1, [], []),
  (26, .iconst 0, [], []),
  (27, .invokevirtual 123, [246, 216, 3, 1], [0, 0, 13]),
  (30, .tableswitch 303 12 16 #[34, 58, 114, 189, 286], [163, 20, 36, 63, 105, 152], []),
  (64, .aload_n 0, [], []),
  (65, .iload 5, [], []),
  (67, .iload_n 2, [], []),
  (68, .iload 6, [], []),
  (70, .isub, [], []),
  (71, .iload_n 3, [], []),
  (72, .iload 7, [], []),
  (74, .isub, [], []),
  (75, .iload 4, [], []),
  (77, .aload_n 0, [], []),
  (78, .iload_n 1, [], []),
  (79, .iconst 2, [], []),
  (80, .invokevirtual 127, [247, 217, 3, 1], [0, 0, 13]),
  (83, .isub, [], []),
  (84, .invokevirtual 142, [250, 219, 5, 2], [0, 0, 13]),
  (87, .lreturn, [], []),
  (88, .aload_n 0, [], []),
  (89, .iload 5, [], []),
  (91, .iload 6, [], []),
  (93, .ifCond .ne 12, [44], []),
  (96, .iload_n 2, [], []),
  (97, .iload 7, [], []),
  (99, .invokestatic 158, [255, 339, 2, 1], [0, 0]),
  (102, .goto 4, [45], []),
  (105, .iload_n 2, [], []),
  (106, .iload 6, [], []),
  (108, .iconst 1, [], []),
  (109, .if_icmp .ne 12, [52], []),
  (112, .iload_n 3, [], []),
  (113, .iload 7, [], []),
  (115, .invokestatic 158, [255, 339, 2, 1], [0, 0]),
  (118, .goto 4, [53], []),
  (121, .iload_n 3, [], []),
  (122, .iload 6, [], []),
  (124, .iconst 2, [], []),
  (125, .if_icmp .ne 13, [60], []),
  (128, .iload 4, [], []),
  (130, .iload 7, [], []),
  (132, .invokestatic 158, [255, 339, 2, 1], [0, 0]),
  (135, .goto 5, [61], []),
  (138, .iload 4, [], []),
  (140, .invokevirtual 142, [250, 219, 5, 2], [0, 0, 13]),
  (143, .lreturn, [], []),
  (144, .aload_n 0, [], []),
  (145, .iload 5, [], []),
  (147, .iload 6, [], []),
  (149, .ifCond .ne 18, [76], []),
  (152, .iload_n 2, [], []),
  (153, .iload 7, [], []),
  (155, .if_icmp .le 12, [76], []),
  (158, .iconst 2, [], []),
  (159, .iload 7, [], []),
  (161, .imul, [], []),
  (162, .iload_n 2, [], []),
  (163, .isub, [], []),
  (164, .goto 4, [77], []),
  (167, .iload_n 2, [], []),
  (168, .iload 6, [], []),
  (170, .iconst 1, [], []),
  (171, .if_icmp .ne 18, [89], []),
  (174, .iload_n 3, [], []),
  (175, .iload 7, [], []),
  (177, .if_icmp .le 12, [89], []),
  (180, .iconst 2, [], []),
  (181, .iload 7, [], []),
  (183, .imul, [], []),
  (184, .iload_n 3, [], []),
  (185, .isub, [], []),
  (186, .goto 4, [90], []),
  (189, .iload_n 3, [], []),
  (190, .iload 6, [], []),
  (192, .iconst 2, [], []),
  (193, .if_icmp .ne 20, [102], []),
  (196, .iload 4, [], []),
  (198, .iload 7, [], []),
  (200, .if_icmp .le 13, [102], []),
  (203, .iconst 2, [], []),
  (204, .iload 7, [], []),
  (206, .imul, [], []),
  (207, .iload 4, [], []),
  (209, .isub, [], []),
  (210, .goto 5, [103], []),
  (213, .iload 4, [], []),
  (215, .invokevirtual 142, [250, 219, 5, 2], [0, 0, 13]),
  (218, .lreturn, [], []),
  (219, .iload 6, [], []),
  (221, .iload_n 2, [], []),
  (222, .iload_n 3, [], []),
  (223, .iload 4, [], []),
  (225, .invokestatic 161, [256, 223, 4, 1], [0, 0]),
  (228, .istore 8, [], []),
  (230, .iload 7, [], []),
  (232, .iload_n 2, [], []),
  (233, .iload_n 3, [], []),
  (234, .iload 4, [], []),
  (236, .invokestatic 161, [256, 223, 4, 1], [0, 0]),
  (239, .istore 9, [], []),
  (241, .aload_n 0, [], []),
  (242, .iload 5, [], []),
  (244, .iload 6, [], []),
  (246, .ifCond .ne 8, [123], []),
  (249, .iload 9, [], []),
  (251, .goto 14, [128], []),
  (254, .iload 7, [], []),
  (256, .ifCond .ne 8, [127], []),
  (259, .iload 8, [], []),
  (261, .goto 4, [128], []),
  (264, .iload_n 2, [], []),
  (265, .iload 6, [], []),
  (267, .iconst 1, [], []),
  (268, .if_icmp .ne 8, [133], []),
  (271, .iload 9, [], []),
  (273, .goto 15, [139], []),
  (276, .iload 7, [], []),
  (278, .iconst 1, [], []),
  (279, .if_icmp .ne 8, [138], []),
  (282, .iload 8, [], []),
  (284, .goto 4, [139], []),
  (287, .iload_n 3, [], []),
  (288, .iload 6, [], []),
  (290, .iconst 2, [], []),
  (291, .if_icmp .ne 8, [144], []),
  (294, .iload 9, [], []),
  (296, .goto 16, [150], []),
  (299, .iload 7, [], []),
  (301, .iconst 2, [], []),
  (302, .if_icmp .ne 8, [149], []),
  (305, .iload 8, [], []),
  (307, .goto 5, [150], []),
  (310, .iload 4, [], []),
  (312, .invokevirtual 142, [250, 219, 5, 2], [0, 0, 13]),
  (315, .lreturn, [], []),
  (316, .aload_n 0, [], []),
  (317, .iload 5, [], []),
  (319, .iload_n 2, [], []),
  (320, .iload_n 3, [], []),
  (321, .iload 4, [], []),
  (323, .invokevirtual 142, [250, 219, 5, 2], [0, 0, 13]),
  (326, .aload_n 0, [], []),
  (327, .iload_n 1, [], []),
  (328, .invokevirtual 165, [257, 222, 2, 2], [0, 0, 13]),
  (331, .lsub, [], []),
  (332, .lreturn, [], []),
  (333, .aload_n 0, [], []),
  (334, .iload 5, [], []),
  (336, .iload_n 2, [], []),
  (337, .iload_n 3, [], []),
  (338, .iload 4, [], []),
  (340, .invokevirtual 142, [250, 219, 5, 2], [0, 0, 13]),
  (343, .invokestatic 169, [258, 340, 1, 2], [0, 0]),
  (346, .aload_n 0, [], []),
  (347, .iload_n 1, [], []),
  (348, .invokevirtual 165, [257, 222, 2, 2], [0, 0, 13]),
  (351, .lsub, [], []),
  (352, .lreturn, [], [])]
set_option maxRecDepth 100000 in
noncomputable def zc_X12_common : List (Nat × Jvm.ClassFile.Instr × List Nat × List Int) := [(0, .lload_n 0, [], []),
  (1, .lconst 0, [], []),
  (2, .lcmp, [], []),
  (3, .ifCond .ge 8, [7], []),
  (6, .lload_n 0, [], []),
  (7, .lneg, [], []),
  (8, .goto 4, [8], []),
  (11, .lload_n 0, [], []),
  (12, .lstore 4, [], []),
  (14, .lload_n 2, [], []),
  (15, .lstore 6, [], []),
  (17, .lload 6, [], []),
  (19, .lconst 0, [], []),
  (20, .lcmp, [], []),
  (21, .ifCond .eq 21, [24], []),
  (24, .lload 4, [], []),
  (26, .lload 6, [], []),
  (28, .lrem, [], []),
  (29, .lstore 8, [], []),
  (31, .lload 6, [], []),
  (33, .lstore 4, [], []),
  (35, .lload 8, [], []),
  (37, .lstore 6, [], []),
  (39, .goto (-22), [11], []),
  (42, .lload 4, [], []),
  (44, .lreturn, [], [])]
set_option maxRecDepth 100000 in
noncomputable def zc_X12_lowest : List (Nat × Jvm.ClassFile.Instr × List Nat × List Int) := [(0, .lload_n 0, [], []),
  (1, .ldc2_w 130, [1407], [16003008000]),
  (4, .invokestatic 173, [259, 225, 2, 2], [0, 0]),
  (7, .lstore_n 3, [], []),
  (8, .iload_n 2, [], []),
  (9, .ifCond .eq 7, [8], []),
  (12, .lload_n 0, [], []),
  (13, .goto 6, [9], []),
  (16, .ldc2_w 130, [1407], [16003008000]),
  (19, .lload_n 3, [], []),
  (20, .ldiv, [], []),
  (21, .lreturn, [], [])]
set_option maxRecDepth 100000 in
noncomputable def zc_X12_worth : List (Nat × Jvm.ClassFile.Instr × List Nat × List Int) := [(0, .aload_n 0, [], []),
  (1, .iload_n 1, [], []),
  (2, .invokevirtual 175, [260, 218, 2, 4], [0, 0, 13]),
  (5, .ifCond .eq 57, [28], []),
  (8, .iload_n 2, [], []),
  (9, .i2l, [], []),
  (10, .ldc2_w 179, [1384], [(-99)]),
  (13, .ldc2_w 181, [1385], [99]),
  (16, .invokestatic 119, [245, 213, 3, 4], [0, 0]),
  (19, .ifCond .eq 43, [28], []),
  (22, .iload_n 3, [], []),
  (23, .i2l, [], []),
  (24, .ldc2_w 179, [1384], [(-99)]),
  (27, .ldc2_w 181, [1385], [99]),
  (30, .invokestatic 119, [245, 213, 3, 4], [0, 0]),
  (33, .ifCond .eq 29, [28], []),
  (36, .iload 4, [], []),
  (38, .i2l, [], []),
  (39, .ldc2_w 179, [1384], [(-99)]),
  (42, .ldc2_w 181, [1385], [99]),
  (45, .invokestatic 119, [245, 213, 3, 4], [0, 0]),
  (48, .ifCond .eq 14, [28], []),
  (51, .iload 5, [], []),
  (53, .i2l, [], []),
  (54, .lconst 0, [], []),
  (55, .lconst 1, [], []),
  (56, .invokestatic 119, [245, 213, 3, 4], [0, 0]),
  (59, .ifCond .ne 10, [32], []),
  (62, .aload_n 0, [], []),
  (63, .bipush (-62), [], []),
  (65, .invokevirtual 183, [261, 215, 2, 2], [0, 0, 13]),
  (68, .lreturn, [], []),
  (69, .aload_n 0, [], []),
  (70, .iload_n 1, [], []),
  (71, .iload_n 2, [], []),
  (72, .iload_n 3, [], []),
  (73, .iload 4, [], []),
  (75, .invokevirtual 142, [250, 219, 5, 2], [0, 0, 13]),
  (78, .iload 5, [], []),
  (80, .ifCond .ne 7, [42], []),
  (83, .iconst 1, [], []),
  (84, .goto 4, [43], []),
  (87, .iconst 0, [], []),
  (88, .invokestatic 186, [262, 226, 2, 2], [0, 0]),
  (91, .lreturn, [], [])]
set_option maxRecDepth 100000 in
noncomputable def zc_X12_leastSquare : List (Nat × Jvm.ClassFile.Instr × List Nat × List Int) := [(0, .lload_n 0, [], []),
  (1, .lconst 0, [], []),
  (2, .lcmp, [], []),
  (3, .ifCond .gt 13, [10], []),
  (6, .lload_n 2, [], []),
  (7, .lconst 0, [], []),
  (8, .lcmp, [], []),
  (9, .ifCond .lt 7, [10], []),
  (12, .lconst 0, [], []),
  (13, .goto 12, [17], []),
  (16, .lload_n 0, [], []),
  (17, .lload_n 0, [], []),
  (18, .lmul, [], []),
  (19, .lload_n 2, [], []),
  (20, .lload_n 2, [], []),
  (21, .lmul, [], []),
  (22, .invokestatic 146, [251, 344, 2, 2], [0, 0]),
  (25, .lreturn, [], [])]
set_option maxRecDepth 100000 in
noncomputable def zc_X12_greatestSquare : List (Nat × Jvm.ClassFile.Instr × List Nat × List Int) := [(0, .lload_n 0, [], []),
  (1, .lload_n 0, [], []),
  (2, .lmul, [], []),
  (3, .lload_n 2, [], []),
  (4, .lload_n 2, [], []),
  (5, .lmul, [], []),
  (6, .invokestatic 136, [249, 342, 2, 2], [0, 0]),
  (9, .lreturn, [], [])]
set_option maxRecDepth 100000 in
noncomputable def zc_X12_bound : List (Nat × Jvm.ClassFile.Instr × List Nat × List Int) := [(0, .aload_n 0, [], []),
  (1, .iload_n 1, [], []),
  (2, .iconst 0, [], []),
  (3, .invokevirtual 123, [246, 216, 3, 1], [0, 0, 13]),
  (6, .tableswitch 469 3 11 #[50, 215, 308, 469, 469, 449, 449, 449, 449], [267, 5, 110, 163, 267, 267, 256, 256, 256, 256], []),
  (56, .aload_n 0, [], []),
  (57, .iload_n 1, [], []),
  (58, .iconst 0, [], []),
  (59, .invokevirtual 127, [247, 217, 3, 1], [0, 0, 13]),
  (62, .i2l, [], []),
  (63, .lstore 9, [], []),
  (65, .aload_n 0, [], []),
  (66, .iload_n 1, [], []),
  (67, .iconst 1, [], []),
  (68, .invokevirtual 127, [247, 217, 3, 1], [0, 0, 13]),
  (71, .i2l, [], []),
  (72, .lstore 11, [], []),
  (74, .aload_n 0, [], []),
  (75, .iload_n 1, [], []),
  (76, .iconst 2, [], []),
  (77, .invokevirtual 127, [247, 217, 3, 1], [0, 0, 13]),
  (80, .i2l, [], []),
  (81, .lstore 13, [], []),
  (83, .aload_n 0, [], []),
  (84, .iload_n 1, [], []),
  (85, .iconst 3, [], []),
  (86, .invokevirtual 127, [247, 217, 3, 1], [0, 0, 13]),
  (89, .i2l, [], []),
  (90, .aload_n 0, [], []),
  (91, .iload_n 1, [], []),
  (92, .iconst 3, [], []),
  (93, .invokevirtual 127, [247, 217, 3, 1], [0, 0, 13]),
  (96, .i2l, [], []),
  (97, .lmul, [], []),
  (98, .lstore 15, [], []),
  (100, .aload_n 0, [], []),
  (101, .getfield 16, [69, 13, 3], [21, 9, 3]),
  (104, .iload_n 2, [], []),
  (105, .ldc2_w 130, [1407], [16003008000]),
  (108, .iload_n 3, [], []),
  (109, .i2l, [], []),
  (110, .lload 9, [], []),
  (112, .lsub, [], []),
  (113, .iload 4, [], []),
  (115, .i2l, [], []),
  (116, .lload 9, [], []),
  (118, .lsub, [], []),
  (119, .invokestatic 190, [263, 228, 2, 2], [0, 0]),
  (122, .iload 5, [], []),
  (124, .i2l, [], []),
  (125, .lload 11, [], []),
  (127, .lsub, [], []),
  (128, .iload 6, [], []),
  (130, .i2l, [], []),
  (131, .lload 11, [], []),
  (133, .lsub, [], []),
  (134, .invokestatic 190, [263, 228, 2, 2], [0, 0]),
  (137, .ladd, [], []),
  (138, .iload 7, [], []),
  (140, .i2l, [], []),
  (141, .lload 13, [], []),
  (143, .lsub, [], []),
  (144, .iload 8, [], []),
  (146, .i2l, [], []),
  (147, .lload 13, [], []),
  (149, .lsub, [], []),
  (150, .invokestatic 190, [263, 228, 2, 2], [0, 0]),
  (153, .ladd, [], []),
  (154, .lload 15, [], []),
  (156, .lsub, [], []),
  (157, .lmul, [], []),
  (158, .lastore, [], []),
  (159, .aload_n 0, [], []),
  (160, .getfield 20, [70, 13, 3], [21, 9, 4]),
  (163, .iload_n 2, [], []),
  (164, .ldc2_w 130, [1407], [16003008000]),
  (167, .iload_n 3, [], []),
  (168, .i2l, [], []),
  (169, .lload 9, [], []),
  (171, .lsub, [], []),
  (172, .iload 4, [], []),
  (174, .i2l, [], []),
  (175, .lload 9, [], []),
  (177, .lsub, [], []),
  (178, .invokestatic 193, [264, 229, 2, 2], [0, 0]),
  (181, .iload 5, [], []),
  (183, .i2l, [], []),
  (184, .lload 11, [], []),
  (186, .lsub, [], []),
  (187, .iload 6, [], []),
  (189, .i2l, [], []),
  (190, .lload 11, [], []),
  (192, .lsub, [], []),
  (193, .invokestatic 193, [264, 229, 2, 2], [0, 0]),
  (196, .ladd, [], []),
  (197, .iload 7, [], []),
  (199, .i2l, [], []),
  (200, .lload 13, [], []),
  (202, .lsub, [], []),
  (203, .iload 8, [], []),
  (205, .i2l, [], []),
  (206, .lload 13, [], []),
  (208, .lsub, [], []),
  (209, .invokestatic 193, [264, 229, 2, 2], [0, 0]),
  (212, .ladd, [], []),
  (213, .lload 15, [], []),
  (215, .lsub, [], []),
  (216, .lmul, [], []),
  (217, .lastore, [], []),
  (218, .goto 274, [277], []),
  (221, .aload_n 0, [], []),
  (222, .getfield 16, [69, 13, 3], [21, 9, 3]),
  (225, .iload_n 2, [], []),
  (226, .ldc2_w 130, [1407], [16003008000]),
  (229, .aload_n 0, [], []),
  (230, .iload_n 1, [], []),
  (231, .iconst 0, [], []),
  (232, .iload_n 3, [], []),
  (233, .iload 4, [], []),
  (235, .invokevirtual 196, [265, 231, 5, 2], [0, 0, 13]),
  (238, .aload_n 0, [], []),
  (239, .iload_n 1, [], []),
  (240, .iconst 1, [], []),
  (241, .iload 5, [], []),
  (243, .iload 6, [], []),
  (245, .invokevirtual 196, [265, 231, 5, 2], [0, 0, 13]),
  (248, .invokestatic 136, [249, 342, 2, 2], [0, 0]),
  (251, .aload_n 0, [], []),
  (252, .iload_n 1, [], []),
  (253, .iconst 2, [], []),
  (254, .iload 7, [], []),
  (256, .iload 8, [], []),
  (258, .invokevirtual 196, [265, 231, 5, 2], [0, 0, 13]),
  (261, .invokestatic 136, [249, 342, 2, 2], [0, 0]),
  (264, .lmul, [], []),
  (265, .lastore, [], []),
  (266, .aload_n 0, [], []),
  (267, .getfield 20, [70, 13, 3], [21, 9, 4]),
  (270, .iload_n 2, [], []),
  (271, .ldc2_w 130, [1407], [16003008000]),
  (274, .aload_n 0, [], []),
  (275, .iload_n 1, [], []),
  (276, .iconst 0, [], []),
  (277, .iload_n 3, [], []),
  (278, .iload 4, [], []),
  (280, .invokevirtual 199, [266, 232, 5, 2], [0, 0, 13]),
  (283, .aload_n 0, [], []),
  (284, .iload_n 1, [], []),
  (285, .iconst 1, [], []),
  (286, .iload 5, [], []),
  (288, .iload 6, [], []),
  (290, .invokevirtual 199, [266, 232, 5, 2], [0, 0, 13]),
  (293, .invokestatic 136, [249, 342, 2, 2], [0, 0]),
  (296, .aload_n 0, [], []),
  (297, .iload_n 1, [], []),
  (298, .iconst 2, [], []),
  (299, .iload 7, [], []),
  (301, .iload 8, [], []),
  (303, .invokevirtual 199, [266, 232, 5, 2], [0, 0, 13]),
  (306, .invokestatic 136, [249, 342, 2, 2], [0, 0]),
  (309, .lmul, [], []),
  (310, .lastore, [], []),
  (311, .goto 181, [277], []),
  (314, .aload_n 0, [], []),
  (315, .getfield 16, [69, 13, 3], [21, 9, 3]),
  (318, .iload_n 2, [], []),
  (319, .ldc2_w 130, [1407], [16003008000]),
  (322, .aload_n 0, [], []),
  (323, .iload_n 1, [], []),
  (324, .iconst 0, [], []),
  (325, .invokevirtual 127, [247, 217, 3, 1], [0, 0, 13]),
  (328, .i2l, [], []),
  (329, .iload_n 3, [], []),
  (330, .i2l, [], []),
  (331, .iload 4, [], []),
  (333, .i2l, [], []),
  (334, .invokestatic 202, [267, 233, 3, 2], [0, 0]),
  (337, .aload_n 0, [], []),
  (338, .iload_n 1, [], []),
  (339, .iconst 1, [], []),
  (340, .invokevirtual 127, [247, 217, 3, 1], [0, 0, 13]),
  (343, .i2l, [], []),
  (344, .iload 5, [], []),
  (346, .i2l, [], []),
  (347, .iload 6, [], []),
  (349, .i2l, [], []),
  (350, .invokestatic 202, [267, 233, 3, 2], [0, 0]),
  (353, .ladd, [], []),
  (354, .aload_n 0, [], []),
  (355, .iload_n 1, [], []),
  (356, .iconst 2, [], []),
  (357, .invokevirtual 127, [247, 217, 3, 1], [0, 0, 13]),
  (360, .i2l, [], []),
  (361, .iload 7, [], []),
  (363, .i2l, [], []),
  (364, .iload 8, [], []),
  (366, .i2l, [], []),
  (367, .invokestatic 202, [267, 233, 3, 2], [0, 0]),
  (370, .ladd, [], []),
  (371, .aload_n 0, [], []),
  (372, .iload_n 1, [], []),
  (373, .iconst 3, [], []),
  (374, .invokevirtual 127, [247, 217, 3, 1], [0, 0, 13]),
  (377, .i2l, [], []),
  (378, .lsub, [], []),
  (379, .lmul, [], []),
  (380, .lastore, [], []),
  (381, .aload_n 0, [], []),
  (382, .getfield 20, [70, 13, 3], [21, 9, 4]),
  (385, .iload_n 2, [], []),
  (386, .ldc2_w 130, [1407], [16003008000]),
  (389, .aload_n 0, [], []),
  (390, .iload_n 1, [], []),
  (391, .iconst 0, [], []),
  (392, .invokevirtual 127, [247, 217, 3, 1], [0, 0, 13]),
  (395, .ineg, [], []),
  (396, .i2l, [], []),
  (397, .iload_n 3, [], []),
  (398, .i2l, [], []),
  (399, .iload 4, [], []),
  (401, .i2l, [], []),
  (402, .invokestatic 202, [267, 233, 3, 2], [0, 0]),
  (405, .lneg, [], []),
  (406, .aload_n 0, [], []),
  (407, .iload_n 1, [], []),
  (408, .iconst 1, [], []),
  (409, .invokevirtual 127, [247, 217, 3, 1], [0, 0, 13]),
  (412, .ineg, [], []),
  (413, .i2l, [], []),
  (414, .iload 5, [], []),
  (416, .i2l, [], []),
  (417, .iload 6, [], []),
  (419, .i2l, [], []),
  (420, .invokestatic 202, [267, 233, 3, 2], [0, 0]),
  (423, .lsub, [], []),
  (424, .aload_n 0, [], []),
  (425, .iload_n 1, [], []),
  (426, .iconst 2, [], []),
  (427, .invokevirtual 127, [247, 217, 3, 1], [0, 0, 13]),
  (430, .ineg, [], []),
  (431, .i2l, [], []),
  (432, .iload 7, [], []),
  (434, .i2l, [], []),
  (435, .iload 8, [], []),
  (437, .i2l, [], []),
  (438, .invokestatic 202, [267, 233, 3, 2], [0, 0]),
  (441, .lsub, [], []),
  (442, .aload_n 0, [], []),
  (443, .iload_n 1, [], []),
  (444, .iconst 3, [], []),
  (445, .invokevirtual 127, [247, 217, 3, 1], [0, 0, 13]),
  (448, .i2l, [], []),
  (449, .lsub, [], []),
  (450, .lmul, [], []),
  (451, .lastore, [], []),
  (452, .goto 40, [277], []),
  (455, .aload_n 0, [], []),
  (456, .iload_n 1, [], []),
  (457, .iload_n 2, [], []),
  (458, .iload_n 3, [], []),
  (459, .iload 4, [], []),
  (461, .iload 5, [], []),
  (463, .iload 6, [], []),
  (465, .iload 7, [], []),
  (467, .iload 8, [], []),
  (469, .invokevirtual 206, [268, 234, 9, 0], [0, 0, 13]),
  (472, .goto 20, [277], []),
  (475, .aload_n 0, [], []),
  (476, .iload_n 1, [], []),
  (477, .iload_n 2, [], []),
  (478, .iload_n 3, [], []),
  (479, .iload 4, [], []),
  (481, .iload 5, [], []),
  (483, .iload 6, [], []),
  (485, .iload 7, [], []),
  (487, .iload 8, [], []),
  (489, .invokevirtual 210, [269, 240, 9, 0], [0, 0, 13]),
  (492, .return_, [], [])]
set_option maxRecDepth 100000 in
noncomputable def zc_X12_lowBeyond : List (Nat × Jvm.ClassFile.Instr × List Nat × List Int) := [(0, .aload_n 0, [], []),
  (1, .iload_n 1, [], []),
  (2, .iload_n 2, [], []),
  (3, .invokevirtual 127, [247, 217, 3, 1], [0, 0, 13]),
  (6, .iload 4, [], []),
  (8, .isub, [], []),
  (9, .iload_n 3, [], []),
  (10, .aload_n 0, [], []),
  (11, .iload_n 1, [], []),
  (12, .iconst 3, [], []),
  (13, .iload_n 2, [], []),
  (14, .iadd, [], []),
  (15, .invokevirtual 127, [247, 217, 3, 1], [0, 0, 13]),
  (18, .isub, [], []),
  (19, .invokestatic 156, [254, 341, 2, 1], [0, 0]),
  (22, .i2l, [], []),
  (23, .lreturn, [], [])]
set_option maxRecDepth 100000 in
noncomputable def zc_X12_highBeyond : List (Nat × Jvm.ClassFile.Instr × List Nat × List Int) := [(0, .aload_n 0, [], []),
  (1, .iload_n 1, [], []),
  (2, .iload_n 2, [], []),
  (3, .invokevirtual 127, [247, 217, 3, 1], [0, 0, 13]),
  (6, .iload_n 3, [], []),
  (7, .isub, [], []),
  (8, .iload 4, [], []),
  (10, .aload_n 0, [], []),
  (11, .iload_n 1, [], []),
  (12, .iconst 3, [], []),
  (13, .iload_n 2, [], []),
  (14, .iadd, [], []),
  (15, .invokevirtual 127, [247, 217, 3, 1], [0, 0, 13]),
  (18, .isub, [], []),
  (19, .invokestatic 156, [254, 341, 2, 1], [0, 0]),
  (22, .i2l, [], []),
  (23, .lreturn, [], [])]
set_option maxRecDepth 100000 in
noncomputable def zc_X12_lesser : List (Nat × Jvm.ClassFile.Instr × List Nat × List Int) := [(0, .lload_n 0, [], []),
  (1, .lload_n 2, [], []),
  (2, .lmul, [], []),
  (3, .lload_n 0, [], []),
  (4, .lload 4, [], []),
  (6, .lmul, [], []),
  (7, .invokestatic 146, [251, 344, 2, 2], [0, 0]),
  (10, .lreturn, [], [])]
set_option maxRecDepth 100000 in
noncomputable def zc_X12_boundPair : List (Nat × Jvm.ClassFile.Instr × List Nat × List Int) := [(0, .aload_n 0, [], []),
  (1, .aload_n 0, [], []),
  (2, .iload_n 1, [], []),
  (3, .iconst 1, [], []),
  (4, .invokevirtual 123, [246, 216, 3, 1], [0, 0, 13]),
  (7, .iload_n 2, [], []),
  (8, .iload_n 3, [], []),
  (9, .iload 4, [], []),
  (11, .iload 5, [], []),
  (13, .iload 6, [], []),
  (15, .iload 7, [], []),
  (17, .iload 8, [], []),
  (19, .invokevirtual 213, [270, 230, 9, 0], [0, 0, 13]),
  (22, .aload_n 0, [], []),
  (23, .getfield 16, [69, 13, 3], [21, 9, 3]),
  (26, .iload_n 2, [], []),
  (27, .laload, [], []),
  (28, .lstore 9, [], []),
  (30, .aload_n 0, [], []),
  (31, .getfield 20, [70, 13, 3], [21, 9, 4]),
  (34, .iload_n 2, [], []),
  (35, .laload, [], []),
  (36, .lstore 11, [], []),
  (38, .aload_n 0, [], []),
  (39, .aload_n 0, [], []),
  (40, .iload_n 1, [], []),
  (41, .iconst 2, [], []),
  (42, .invokevirtual 123, [246, 216, 3, 1], [0, 0, 13]),
  (45, .iload_n 2, [], []),
  (46, .iload_n 3, [], []),
  (47, .iload 4, [], []),
  (49, .iload 5, [], []),
  (51, .iload 6, [], []),
  (53, .iload 7, [], []),
  (55, .iload 8, [], []),
  (57, .invokevirtual 213, [270, 230, 9, 0], [0, 0, 13]),
  (60, .aload_n 0, [], []),
  (61, .iload_n 1, [], []),
  (62, .iconst 0, [], []),
  (63, .invokevirtual 123, [246, 216, 3, 1], [0, 0, 13]),
  (66, .tableswitch 143 8 10 #[26, 63, 100], [108, 41, 62, 83], []),
  (92, .aload_n 0, [], []),
  (93, .getfield 16, [69, 13, 3], [21, 9, 3]),
  (96, .iload_n 2, [], []),
  (97, .lload 9, [], []),
  (99, .aload_n 0, [], []),
  (100, .getfield 16, [69, 13, 3], [21, 9, 3]),
  (103, .iload_n 2, [], []),
  (104, .laload, [], []),
  (105, .invokestatic 146, [251, 344, 2, 2], [0, 0]),
  (108, .lastore, [], []),
  (109, .aload_n 0, [], []),
  (110, .getfield 20, [70, 13, 3], [21, 9, 4]),
  (113, .iload_n 2, [], []),
  (114, .lload 11, [], []),
  (116, .aload_n 0, [], []),
  (117, .getfield 20, [70, 13, 3], [21, 9, 4]),
  (120, .iload_n 2, [], []),
  (121, .laload, [], []),
  (122, .invokestatic 146, [251, 344, 2, 2], [0, 0]),
  (125, .lastore, [], []),
  (126, .goto 121, [132], []),
  (129, .aload_n 0, [], []),
  (130, .getfield 16, [69, 13, 3], [21, 9, 3]),
  (133, .iload_n 2, [], []),
  (134, .lload 9, [], []),
  (136, .aload_n 0, [], []),
  (137, .getfield 16, [69, 13, 3], [21, 9, 3]),
  (140, .iload_n 2, [], []),
  (141, .laload, [], []),
  (142, .invokestatic 136, [249, 342, 2, 2], [0, 0]),
  (145, .lastore, [], []),
  (146, .aload_n 0, [], []),
  (147, .getfield 20, [70, 13, 3], [21, 9, 4]),
  (150, .iload_n 2, [], []),
  (151, .lload 11, [], []),
  (153, .aload_n 0, [], []),
  (154, .getfield 20, [70, 13, 3], [21, 9, 4]),
  (157, .iload_n 2, [], []),
  (158, .laload, [], []),
  (159, .invokestatic 136, [249, 342, 2, 2], [0, 0]),
  (162, .lastore, [], []),
  (163, .goto 84, [132], []),
  (166, .aload_n 0, [], []),
  (167, .getfield 16, [69, 13, 3], [21, 9, 3]),
  (170, .iload_n 2, [], []),
  (171, .laload, [], []),
  (172, .lstore 13, [], []),
  (174, .aload_n 0, [], []),
  (175, .getfield 16, [69, 13, 3], [21, 9, 3]),
  (178, .iload_n 2, [], []),
  (179, .lload 9, [], []),
  (181, .aload_n 0, [], []),
  (182, .getfield 20, [70, 13, 3], [21, 9, 4]),
  (185, .iload_n 2, [], []),
  (186, .laload, [], []),
  (187, .lneg, [], []),
  (188, .invokestatic 136, [249, 342, 2, 2], [0, 0]),
  (191, .lastore, [], []),
  (192, .aload_n 0, [], []),
  (193, .getfield 20, [70, 13, 3], [21, 9, 4]),
  (196, .iload_n 2, [], []),
  (197, .lload 11, [], []),
  (199, .lload 13, [], []),
  (201, .lneg, [], []),
  (202, .invokestatic 136, [249, 342, 2, 2], [0, 0]),
  (205, .lastore, [], []),
  (206, .goto 41, [132], []),
  (209, .aload_n 0, [], []),
  (210, .getfield 16, [69, 13, 3], [21, 9, 3]),
  (213, .iload_n 2, [], []),
  (214, .aload_n 0, [], []),
  (215, .iload_n 1, [], []),
  (216, .lload 9, [], []),
  (218, .aload_n 0, [], []),
  (219, .getfield 16, [69, 13, 3], [21, 9, 3]),
  (222, .iload_n 2, [], []),
  (223, .laload, [], []),
  (224, .invokevirtual 149, [252, 221, 4, 2], [0, 0, 13]),
  (227, .lastore, [], []),
  (228, .aload_n 0, [], []),
  (229, .getfield 20, [70, 13, 3], [21, 9, 4]),
  (232, .iload_n 2, [], []),
  (233, .aload_n 0, [], []),
  (234, .iload_n 1, [], []),
  (235, .lload 11, [], []),
  (237, .aload_n 0, [], []),
  (238, .getfield 20, [70, 13, 3], [21, 9, 4]),
  (241, .iload_n 2, [], []),
  (242, .laload, [], []),
  (243, .invokevirtual 149, [252, 221, 4, 2], [0, 0, 13]),
  (246, .lastore, [], []),
  (247, .return_, [], [])]
set_option maxRecDepth 100000 in
noncomputable def zc_X12_isWithin : List (Nat × Jvm.ClassFile.Instr × List Nat × List Int) := [(0, .iload_n 0, [], []),
  (1, .iload_n 2, [], []),
  (2, .invokestatic 158, [255, 339, 2, 1], [0, 0]),
  (5, .iload_n 1, [], []),
  (6, .iload_n 2, [], []),
  (7, .invokestatic 158, [255, 339, 2, 1], [0, 0]),
  (10, .if_icmp .gt 14, [14], []),
  (13, .iload_n 1, [], []),
  (14, .iload_n 0, [], []),
  (15, .isub, [], []),
  (16, .iload_n 2, [], []),
  (17, .if_icmp .ge 7, [14], []),
  (20, .iconst 1, [], []),
  (21, .goto 4, [15], []),
  (24, .iconst 0, [], []),
  (25, .ireturn, [4], [])]
set_option maxRecDepth 100000 in
noncomputable def zc_X12_repeatFrom : List (Nat × Jvm.ClassFile.Instr × List Nat × List Int) := [(0, .iload_n 0, [], []),
  (1, .iload_n 1, [], []),
  (2, .iload_n 2, [], []),
  (3, .invokestatic 216, [271, 235, 3, 4], [0, 0]),
  (6, .ifCond .eq 11, [9], []),
  (9, .iload_n 0, [], []),
  (10, .iload_n 2, [], []),
  (11, .invokestatic 158, [255, 339, 2, 1], [0, 0]),
  (14, .goto 4, [10], []),
  (17, .iconst 0, [], []),
  (18, .ireturn, [1], [])]
set_option maxRecDepth 100000 in
noncomputable def zc_X12_repeatTo : List (Nat × Jvm.ClassFile.Instr × List Nat × List Int) := [(0, .iload_n 0, [], []),
  (1, .iload_n 1, [], []),
  (2, .iload_n 2, [], []),
  (3, .invokestatic 216, [271, 235, 3, 4], [0, 0]),
  (6, .ifCond .eq 11, [9], []),
  (9, .iload_n 1, [], []),
  (10, .iload_n 2, [], []),
  (11, .invokestatic 158, [255, 339, 2, 1], [0, 0]),
  (14, .goto 6, [12], []),
  (17, .iload_n 2, [], []),
  (18, .iconst 1, [], []),
  (19, .isub, [], []),
  (20, .ireturn, [1], [])]
set_option maxRecDepth 100000 in
noncomputable def zc_X12_mirrorFrom : List (Nat × Jvm.ClassFile.Instr × List Nat × List Int) := [(0, .iload_n 1, [], []),
  (1, .iload_n 2, [], []),
  (2, .if_icmp .gt 7, [5], []),
  (5, .iload_n 0, [], []),
  (6, .goto 25, [21], []),
  (9, .iload_n 0, [], []),
  (10, .iload_n 2, [], []),
  (11, .if_icmp .le 11, [14], []),
  (14, .iconst 2, [], []),
  (15, .iload_n 2, [], []),
  (16, .imul, [], []),
  (17, .iload_n 1, [], []),
  (18, .isub, [], []),
  (19, .goto 12, [21], []),
  (22, .iload_n 0, [], []),
  (23, .iconst 2, [], []),
  (24, .iload_n 2, [], []),
  (25, .imul, [], []),
  (26, .iload_n 1, [], []),
  (27, .isub, [], []),
  (28, .invokestatic 220, [272, 343, 2, 1], [0, 0]),
  (31, .ireturn, [1], [])]
set_option maxRecDepth 100000 in
noncomputable def zc_X12_mirrorTo : List (Nat × Jvm.ClassFile.Instr × List Nat × List Int) := [(0, .iload_n 1, [], []),
  (1, .iload_n 2, [], []),
  (2, .if_icmp .gt 7, [5], []),
  (5, .iload_n 1, [], []),
  (6, .goto 17, [15], []),
  (9, .iload_n 0, [], []),
  (10, .iload_n 2, [], []),
  (11, .if_icmp .le 11, [14], []),
  (14, .iconst 2, [], []),
  (15, .iload_n 2, [], []),
  (16, .imul, [], []),
  (17, .iload_n 0, [], []),
  (18, .isub, [], []),
  (19, .goto 4, [15], []),
  (22, .iload_n 2, [], []),
  (23, .ireturn, [1], [])]
set_option maxRecDepth 100000 in
noncomputable def zc_X12_boundChange : List (Nat × Jvm.ClassFile.Instr × List Nat × List Int) := [(0, .aload_n 0, [], []),
  (1, .iload_n 1, [], []),
  (2, .iconst 1, [], []),
  (3, .invokevirtual 123, [246, 216, 3, 1], [0, 0, 13]),
  (6, .istore 9, [], []),
  (8, .aload_n 0, [], []),
  (9, .iload_n 1, [], []),
  (10, .iconst 0, [], []),
  (11, .invokevirtual 127, [247, 217, 3, 1], [0, 0, 13]),
  (14, .istore 10, [], []),
  (16, .aload_n 0, [], []),
  (17, .iload_n 1, [], []),
  (18, .iconst 1, [], []),
  (19, .invokevirtual 127, [247, 217, 3, 1], [0, 0, 13]),
  (22, .istore 11, [], []),
  (24, .aload_n 0, [], []),
  (25, .iload_n 1, [], []),
  (26, .iconst 0, [], []),
  (27, .invokevirtual 123, [246, 216, 3, 1], [0, 0, 13]),
  (30, .tableswitch 352 12 15 #[30, 77, 202, 327], [175, 20, 48, 105, 162], []),
  (60, .aload_n 0, [], []),
  (61, .iload_n 1, [], []),
  (62, .iconst 2, [], []),
  (63, .invokevirtual 127, [247, 217, 3, 1], [0, 0, 13]),
  (66, .istore 12, [], []),
  (68, .aload_n 0, [], []),
  (69, .iload 9, [], []),
  (71, .iload_n 2, [], []),
  (72, .iload_n 3, [], []),
  (73, .iload 10, [], []),
  (75, .isub, [], []),
  (76, .iload 4, [], []),
  (78, .iload 10, [], []),
  (80, .isub, [], []),
  (81, .iload 5, [], []),
  (83, .iload 11, [], []),
  (85, .isub, [], []),
  (86, .iload 6, [], []),
  (88, .iload 11, [], []),
  (90, .isub, [], []),
  (91, .iload 7, [], []),
  (93, .iload 12, [], []),
  (95, .isub, [], []),
  (96, .iload 8, [], []),
  (98, .iload 12, [], []),
  (100, .isub, [], []),
  (101, .invokevirtual 213, [270, 230, 9, 0], [0, 0, 13]),
  (104, .goto 302, [189], []),
  (107, .aload_n 0, [], []),
  (108, .iload 9, [], []),
  (110, .iload_n 2, [], []),
  (111, .iload 10, [], []),
  (113, .ifCond .ne 14, [58], []),
  (116, .iload_n 3, [], []),
  (117, .iload 4, [], []),
  (119, .iload 11, [], []),
  (121, .invokestatic 222, [273, 236, 3, 1], [0, 0]),
  (124, .goto 4, [59], []),
  (127, .iload_n 3, [], []),
  (128, .iload 10, [], []),
  (130, .ifCond .ne 14, [66], []),
  (133, .iload_n 3, [], []),
  (134, .iload 4, [], []),
  (136, .iload 11, [], []),
  (138, .invokestatic 226, [274, 237, 3, 1], [0, 0]),
  (141, .goto 5, [67], []),
  (144, .iload 4, [], []),
  (146, .iload 10, [], []),
  (148, .iconst 1, [], []),
  (149, .if_icmp .ne 15, [75], []),
  (152, .iload 5, [], []),
  (154, .iload 6, [], []),
  (156, .iload 11, [], []),
  (158, .invokestatic 222, [273, 236, 3, 1], [0, 0]),
  (161, .goto 5, [76], []),
  (164, .iload 5, [], []),
  (166, .iload 10, [], []),
  (168, .iconst 1, [], []),
  (169, .if_icmp .ne 15, [84], []),
  (172, .iload 5, [], []),
  (174, .iload 6, [], []),
  (176, .iload 11, [], []),
  (178, .invokestatic 226, [274, 237, 3, 1], [0, 0]),
  (181, .goto 5, [85], []),
  (184, .iload 6, [], []),
  (186, .iload 10, [], []),
  (188, .iconst 2, [], []),
  (189, .if_icmp .ne 15, [93], []),
  (192, .iload 7, [], []),
  (194, .iload 8, [], []),
  (196, .iload 11, [], []),
  (198, .invokestatic 222, [273, 236, 3, 1], [0, 0]),
  (201, .goto 5, [94], []),
  (204, .iload 7, [], []),
  (206, .iload 10, [], []),
  (208, .iconst 2, [], []),
  (209, .if_icmp .ne 15, [102], []),
  (212, .iload 7, [], []),
  (214, .iload 8, [], []),
  (216, .iload 11, [], []),
  (218, .invokestatic 226, [274, 237, 3, 1], [0, 0]),
  (221, .goto 5, [103], []),
  (224, .iload 8, [], []),
  (226, .invokevirtual 213, [270, 230, 9, 0], [0, 0, 13]),
  (229, .goto 177, [189], []),
  (232, .aload_n 0, [], []),
  (233, .iload 9, [], []),
  (235, .iload_n 2, [], []),
  (236, .iload 10, [], []),
  (238, .ifCond .ne 14, [115], []),
  (241, .iload_n 3, [], []),
  (242, .iload 4, [], []),
  (244, .iload 11, [], []),
  (246, .invokestatic 229, [275, 238, 3, 1], [0, 0]),
  (249, .goto 4, [116], []),
  (252, .iload_n 3, [], []),
  (253, .iload 10, [], []),
  (255, .ifCond .ne 14, [123], []),
  (258, .iload_n 3, [], []),
  (259, .iload 4, [], []),
  (261, .iload 11, [], []),
  (263, .invokestatic 232, [276, 239, 3, 1], [0, 0]),
  (266, .goto 5, [124], []),
  (269, .iload 4, [], []),
  (271, .iload 10, [], []),
  (273, .iconst 1, [], []),
  (274, .if_icmp .ne 15, [132], []),
  (277, .iload 5, [], []),
  (279, .iload 6, [], []),
  (281, .iload 11, [], []),
  (283, .invokestatic 229, [275, 238, 3, 1], [0, 0]),
  (286, .goto 5, [133], []),
  (289, .iload 5, [], []),
  (291, .iload 10, [], []),
  (293, .iconst 1, [], []),
  (294, .if_icmp .ne 15, [141], []),
  (297, .iload 5, [], []),
  (299, .iload 6, [], []),
  (301, .iload 11, [], []),
  (303, .invokestatic 232, [276, 239, 3, 1], [0, 0]),
  (306, .goto 5, [142], []),
  (309, .iload 6, [], []),
  (311, .iload 10, [], []),
  (313, .iconst 2, [], []),
  (314, .if_icmp .ne 15, [150], []),
  (317, .iload 7, [], []),
  (319, .iload 8, [], []),
  (321, .iload 11, [], []),
  (323, .invokestatic 229, [275, 238, 3, 1], [0, 0]),
  (326, .goto 5, [151], []),
  (329, .iload 7, [], []),
  (331, .iload 10, [], []),
  (333, .iconst 2, [], []),
  (334, .if_icmp .ne 15, [159], []),
  (337, .iload 7, [], []),
  (339, .iload 8, [], []),
  (341, .iload 11, [], []),
  (343, .invokestatic 232, [276, 239, 3, 1], [0, 0]),
  (346, .goto 5, [160], []),
  (349, .iload 8, [], []),
  (351, .invokevirtual 213, [270, 230, 9, 0], [0, 0, 13]),
  (354, .goto 52, [189], []),
  (357, .aload_n 0, [], []),
  (358, .iload 9, [], []),
  (360, .iload_n 2, [], []),
  (361, .iload 10, [], []),
  (363, .iload 11, [], []),
  (365, .iload_n 3, [], []),
  (366, .iload 4, [], []),
  (368, .iload 5, [], []),
  (370, .iload 6, [], []),
  (372, .iload 7, [], []),
  (374, .iload 8, [], []),
  (376, .invokevirtual 235, [277, 241, 11, 0], [0, 0, 13]),
  (379, .goto 27, [189], []),
  (382, .aload_n 0, [], []),
  (383, .iload 9, [], []),
  (385, .iload_n 2, [], []),
  (386, .iload_n 3, [], []),
  (387, .iload 4, [], []),
  (389, .iload 5, [], []),
  (391, .iload 6, [], []),
  (393, .iload 7, [], []),
  (395, .iload 8, [], []),
  (397, .invokevirtual 213, [270, 230, 9, 0], [0, 0, 13]),
  (400, .aload_n 0, [], []),
  (401, .iload_n 1, [], []),
  (402, .iload_n 2, [], []),
  (403, .invokevirtual 239, [278, 242, 3, 0], [0, 0, 13]),
  (406, .return_, [], [])]
set_option maxRecDepth 100000 in
noncomputable def zc_X12_boundTurn : List (Nat × Jvm.ClassFile.Instr × List Nat × List Int) := [(0, .iload_n 3, [], []),
  (1, .iload 5, [], []),
  (3, .iload 7, [], []),
  (5, .iload 9, [], []),
  (7, .invokestatic 161, [256, 223, 4, 1], [0, 0]),
  (10, .istore 11, [], []),
  (12, .iload_n 3, [], []),
  (13, .iload 6, [], []),
  (15, .iload 8, [], []),
  (17, .iload 10, [], []),
  (19, .invokestatic 161, [256, 223, 4, 1], [0, 0]),
  (22, .istore 12, [], []),
  (24, .iload 4, [], []),
  (26, .iload 5, [], []),
  (28, .iload 7, [], []),
  (30, .iload 9, [], []),
  (32, .invokestatic 161, [256, 223, 4, 1], [0, 0]),
  (35, .istore 13, [], []),
  (37, .iload 4, [], []),
  (39, .iload 6, [], []),
  (41, .iload 8, [], []),
  (43, .iload 10, [], []),
  (45, .invokestatic 161, [256, 223, 4, 1], [0, 0]),
  (48, .istore 14, [], []),
  (50, .aload_n 0, [], []),
  (51, .iload_n 1, [], []),
  (52, .iload_n 2, [], []),
  (53, .iload_n 3, [], []),
  (54, .ifCond .ne 8, [31], []),
  (57, .iload 13, [], []),
  (59, .goto 15, [36], []),
  (62, .iload 4, [], []),
  (64, .ifCond .ne 8, [35], []),
  (67, .iload 11, [], []),
  (69, .goto 5, [36], []),
  (72, .iload 5, [], []),
  (74, .iload_n 3, [], []),
  (75, .ifCond .ne 8, [40], []),
  (78, .iload 14, [], []),
  (80, .goto 15, [45], []),
  (83, .iload 4, [], []),
  (85, .ifCond .ne 8, [44], []),
  (88, .iload 12, [], []),
  (90, .goto 5, [45], []),
  (93, .iload 6, [], []),
  (95, .iload_n 3, [], []),
  (96, .iconst 1, [], []),
  (97, .if_icmp .ne 8, [50], []),
  (100, .iload 13, [], []),
  (102, .goto 16, [56], []),
  (105, .iload 4, [], []),
  (107, .iconst 1, [], []),
  (108, .if_icmp .ne 8, [55], []),
  (111, .iload 11, [], []),
  (113, .goto 5, [56], []),
  (116, .iload 7, [], []),
  (118, .iload_n 3, [], []),
  (119, .iconst 1, [], []),
  (120, .if_icmp .ne 8, [61], []),
  (123, .iload 14, [], []),
  (125, .goto 16, [67], []),
  (128, .iload 4, [], []),
  (130, .iconst 1, [], []),
  (131, .if_icmp .ne 8, [66], []),
  (134, .iload 12, [], []),
  (136, .goto 5, [67], []),
  (139, .iload 8, [], []),
  (141, .iload_n 3, [], []),
  (142, .iconst 2, [], []),
  (143, .if_icmp .ne 8, [72], []),
  (146, .iload 13, [], []),
  (148, .goto 16, [78], []),
  (151, .iload 4, [], []),
  (153, .iconst 2, [], []),
  (154, .if_icmp .ne 8, [77], []),
  (157, .iload 11, [], []),
  (159, .goto 5, [78], []),
  (162, .iload 9, [], []),
  (164, .iload_n 3, [], []),
  (165, .iconst 2, [], []),
  (166, .if_icmp .ne 8, [83], []),
  (169, .iload 14, [], []),
  (171, .goto 16, [89], []),
  (174, .iload 4, [], []),
  (176, .iconst 2, [], []),
  (177, .if_icmp .ne 8, [88], []),
  (180, .iload 12, [], []),
  (182, .goto 5, [89], []),
  (185, .iload 10, [], []),
  (187, .invokevirtual 213, [270, 230, 9, 0], [0, 0, 13]),
  (190, .return_, [], [])]
set_option maxRecDepth 100000 in
noncomputable def zc_X12_boundGrown : List (Nat × Jvm.ClassFile.Instr × List Nat × List Int) := [(0, .aload_n 0, [], []),
  (1, .iload_n 1, [], []),
  (2, .iconst 0, [], []),
  (3, .invokevirtual 123, [246, 216, 3, 1], [0, 0, 13]),
  (6, .bipush 17, [], []),
  (8, .if_icmp .ne 74, [48], []),
  (11, .aload_n 0, [], []),
  (12, .getfield 16, [69, 13, 3], [21, 9, 3]),
  (15, .iload_n 2, [], []),
  (16, .laload, [], []),
  (17, .invokestatic 169, [258, 340, 1, 2], [0, 0]),
  (20, .lstore_n 3, [], []),
  (21, .aload_n 0, [], []),
  (22, .getfield 20, [70, 13, 3], [21, 9, 4]),
  (25, .iload_n 2, [], []),
  (26, .laload, [], []),
  (27, .invokestatic 169, [258, 340, 1, 2], [0, 0]),
  (30, .lstore 5, [], []),
  (32, .aload_n 0, [], []),
  (33, .getfield 16, [69, 13, 3], [21, 9, 3]),
  (36, .iload_n 2, [], []),
  (37, .aload_n 0, [], []),
  (38, .getfield 16, [69, 13, 3], [21, 9, 3]),
  (41, .iload_n 2, [], []),
  (42, .laload, [], []),
  (43, .lconst 0, [], []),
  (44, .lcmp, [], []),
  (45, .ifCond .gt 18, [37], []),
  (48, .aload_n 0, [], []),
  (49, .getfield 20, [70, 13, 3], [21, 9, 4]),
  (52, .iload_n 2, [], []),
  (53, .laload, [], []),
  (54, .lconst 0, [], []),
  (55, .lcmp, [], []),
  (56, .ifCond .lt 7, [37], []),
  (59, .lconst 0, [], []),
  (60, .goto 9, [40], []),
  (63, .lload_n 3, [], []),
  (64, .lload 5, [], []),
  (66, .invokestatic 146, [251, 344, 2, 2], [0, 0]),
  (69, .lastore, [], []),
  (70, .aload_n 0, [], []),
  (71, .getfield 20, [70, 13, 3], [21, 9, 4]),
  (74, .iload_n 2, [], []),
  (75, .lload_n 3, [], []),
  (76, .lload 5, [], []),
  (78, .invokestatic 136, [249, 342, 2, 2], [0, 0]),
  (81, .lastore, [], []),
  (82, .aload_n 0, [], []),
  (83, .getfield 16, [69, 13, 3], [21, 9, 3]),
  (86, .iload_n 2, [], []),
  (87, .dup2, [], []),
  (88, .laload, [], []),
  (89, .aload_n 0, [], []),
  (90, .iload_n 1, [], []),
  (91, .invokevirtual 165, [257, 222, 2, 2], [0, 0, 13]),
  (94, .lsub, [], []),
  (95, .lastore, [], []),
  (96, .aload_n 0, [], []),
  (97, .getfield 20, [70, 13, 3], [21, 9, 4]),
  (100, .iload_n 2, [], []),
  (101, .dup2, [], []),
  (102, .laload, [], []),
  (103, .aload_n 0, [], []),
  (104, .iload_n 1, [], []),
  (105, .invokevirtual 165, [257, 222, 2, 2], [0, 0, 13]),
  (108, .lsub, [], []),
  (109, .lastore, [], []),
  (110, .return_, [], [])]
set_option maxRecDepth 100000 in
noncomputable def zc_X12_xOf : List (Nat × Jvm.ClassFile.Instr × List Nat × List Int) := [(0, .iload_n 0, [], []),
  (1, .bipush 8, [], []),
  (3, .ishr, [], []),
  (4, .ireturn, [1], [])]
set_option maxRecDepth 100000 in
noncomputable def zc_X12_yOf : List (Nat × Jvm.ClassFile.Instr × List Nat × List Int) := [(0, .iload_n 0, [], []),
  (1, .iconst 4, [], []),
  (2, .ishr, [], []),
  (3, .bipush 15, [], []),
  (5, .iand, [], []),
  (6, .ireturn, [1], [])]
set_option maxRecDepth 100000 in
noncomputable def zc_X12_zOf : List (Nat × Jvm.ClassFile.Instr × List Nat × List Int) := [(0, .iload_n 0, [], []),
  (1, .bipush 15, [], []),
  (3, .iand, [], []),
  (4, .ireturn, [1], [])]
set_option maxRecDepth 100000 in
noncomputable def zc_X12_isPlace : List (Nat × Jvm.ClassFile.Instr × List Nat × List Int) := [(0, .iload_n 0, [], []),
  (1, .i2l, [], []),
  (2, .lconst 0, [], []),
  (3, .ldc2_w 243, [1449], [4095]),
  (6, .invokestatic 119, [245, 213, 3, 4], [0, 0]),
  (9, .ireturn, [4], [])]
set_option maxRecDepth 100000 in
noncomputable def zc_X12_bounds : List (Nat × Jvm.ClassFile.Instr × List Nat × List Int) := [(0, .aload_n 0, [], []),
  (1, .iload_n 1, [], []),
  (2, .invokevirtual 175, [260, 218, 2, 4], [0, 0, 13]),
  (5, .ifCond .eq 63, [31], []),
  (8, .iload_n 2, [], []),
  (9, .invokestatic 245, [279, 246, 1, 4], [0, 0]),
  (12, .ifCond .eq 56, [31], []),
  (15, .iload_n 3, [], []),
  (16, .invokestatic 245, [279, 246, 1, 4], [0, 0]),
  (19, .ifCond .eq 49, [31], []),
  (22, .iload_n 2, [], []),
  (23, .invokestatic 248, [280, 243, 1, 1], [0, 0]),
  (26, .iload_n 3, [], []),
  (27, .invokestatic 248, [280, 243, 1, 1], [0, 0]),
  (30, .if_icmp .gt 38, [31], []),
  (33, .iload_n 2, [], []),
  (34, .invokestatic 251, [281, 244, 1, 1], [0, 0]),
  (37, .iload_n 3, [], []),
  (38, .invokestatic 251, [281, 244, 1, 1], [0, 0]),
  (41, .if_icmp .gt 27, [31], []),
  (44, .iload_n 2, [], []),
  (45, .invokestatic 254, [282, 245, 1, 1], [0, 0]),
  (48, .iload_n 3, [], []),
  (49, .invokestatic 254, [282, 245, 1, 1], [0, 0]),
  (52, .if_icmp .gt 16, [31], []),
  (55, .iload 4, [], []),
  (57, .i2l, [], []),
  (58, .lconst 0, [], []),
  (59, .ldc2_w 257, [1459], [3]),
  (62, .invokestatic 119, [245, 213, 3, 4], [0, 0]),
  (65, .ifCond .ne 10, [35], []),
  (68, .aload_n 0, [], []),
  (69, .bipush (-62), [], []),
  (71, .invokevirtual 183, [261, 215, 2, 2], [0, 0, 13]),
  (74, .lreturn, [], []),
  (75, .aload_n 0, [], []),
  (76, .iload_n 1, [], []),
  (77, .iconst 0, [], []),
  (78, .iload_n 2, [], []),
  (79, .invokestatic 248, [280, 243, 1, 1], [0, 0]),
  (82, .iload_n 3, [], []),
  (83, .invokestatic 248, [280, 243, 1, 1], [0, 0]),
  (86, .iload_n 2, [], []),
  (87, .invokestatic 251, [281, 244, 1, 1], [0, 0]),
  (90, .iload_n 3, [], []),
  (91, .invokestatic 251, [281, 244, 1, 1], [0, 0]),
  (94, .iload_n 2, [], []),
  (95, .invokestatic 254, [282, 245, 1, 1], [0, 0]),
  (98, .iload_n 3, [], []),
  (99, .invokestatic 254, [282, 245, 1, 1], [0, 0]),
  (102, .invokevirtual 213, [270, 230, 9, 0], [0, 0, 13]),
  (105, .iload 4, [], []),
  (107, .iconst 2, [], []),
  (108, .if_icmp .ge 12, [59], []),
  (111, .aload_n 0, [], []),
  (112, .getfield 16, [69, 13, 3], [21, 9, 3]),
  (115, .iconst 0, [], []),
  (116, .laload, [], []),
  (117, .goto 9, [63], []),
  (120, .aload_n 0, [], []),
  (121, .getfield 20, [70, 13, 3], [21, 9, 4]),
  (124, .iconst 0, [], []),
  (125, .laload, [], []),
  (126, .iload 4, [], []),
  (128, .iconst 2, [], []),
  (129, .irem, [], []),
  (130, .ifCond .ne 7, [69], []),
  (133, .iconst 1, [], []),
  (134, .goto 4, [70], []),
  (137, .iconst 0, [], []),
  (138, .invokestatic 186, [262, 226, 2, 2], [0, 0]),
  (141, .lreturn, [], [])]
set_option maxRecDepth 100000 in
noncomputable def zc_X12_isInside : List (Nat × Jvm.ClassFile.Instr × List Nat × List Int) := [(0, .aload_n 0, [], []),
  (1, .iload_n 1, [], []),
  (2, .iload_n 2, [], []),
  (3, .invokestatic 248, [280, 243, 1, 1], [0, 0]),
  (6, .iload_n 2, [], []),
  (7, .invokestatic 251, [281, 244, 1, 1], [0, 0]),
  (10, .iload_n 2, [], []),
  (11, .invokestatic 254, [282, 245, 1, 1], [0, 0]),
  (14, .invokevirtual 142, [250, 219, 5, 2], [0, 0, 13]),
  (17, .lconst 0, [], []),
  (18, .lcmp, [], []),
  (19, .ifCond .gt 7, [14], []),
  (22, .iconst 1, [], []),
  (23, .goto 4, [15], []),
  (26, .iconst 0, [], []),
  (27, .ireturn, [4], [])]
set_option maxRecDepth 100000 in
noncomputable def zc_X12_fills : List (Nat × Jvm.ClassFile.Instr × List Nat × List Int) := [(0, .iconst 0, [], []),
  (1, .istore_n 3, [], []),
  (2, .iconst 0, [], []),
  (3, .istore 4, [], []),
  (5, .iload 4, [], []),
  (7, .sipush 4096, [], []),
  (10, .if_icmp .ge 45, [32], []),
  (13, .aload_n 0, [], []),
  (14, .getfield 25, [71, 13, 3], [32, 4, 5]),
  (17, .iload_n 1, [], []),
  (18, .aaload, [], []),
  (19, .iload 4, [], []),
  (21, .aload_n 0, [], []),
  (22, .iload_n 2, [], []),
  (23, .iload 4, [], []),
  (25, .invokevirtual 259, [283, 248, 3, 4], [0, 0, 13]),
  (28, .bastore, [], []),
  (29, .iload_n 3, [], []),
  (30, .aload_n 0, [], []),
  (31, .getfield 25, [71, 13, 3], [32, 4, 5]),
  (34, .iload_n 1, [], []),
  (35, .aaload, [], []),
  (36, .iload 4, [], []),
  (38, .baload, [], []),
  (39, .ifCond .eq 7, [27], []),
  (42, .iconst 1, [], []),
  (43, .goto 4, [28], []),
  (46, .iconst 0, [], []),
  (47, .iadd, [], []),
  (48, .istore_n 3, [], []),
  (49, .iinc 4 1, [], []),
  (52, .goto (-47), [4], []),
  (55, .iload_n 3, [], []),
  (56, .ireturn, [1], [])]
set_option maxRecDepth 100000 in
noncomputable def zc_X12_in : List (Nat × Jvm.ClassFile.Instr × List Nat × List Int) := [(0, .aload_n 0, [], []),
  (1, .iload_n 1, [], []),
  (2, .invokevirtual 175, [260, 218, 2, 4], [0, 0, 13]),
  (5, .ifCond .eq 10, [7], []),
  (8, .iload_n 2, [], []),
  (9, .invokestatic 245, [279, 246, 1, 4], [0, 0]),
  (12, .ifCond .ne 10, [11], []),
  (15, .aload_n 0, [], []),
  (16, .bipush (-62), [], []),
  (18, .invokevirtual 110, [244, 214, 2, 1], [0, 0, 13]),
  (21, .ireturn, [1], []),
  (22, .aload_n 0, [], []),
  (23, .iload_n 1, [], []),
  (24, .iload_n 2, [], []),
  (25, .invokevirtual 259, [283, 248, 3, 4], [0, 0, 13]),
  (28, .ifCond .eq 7, [18], []),
  (31, .iconst 1, [], []),
  (32, .goto 4, [19], []),
  (35, .iconst 0, [], []),
  (36, .ireturn, [1], [])]
set_option maxRecDepth 100000 in
noncomputable def zc_X12_looked : List (Nat × Jvm.ClassFile.Instr × List Nat × List Int) := [(0, .aload_n 0, [], []),
  (1, .iload_n 1, [], []),
  (2, .iconst 0, [], []),
  (3, .iload_n 2, [], []),
  (4, .iload_n 2, [], []),
  (5, .iload 5, [], []),
  (7, .iadd, [], []),
  (8, .iconst 1, [], []),
  (9, .isub, [], []),
  (10, .iload_n 3, [], []),
  (11, .iload_n 3, [], []),
  (12, .iload 5, [], []),
  (14, .iadd, [], []),
  (15, .iconst 1, [], []),
  (16, .isub, [], []),
  (17, .iload 4, [], []),
  (19, .iload 4, [], []),
  (21, .iload 5, [], []),
  (23, .iadd, [], []),
  (24, .iconst 1, [], []),
  (25, .isub, [], []),
  (26, .invokevirtual 213, [270, 230, 9, 0], [0, 0, 13]),
  (29, .iconst 1, [], []),
  (30, .istore 6, [], []),
  (32, .iload 5, [], []),
  (34, .iconst 1, [], []),
  (35, .if_icmp .le 89, [82], []),
  (38, .aload_n 0, [], []),
  (39, .getfield 20, [70, 13, 3], [21, 9, 4]),
  (42, .iconst 0, [], []),
  (43, .laload, [], []),
  (44, .lconst 0, [], []),
  (45, .lcmp, [], []),
  (46, .ifCond .le 78, [82], []),
  (49, .aload_n 0, [], []),
  (50, .getfield 16, [69, 13, 3], [21, 9, 3]),
  (53, .iconst 0, [], []),
  (54, .laload, [], []),
  (55, .lconst 0, [], []),
  (56, .lcmp, [], []),
  (57, .ifCond .gt 67, [82], []),
  (60, .iload 5, [], []),
  (62, .iconst 2, [], []),
  (63, .idiv, [], []),
  (64, .istore 7, [], []),
  (66, .iconst 0, [], []),
  (67, .istore 8, [], []),
  (69, .iload 8, [], []),
  (71, .bipush 8, [], []),
  (73, .if_icmp .ge 51, [82], []),
  (76, .iload 6, [], []),
  (78, .aload_n 0, [], []),
  (79, .iload_n 1, [], []),
  (80, .iload_n 2, [], []),
  (81, .iload 7, [], []),
  (83, .iload 8, [], []),
  (85, .iconst 1, [], []),
  (86, .iand, [], []),
  (87, .imul, [], []),
  (88, .iadd, [], []),
  (89, .iload_n 3, [], []),
  (90, .iload 7, [], []),
  (92, .iload 8, [], []),
  (94, .iconst 1, [], []),
  (95, .ishr, [], []),
  (96, .iconst 1, [], []),
  (97, .iand, [], []),
  (98, .imul, [], []),
  (99, .iadd, [], []),
  (100, .iload 4, [], []),
  (102, .iload 7, [], []),
  (104, .iload 8, [], []),
  (106, .iconst 2, [], []),
  (107, .ishr, [], []),
  (108, .imul, [], []),
  (109, .iadd, [], []),
  (110, .iload 7, [], []),
  (112, .invokevirtual 263, [284, 251, 6, 1], [0, 0, 13]),
  (115, .iadd, [], []),
  (116, .istore 6, [], []),
  (118, .iinc 8 1, [], []),
  (121, .goto (-52), [47], []),
  (124, .iload 6, [], []),
  (126, .ireturn, [1], [])]
set_option maxRecDepth 100000 in
noncomputable def zc_X12_count : List (Nat × Jvm.ClassFile.Instr × List Nat × List Int) := [(0, .aload_n 0, [], []),
  (1, .iload_n 1, [], []),
  (2, .invokevirtual 175, [260, 218, 2, 4], [0, 0, 13]),
  (5, .ifCond .eq 13, [10], []),
  (8, .iload_n 2, [], []),
  (9, .i2l, [], []),
  (10, .lconst 0, [], []),
  (11, .lconst 1, [], []),
  (12, .invokestatic 119, [245, 213, 3, 4], [0, 0]),
  (15, .ifCond .ne 10, [14], []),
  (18, .aload_n 0, [], []),
  (19, .bipush (-62), [], []),
  (21, .invokevirtual 110, [244, 214, 2, 1], [0, 0, 13]),
  (24, .ireturn, [1], []),
  (25, .iload_n 2, [], []),
  (26, .ifCond .ne 12, [21], []),
  (29, .aload_n 0, [], []),
  (30, .iconst 0, [], []),
  (31, .iload_n 1, [], []),
  (32, .invokevirtual 267, [285, 249, 3, 1], [0, 0, 13]),
  (35, .goto 13, [28], []),
  (38, .aload_n 0, [], []),
  (39, .iload_n 1, [], []),
  (40, .iconst 0, [], []),
  (41, .iconst 0, [], []),
  (42, .iconst 0, [], []),
  (43, .bipush 16, [], []),
  (45, .invokevirtual 263, [284, 251, 6, 1], [0, 0, 13]),
  (48, .ireturn, [1], [])]
set_option maxRecDepth 100000 in
noncomputable def zc_X12_placeOf : List (Nat × Jvm.ClassFile.Instr × List Nat × List Int) := [(0, .aload_n 0, [], []),
  (1, .iload_n 1, [], []),
  (2, .invokevirtual 175, [260, 218, 2, 4], [0, 0, 13]),
  (5, .ifCond .eq 7, [6], []),
  (8, .iload_n 2, [], []),
  (9, .ifCond .ge 10, [10], []),
  (12, .aload_n 0, [], []),
  (13, .bipush (-62), [], []),
  (15, .invokevirtual 110, [244, 214, 2, 1], [0, 0, 13]),
  (18, .ireturn, [1], []),
  (19, .iconst 0, [], []),
  (20, .istore_n 3, [], []),
  (21, .iconst 0, [], []),
  (22, .istore 4, [], []),
  (24, .iload 4, [], []),
  (26, .sipush 4096, [], []),
  (29, .if_icmp .ge 30, [30], []),
  (32, .aload_n 0, [], []),
  (33, .iload_n 1, [], []),
  (34, .iload 4, [], []),
  (36, .invokevirtual 259, [283, 248, 3, 4], [0, 0, 13]),
  (39, .ifCond .eq 14, [28], []),
  (42, .iload_n 3, [], []),
  (43, .iload_n 2, [], []),
  (44, .if_icmp .ne 6, [27], []),
  (47, .iload 4, [], []),
  (49, .ireturn, [1], []),
  (50, .iinc 3 1, [], []),
  (53, .iinc 4 1, [], []),
  (56, .goto (-32), [14], []),
  (59, .aload_n 0, [], []),
  (60, .bipush (-62), [], []),
  (62, .invokevirtual 110, [244, 214, 2, 1], [0, 0, 13]),
  (65, .ireturn, [1], [])]
set_option maxRecDepth 100000 in
noncomputable def zc_X12_axisOf : List (Nat × Jvm.ClassFile.Instr × List Nat × List Int) := [(0, .iload_n 1, [], []),
  (1, .iload_n 0, [], []),
  (2, .invokestatic 248, [280, 243, 1, 1], [0, 0]),
  (5, .iload_n 0, [], []),
  (6, .invokestatic 251, [281, 244, 1, 1], [0, 0]),
  (9, .iload_n 0, [], []),
  (10, .invokestatic 254, [282, 245, 1, 1], [0, 0]),
  (13, .invokestatic 161, [256, 223, 4, 1], [0, 0]),
  (16, .ireturn, [1], [])]
set_option maxRecDepth 100000 in
noncomputable def zc_X12_slice : List (Nat × Jvm.ClassFile.Instr × List Nat × List Int) := [(0, .aload_n 0, [], []),
  (1, .iload_n 1, [], []),
  (2, .invokevirtual 175, [260, 218, 2, 4], [0, 0, 13]),
  (5, .ifCond .eq 27, [16], []),
  (8, .iload_n 2, [], []),
  (9, .i2l, [], []),
  (10, .lconst 0, [], []),
  (11, .ldc2_w 270, [1541], [2]),
  (14, .invokestatic 119, [245, 213, 3, 4], [0, 0]),
  (17, .ifCond .eq 15, [16], []),
  (20, .iload_n 3, [], []),
  (21, .i2l, [], []),
  (22, .lconst 0, [], []),
  (23, .ldc2_w 272, [1542], [15]),
  (26, .invokestatic 119, [245, 213, 3, 4], [0, 0]),
  (29, .ifCond .ne 10, [20], []),
  (32, .aload_n 0, [], []),
  (33, .bipush (-62), [], []),
  (35, .invokevirtual 110, [244, 214, 2, 1], [0, 0, 13]),
  (38, .ireturn, [1], []),
  (39, .iconst 0, [], []),
  (40, .istore 4, [], []),
  (42, .iconst 0, [], []),
  (43, .istore 5, [], []),
  (45, .iload 5, [], []),
  (47, .sipush 4096, [], []),
  (50, .if_icmp .ge 39, [45], []),
  (53, .iload 4, [], []),
  (55, .iload 5, [], []),
  (57, .iload_n 2, [], []),
  (58, .invokestatic 274, [286, 254, 2, 1], [0, 0]),
  (61, .iload_n 3, [], []),
  (62, .if_icmp .ne 17, [40], []),
  (65, .aload_n 0, [], []),
  (66, .iload_n 1, [], []),
  (67, .iload 5, [], []),
  (69, .invokevirtual 259, [283, 248, 3, 4], [0, 0, 13]),
  (72, .ifCond .eq 7, [40], []),
  (75, .iconst 1, [], []),
  (76, .goto 4, [41], []),
  (79, .iconst 0, [], []),
  (80, .iadd, [], []),
  (81, .istore 4, [], []),
  (83, .iinc 5 1, [], []),
  (86, .goto (-41), [24], []),
  (89, .iload 4, [], []),
  (91, .ireturn, [1], [])]
set_option maxRecDepth 100000 in
noncomputable def zc_X12_reach : List (Nat × Jvm.ClassFile.Instr × List Nat × List Int) := [(0, .aload_n 0, [], []),
  (1, .iload_n 1, [], []),
  (2, .invokevirtual 175, [260, 218, 2, 4], [0, 0, 13]),
  (5, .ifCond .eq 25, [16], []),
  (8, .iload_n 2, [], []),
  (9, .i2l, [], []),
  (10, .lconst 0, [], []),
  (11, .ldc2_w 270, [1541], [2]),
  (14, .invokestatic 119, [245, 213, 3, 4], [0, 0]),
  (17, .ifCond .eq 13, [16], []),
  (20, .iload_n 3, [], []),
  (21, .i2l, [], []),
  (22, .lconst 0, [], []),
  (23, .lconst 1, [], []),
  (24, .invokestatic 119, [245, 213, 3, 4], [0, 0]),
  (27, .ifCond .ne 10, [20], []),
  (30, .aload_n 0, [], []),
  (31, .bipush (-62), [], []),
  (33, .invokevirtual 110, [244, 214, 2, 1], [0, 0, 13]),
  (36, .ireturn, [1], []),
  (37, .iconst (-1), [], []),
  (38, .istore 4, [], []),
  (40, .iconst 0, [], []),
  (41, .istore 5, [], []),
  (43, .iload 5, [], []),
  (45, .sipush 4096, [], []),
  (48, .if_icmp .ge 60, [52], []),
  (51, .aload_n 0, [], []),
  (52, .iload_n 1, [], []),
  (53, .iload 5, [], []),
  (55, .invokevirtual 259, [283, 248, 3, 4], [0, 0, 13]),
  (58, .ifCond .eq 44, [50], []),
  (61, .iload 5, [], []),
  (63, .iload_n 2, [], []),
  (64, .invokestatic 274, [286, 254, 2, 1], [0, 0]),
  (67, .istore 6, [], []),
  (69, .iload 4, [], []),
  (71, .ifCond .ge 8, [40], []),
  (74, .iload 6, [], []),
  (76, .goto 24, [49], []),
  (79, .iload_n 3, [], []),
  (80, .ifCond .ne 13, [46], []),
  (83, .iload 4, [], []),
  (85, .iload 6, [], []),
  (87, .invokestatic 220, [272, 343, 2, 1], [0, 0]),
  (90, .goto 10, [49], []),
  (93, .iload 4, [], []),
  (95, .iload 6, [], []),
  (97, .invokestatic 156, [254, 341, 2, 1], [0, 0]),
  (100, .istore 4, [], []),
  (102, .iinc 5 1, [], []),
  (105, .goto (-62), [24], []),
  (108, .iload 4, [], []),
  (110, .ireturn, [1], [])]
set_option maxRecDepth 100000 in
noncomputable def zc_X12_ray : List (Nat × Jvm.ClassFile.Instr × List Nat × List Int) := [(0, .aload_n 0, [], []),
  (1, .iload_n 1, [], []),
  (2, .invokevirtual 175, [260, 218, 2, 4], [0, 0, 13]),
  (5, .ifCond .eq 81, [37], []),
  (8, .iload_n 2, [], []),
  (9, .invokestatic 245, [279, 246, 1, 4], [0, 0]),
  (12, .ifCond .eq 74, [37], []),
  (15, .iload_n 3, [], []),
  (16, .i2l, [], []),
  (17, .ldc2_w 277, [1554], [(-4)]),
  (20, .ldc2_w 279, [1555], [4]),
  (23, .invokestatic 119, [245, 213, 3, 4], [0, 0]),
  (26, .ifCond .eq 60, [37], []),
  (29, .iload 4, [], []),
  (31, .i2l, [], []),
  (32, .ldc2_w 277, [1554], [(-4)]),
  (35, .ldc2_w 279, [1555], [4]),
  (38, .invokestatic 119, [245, 213, 3, 4], [0, 0]),
  (41, .ifCond .eq 45, [37], []),
  (44, .iload 5, [], []),
  (46, .i2l, [], []),
  (47, .ldc2_w 277, [1554], [(-4)]),
  (50, .ldc2_w 279, [1555], [4]),
  (53, .invokestatic 119, [245, 213, 3, 4], [0, 0]),
  (56, .ifCond .eq 30, [37], []),
  (59, .iload_n 3, [], []),
  (60, .ifCond .ne 13, [31], []),
  (63, .iload 4, [], []),
  (65, .ifCond .ne 8, [31], []),
  (68, .iload 5, [], []),
  (70, .ifCond .eq 16, [37], []),
  (73, .iload 6, [], []),
  (75, .i2l, [], []),
  (76, .lconst 0, [], []),
  (77, .ldc2_w 270, [1541], [2]),
  (80, .invokestatic 119, [245, 213, 3, 4], [0, 0]),
  (83, .ifCond .ne 10, [41], []),
  (86, .aload_n 0, [], []),
  (87, .bipush (-62), [], []),
  (89, .invokevirtual 110, [244, 214, 2, 1], [0, 0, 13]),
  (92, .ireturn, [1], []),
  (93, .iconst (-1), [], []),
  (94, .istore 7, [], []),
  (96, .iconst 0, [], []),
  (97, .istore 8, [], []),
  (99, .iconst 0, [], []),
  (100, .istore 9, [], []),
  (102, .iconst 0, [], []),
  (103, .istore 10, [], []),
  (105, .iload_n 2, [], []),
  (106, .invokestatic 248, [280, 243, 1, 1], [0, 0]),
  (109, .istore 11, [], []),
  (111, .iload_n 2, [], []),
  (112, .invokestatic 251, [281, 244, 1, 1], [0, 0]),
  (115, .istore 12, [], []),
  (117, .iload_n 2, [], []),
  (118, .invokestatic 254, [282, 245, 1, 1], [0, 0]),
  (121, .istore 13, [], []),
  (123, .iconst 0, [], []),
  (124, .istore 14, [], []),
  (126, .iload 11, [], []),
  (128, .i2l, [], []),
  (129, .lconst 0, [], []),
  (130, .ldc2_w 272, [1542], [15]),
  (133, .invokestatic 119, [245, 213, 3, 4], [0, 0]),
  (136, .ifCond .eq 138, [134], []),
  (139, .iload 12, [], []),
  (141, .i2l, [], []),
  (142, .lconst 0, [], []),
  (143, .ldc2_w 272, [1542], [15]),
  (146, .invokestatic 119, [245, 213, 3, 4], [0, 0]),
  (149, .ifCond .eq 125, [134], []),
  (152, .iload 13, [], []),
  (154, .i2l, [], []),
  (155, .lconst 0, [], []),
  (156, .ldc2_w 272, [1542], [15]),
  (159, .invokestatic 119, [245, 213, 3, 4], [0, 0]),
  (162, .ifCond .eq 112, [134], []),
  (165, .aload_n 0, [], []),
  (166, .iload_n 1, [], []),
  (167, .iload 11, [], []),
  (169, .iload 12, [], []),
  (171, .iload 13, [], []),
  (173, .invokevirtual 142, [250, 219, 5, 2], [0, 0, 13]),
  (176, .lconst 0, [], []),
  (177, .lcmp, [], []),
  (178, .ifCond .gt 7, [89], []),
  (181, .iconst 1, [], []),
  (182, .goto 4, [90], []),
  (185, .iconst 0, [], []),
  (186, .istore 15, [], []),
  (188, .iload 15, [], []),
  (190, .ifCond .eq 13, [97], []),
  (193, .iload 7, [], []),
  (195, .ifCond .ge 8, [97], []),
  (198, .iload 14, [], []),
  (200, .goto 5, [98], []),
  (203, .iload 7, [], []),
  (205, .istore 7, [], []),
  (207, .iload 8, [], []),
  (209, .iload 15, [], []),
  (211, .ifCond .eq 7, [104], []),
  (214, .iconst 1, [], []),
  (215, .goto 4, [105], []),
  (218, .iconst 0, [], []),
  (219, .iadd, [], []),
  (220, .istore 8, [], []),
  (222, .iload 9, [], []),
  (224, .iload 14, [], []),
  (226, .ifCond .le 14, [115], []),
  (229, .iload 15, [], []),
  (231, .iload 10, [], []),
  (233, .if_icmp .eq 7, [115], []),
  (236, .iconst 1, [], []),
  (237, .goto 4, [116], []),
  (240, .iconst 0, [], []),
  (241, .iadd, [], []),
  (242, .istore 9, [], []),
  (244, .iload 15, [], []),
  (246, .istore 10, [], []),
  (248, .iload 11, [], []),
  (250, .iload_n 3, [], []),
  (251, .iadd, [], []),
  (252, .istore 11, [], []),
  (254, .iload 12, [], []),
  (256, .iload 4, [], []),
  (258, .iadd, [], []),
  (259, .istore 12, [], []),
  (261, .iload 13, [], []),
  (263, .iload 5, [], []),
  (265, .iadd, [], []),
  (266, .istore 13, [], []),
  (268, .iinc 14 1, [], []),
  (271, .goto (-145), [60], []),
  (274, .iload 6, [], []),
  (276, .ifCond .ne 8, [138], []),
  (279, .iload 7, [], []),
  (281, .goto 16, [144], []),
  (284, .iload 6, [], []),
  (286, .iconst 1, [], []),
  (287, .if_icmp .ne 8, [143], []),
  (290, .iload 8, [], []),
  (292, .goto 5, [144], []),
  (295, .iload 9, [], []),
  (297, .ireturn, [1], [])]
set_option maxRecDepth 100000 in
noncomputable def zc_X12_neighbour : List (Nat × Jvm.ClassFile.Instr × List Nat × List Int) := [(0, .iload_n 1, [], []),
  (1, .iconst 2, [], []),
  (2, .if_icmp .ge 9, [5], []),
  (5, .sipush 256, [], []),
  (8, .goto 14, [11], []),
  (11, .iload_n 1, [], []),
  (12, .iconst 4, [], []),
  (13, .if_icmp .ge 8, [10], []),
  (16, .bipush 16, [], []),
  (18, .goto 4, [11], []),
  (21, .iconst 1, [], []),
  (22, .istore_n 2, [], []),
  (23, .iload_n 0, [], []),
  (24, .iload_n 1, [], []),
  (25, .iconst 2, [], []),
  (26, .idiv, [], []),
  (27, .invokestatic 274, [286, 254, 2, 1], [0, 0]),
  (30, .iload_n 1, [], []),
  (31, .iconst 2, [], []),
  (32, .irem, [], []),
  (33, .ifCond .ne 7, [23], []),
  (36, .iconst 1, [], []),
  (37, .goto 4, [24], []),
  (40, .iconst (-1), [], []),
  (41, .iadd, [], []),
  (42, .istore_n 3, [], []),
  (43, .iload_n 3, [], []),
  (44, .i2l, [], []),
  (45, .lconst 0, [], []),
  (46, .ldc2_w 272, [1542], [15]),
  (49, .invokestatic 119, [245, 213, 3, 4], [0, 0]),
  (52, .ifCond .eq 20, [43], []),
  (55, .iload_n 0, [], []),
  (56, .iload_n 1, [], []),
  (57, .iconst 2, [], []),
  (58, .irem, [], []),
  (59, .ifCond .ne 7, [39], []),
  (62, .iload_n 2, [], []),
  (63, .goto 5, [41], []),
  (66, .iload_n 2, [], []),
  (67, .ineg, [], []),
  (68, .iadd, [], []),
  (69, .goto 4, [44], []),
  (72, .iconst (-1), [], []),
  (73, .ireturn, [1], [])]
set_option maxRecDepth 100000 in
noncomputable def zc_X12_skinOf : List (Nat × Jvm.ClassFile.Instr × List Nat × List Int) := [(0, .iconst 0, [], []),
  (1, .istore_n 2, [], []),
  (2, .iconst 0, [], []),
  (3, .istore_n 3, [], []),
  (4, .iload_n 3, [], []),
  (5, .sipush 4096, [], []),
  (8, .if_icmp .ge 87, [52], []),
  (11, .iconst 0, [], []),
  (12, .istore 4, [], []),
  (14, .iconst 0, [], []),
  (15, .istore 5, [], []),
  (17, .aload_n 0, [], []),
  (18, .getfield 25, [71, 13, 3], [32, 4, 5]),
  (21, .iload_n 1, [], []),
  (22, .aaload, [], []),
  (23, .iload_n 3, [], []),
  (24, .baload, [], []),
  (25, .ifCond .eq 51, [42], []),
  (28, .iload 5, [], []),
  (30, .bipush 6, [], []),
  (32, .if_icmp .ge 44, [42], []),
  (35, .iload_n 3, [], []),
  (36, .iload 5, [], []),
  (38, .invokestatic 281, [287, 258, 2, 1], [0, 0]),
  (41, .istore 6, [], []),
  (43, .iload 4, [], []),
  (45, .iload 6, [], []),
  (47, .ifCond .lt 15, [35], []),
  (50, .aload_n 0, [], []),
  (51, .getfield 25, [71, 13, 3], [32, 4, 5]),
  (54, .iload_n 1, [], []),
  (55, .aaload, [], []),
  (56, .iload 6, [], []),
  (58, .baload, [], []),
  (59, .ifCond .ne 7, [37], []),
  (62, .iconst 1, [], []),
  (63, .goto 4, [38], []),
  (66, .iconst 0, [], []),
  (67, .ior, [], []),
  (68, .istore 4, [], []),
  (70, .iinc 5 1, [], []),
  (73, .goto (-56), [11], []),
  (76, .iload_n 2, [], []),
  (77, .iload 4, [], []),
  (79, .ifCond .eq 7, [47], []),
  (82, .iconst 1, [], []),
  (83, .goto 4, [48], []),
  (86, .iconst 0, [], []),
  (87, .iadd, [], []),
  (88, .istore_n 2, [], []),
  (89, .iinc 3 1, [], []),
  (92, .goto (-88), [4], []),
  (95, .iload_n 2, [], []),
  (96, .ireturn, [1], [])]
set_option maxRecDepth 100000 in
noncomputable def zc_X12_piece : List (Nat × Jvm.ClassFile.Instr × List Nat × List Int) := [(0, .iconst 1, [], []),
  (1, .istore_n 3, [], []),
  (2, .aload_n 0, [], []),
  (3, .getfield 32, [73, 13, 3], [20, 4096, 7]),
  (6, .iconst 0, [], []),
  (7, .iload_n 2, [], []),
  (8, .iastore, [], []),
  (9, .aload_n 0, [], []),
  (10, .getfield 28, [72, 13, 3], [22, 4096, 6]),
  (13, .iload_n 2, [], []),
  (14, .iconst 1, [], []),
  (15, .bastore, [], []),
  (16, .iconst 0, [], []),
  (17, .istore 4, [], []),
  (19, .iload 4, [], []),
  (21, .iload_n 3, [], []),
  (22, .if_icmp .ge 85, [58], []),
  (25, .iconst 0, [], []),
  (26, .istore 5, [], []),
  (28, .iload 5, [], []),
  (30, .bipush 6, [], []),
  (32, .if_icmp .ge 69, [56], []),
  (35, .aload_n 0, [], []),
  (36, .getfield 32, [73, 13, 3], [20, 4096, 7]),
  (39, .iload 4, [], []),
  (41, .iaload, [], []),
  (42, .iload 5, [], []),
  (44, .invokestatic 281, [287, 258, 2, 1], [0, 0]),
  (47, .istore 6, [], []),
  (49, .iload 6, [], []),
  (51, .ifCond .lt 44, [54], []),
  (54, .aload_n 0, [], []),
  (55, .getfield 25, [71, 13, 3], [32, 4, 5]),
  (58, .iload_n 1, [], []),
  (59, .aaload, [], []),
  (60, .iload 6, [], []),
  (62, .baload, [], []),
  (63, .ifCond .eq 32, [54], []),
  (66, .aload_n 0, [], []),
  (67, .getfield 28, [72, 13, 3], [22, 4096, 6]),
  (70, .iload 6, [], []),
  (72, .baload, [], []),
  (73, .ifCond .ne 22, [54], []),
  (76, .aload_n 0, [], []),
  (77, .getfield 28, [72, 13, 3], [22, 4096, 6]),
  (80, .iload 6, [], []),
  (82, .iconst 1, [], []),
  (83, .bastore, [], []),
  (84, .aload_n 0, [], []),
  (85, .getfield 32, [73, 13, 3], [20, 4096, 7]),
  (88, .iload_n 3, [], []),
  (89, .iload 6, [], []),
  (91, .iastore, [], []),
  (92, .iinc 3 1, [], []),
  (95, .iinc 5 1, [], []),
  (98, .goto (-70), [19], []),
  (101, .iinc 4 1, [], []),
  (104, .goto (-85), [14], []),
  (107, .iload_n 3, [], []),
  (108, .ireturn, [1], [])]
set_option maxRecDepth 100000 in
noncomputable def zc_X12_piecesOf : List (Nat × Jvm.ClassFile.Instr × List Nat × List Int) := [(0, .iconst 0, [], []),
  (1, .istore_n 3, [], []),
  (2, .iconst 0, [], []),
  (3, .istore 4, [], []),
  (5, .iconst (-1), [], []),
  (6, .istore 5, [], []),
  (8, .iconst 0, [], []),
  (9, .istore 6, [], []),
  (11, .iload 6, [], []),
  (13, .sipush 4096, [], []),
  (16, .if_icmp .ge 17, [18], []),
  (19, .aload_n 0, [], []),
  (20, .getfield 28, [72, 13, 3], [22, 4096, 6]),
  (23, .iload 6, [], []),
  (25, .iconst 0, [], []),
  (26, .bastore, [], []),
  (27, .iinc 6 1, [], []),
  (30, .goto (-19), [8], []),
  (33, .iconst 0, [], []),
  (34, .istore 6, [], []),
  (36, .iload 6, [], []),
  (38, .sipush 4096, [], []),
  (41, .if_icmp .ge 68, [54], []),
  (44, .aload_n 0, [], []),
  (45, .getfield 25, [71, 13, 3], [32, 4, 5]),
  (48, .iload_n 1, [], []),
  (49, .aaload, [], []),
  (50, .iload 6, [], []),
  (52, .baload, [], []),
  (53, .ifCond .eq 50, [52], []),
  (56, .aload_n 0, [], []),
  (57, .getfield 28, [72, 13, 3], [22, 4096, 6]),
  (60, .iload 6, [], []),
  (62, .baload, [], []),
  (63, .ifCond .ne 40, [52], []),
  (66, .aload_n 0, [], []),
  (67, .iload_n 1, [], []),
  (68, .iload 6, [], []),
  (70, .invokevirtual 284, [288, 260, 3, 1], [0, 0, 13]),
  (73, .istore 7, [], []),
  (75, .iinc 3 1, [], []),
  (78, .iload 7, [], []),
  (80, .iload 4, [], []),
  (82, .if_icmp .le 8, [46], []),
  (85, .iload 6, [], []),
  (87, .goto 5, [47], []),
  (90, .iload 5, [], []),
  (92, .istore 5, [], []),
  (94, .iload 4, [], []),
  (96, .iload 7, [], []),
  (98, .invokestatic 156, [254, 341, 2, 1], [0, 0]),
  (101, .istore 4, [], []),
  (103, .iinc 6 1, [], []),
  (106, .goto (-70), [20], []),
  (109, .iload_n 2, [], []),
  (110, .ifCond .ne 7, [58], []),
  (113, .iload_n 3, [], []),
  (114, .goto 15, [64], []),
  (117, .iload_n 2, [], []),
  (118, .iconst 1, [], []),
  (119, .if_icmp .ne 8, [63], []),
  (122, .iload 4, [], []),
  (124, .goto 5, [64], []),
  (127, .iload 5, [], []),
  (129, .ireturn, [1], [])]
set_option maxRecDepth 100000 in
noncomputable def zc_X12_skin : List (Nat × Jvm.ClassFile.Instr × List Nat × List Int) := [(0, .aload_n 0, [], []),
  (1, .iload_n 1, [], []),
  (2, .invokevirtual 175, [260, 218, 2, 4], [0, 0, 13]),
  (5, .ifCond .ne 10, [8], []),
  (8, .aload_n 0, [], []),
  (9, .bipush (-62), [], []),
  (11, .invokevirtual 110, [244, 214, 2, 1], [0, 0, 13]),
  (14, .ireturn, [1], []),
  (15, .aload_n 0, [], []),
  (16, .iconst 0, [], []),
  (17, .iload_n 1, [], []),
  (18, .invokevirtual 267, [285, 249, 3, 1], [0, 0, 13]),
  (21, .istore_n 2, [], []),
  (22, .aload_n 0, [], []),
  (23, .iconst 0, [], []),
  (24, .invokevirtual 287, [289, 259, 2, 1], [0, 0, 13]),
  (27, .ireturn, [1], [])]
set_option maxRecDepth 100000 in
noncomputable def zc_X12_pieces : List (Nat × Jvm.ClassFile.Instr × List Nat × List Int) := [(0, .aload_n 0, [], []),
  (1, .iload_n 1, [], []),
  (2, .invokevirtual 175, [260, 218, 2, 4], [0, 0, 13]),
  (5, .ifCond .eq 15, [10], []),
  (8, .iload_n 2, [], []),
  (9, .i2l, [], []),
  (10, .lconst 0, [], []),
  (11, .ldc2_w 270, [1541], [2]),
  (14, .invokestatic 119, [245, 213, 3, 4], [0, 0]),
  (17, .ifCond .ne 10, [14], []),
  (20, .aload_n 0, [], []),
  (21, .bipush (-62), [], []),
  (23, .invokevirtual 110, [244, 214, 2, 1], [0, 0, 13]),
  (26, .ireturn, [1], []),
  (27, .aload_n 0, [], []),
  (28, .iconst 0, [], []),
  (29, .iload_n 1, [], []),
  (30, .invokevirtual 267, [285, 249, 3, 1], [0, 0, 13]),
  (33, .istore_n 3, [], []),
  (34, .aload_n 0, [], []),
  (35, .iconst 0, [], []),
  (36, .iload_n 2, [], []),
  (37, .invokevirtual 290, [290, 261, 3, 1], [0, 0, 13]),
  (40, .ireturn, [1], [])]
set_option maxRecDepth 100000 in
noncomputable def zc_X12_fillsBoth : List (Nat × Jvm.ClassFile.Instr × List Nat × List Int) := [(0, .aload_n 0, [], []),
  (1, .iconst 0, [], []),
  (2, .iload_n 1, [], []),
  (3, .invokevirtual 267, [285, 249, 3, 1], [0, 0, 13]),
  (6, .istore_n 3, [], []),
  (7, .aload_n 0, [], []),
  (8, .iconst 1, [], []),
  (9, .iload_n 2, [], []),
  (10, .invokevirtual 267, [285, 249, 3, 1], [0, 0, 13]),
  (13, .istore 4, [], []),
  (15, .iconst 0, [], []),
  (16, .istore 5, [], []),
  (18, .iconst 0, [], []),
  (19, .istore 6, [], []),
  (21, .iload 6, [], []),
  (23, .sipush 4096, [], []),
  (26, .if_icmp .ge 43, [39], []),
  (29, .iload 5, [], []),
  (31, .aload_n 0, [], []),
  (32, .getfield 25, [71, 13, 3], [32, 4, 5]),
  (35, .iconst 0, [], []),
  (36, .aaload, [], []),
  (37, .iload 6, [], []),
  (39, .baload, [], []),
  (40, .ifCond .eq 19, [34], []),
  (43, .aload_n 0, [], []),
  (44, .getfield 25, [71, 13, 3], [32, 4, 5]),
  (47, .iconst 1, [], []),
  (48, .aaload, [], []),
  (49, .iload 6, [], []),
  (51, .baload, [], []),
  (52, .ifCond .eq 7, [34], []),
  (55, .iconst 1, [], []),
  (56, .goto 4, [35], []),
  (59, .iconst 0, [], []),
  (60, .iadd, [], []),
  (61, .istore 5, [], []),
  (63, .iinc 6 1, [], []),
  (66, .goto (-45), [14], []),
  (69, .iload 5, [], []),
  (71, .ireturn, [1], [])]
set_option maxRecDepth 100000 in
noncomputable def zc_X12_both : List (Nat × Jvm.ClassFile.Instr × List Nat × List Int) := [(0, .aload_n 0, [], []),
  (1, .iload_n 1, [], []),
  (2, .invokevirtual 175, [260, 218, 2, 4], [0, 0, 13]),
  (5, .ifCond .eq 20, [13], []),
  (8, .aload_n 0, [], []),
  (9, .iload_n 2, [], []),
  (10, .invokevirtual 175, [260, 218, 2, 4], [0, 0, 13]),
  (13, .ifCond .eq 12, [13], []),
  (16, .aload_n 0, [], []),
  (17, .iload_n 1, [], []),
  (18, .iload_n 2, [], []),
  (19, .invokevirtual 293, [291, 264, 3, 1], [0, 0, 13]),
  (22, .goto 9, [16], []),
  (25, .aload_n 0, [], []),
  (26, .bipush (-62), [], []),
  (28, .invokevirtual 110, [244, 214, 2, 1], [0, 0, 13]),
  (31, .ireturn, [1], [])]
set_option maxRecDepth 100000 in
noncomputable def zc_X12_differ : List (Nat × Jvm.ClassFile.Instr × List Nat × List Int) := [(0, .aload_n 0, [], []),
  (1, .iload_n 1, [], []),
  (2, .invokevirtual 175, [260, 218, 2, 4], [0, 0, 13]),
  (5, .ifCond .eq 11, [8], []),
  (8, .aload_n 0, [], []),
  (9, .iload_n 2, [], []),
  (10, .invokevirtual 175, [260, 218, 2, 4], [0, 0, 13]),
  (13, .ifCond .ne 10, [12], []),
  (16, .aload_n 0, [], []),
  (17, .bipush (-62), [], []),
  (19, .invokevirtual 110, [244, 214, 2, 1], [0, 0, 13]),
  (22, .ireturn, [1], []),
  (23, .iconst 0, [], []),
  (24, .istore_n 3, [], []),
  (25, .iload_n 3, [], []),
  (26, .sipush 4096, [], []),
  (29, .if_icmp .ge 26, [30], []),
  (32, .aload_n 0, [], []),
  (33, .iload_n 1, [], []),
  (34, .iload_n 3, [], []),
  (35, .invokevirtual 259, [283, 248, 3, 4], [0, 0, 13]),
  (38, .aload_n 0, [], []),
  (39, .iload_n 2, [], []),
  (40, .iload_n 3, [], []),
  (41, .invokevirtual 259, [283, 248, 3, 4], [0, 0, 13]),
  (44, .if_icmp .eq 5, [28], []),
  (47, .iload_n 3, [], []),
  (48, .ireturn, [1], []),
  (49, .iinc 3 1, [], []),
  (52, .goto (-27), [14], []),
  (55, .iconst (-1), [], []),
  (56, .ireturn, [1], [])]
set_option maxRecDepth 100000 in
noncomputable def zc_X12_turned : List (Nat × Jvm.ClassFile.Instr × List Nat × List Int) := [(0, .iload_n 1, [], []),
  (1, .ifCond .ne 9, [4], []),
  (4, .sipush 256, [], []),
  (7, .goto 14, [10], []),
  (10, .iload_n 1, [], []),
  (11, .iconst 1, [], []),
  (12, .if_icmp .ne 8, [9], []),
  (15, .bipush 16, [], []),
  (17, .goto 4, [10], []),
  (20, .iconst 1, [], []),
  (21, .istore_n 2, [], []),
  (22, .iload_n 0, [], []),
  (23, .iload_n 2, [], []),
  (24, .bipush 15, [], []),
  (26, .iconst 2, [], []),
  (27, .iload_n 0, [], []),
  (28, .iload_n 1, [], []),
  (29, .invokestatic 274, [286, 254, 2, 1], [0, 0]),
  (32, .imul, [], []),
  (33, .isub, [], []),
  (34, .imul, [], []),
  (35, .iadd, [], []),
  (36, .ireturn, [1], [])]
set_option maxRecDepth 100000 in
noncomputable def zc_X12_even : List (Nat × Jvm.ClassFile.Instr × List Nat × List Int) := [(0, .aload_n 0, [], []),
  (1, .iload_n 1, [], []),
  (2, .invokevirtual 175, [260, 218, 2, 4], [0, 0, 13]),
  (5, .ifCond .eq 15, [10], []),
  (8, .iload_n 2, [], []),
  (9, .i2l, [], []),
  (10, .lconst 0, [], []),
  (11, .ldc2_w 270, [1541], [2]),
  (14, .invokestatic 119, [245, 213, 3, 4], [0, 0]),
  (17, .ifCond .ne 10, [14], []),
  (20, .aload_n 0, [], []),
  (21, .bipush (-62), [], []),
  (23, .invokevirtual 110, [244, 214, 2, 1], [0, 0, 13]),
  (26, .ireturn, [1], []),
  (27, .aload_n 0, [], []),
  (28, .iconst 0, [], []),
  (29, .iload_n 1, [], []),
  (30, .invokevirtual 267, [285, 249, 3, 1], [0, 0, 13]),
  (33, .istore_n 3, [], []),
  (34, .iconst 0, [], []),
  (35, .istore 4, [], []),
  (37, .iload 4, [], []),
  (39, .sipush 4096, [], []),
  (42, .if_icmp .ge 36, [43], []),
  (45, .aload_n 0, [], []),
  (46, .getfield 25, [71, 13, 3], [32, 4, 5]),
  (49, .iconst 0, [], []),
  (50, .aaload, [], []),
  (51, .iload 4, [], []),
  (53, .baload, [], []),
  (54, .aload_n 0, [], []),
  (55, .getfield 25, [71, 13, 3], [32, 4, 5]),
  (58, .iconst 0, [], []),
  (59, .aaload, [], []),
  (60, .iload 4, [], []),
  (62, .iload_n 2, [], []),
  (63, .invokestatic 296, [292, 267, 2, 1], [0, 0]),
  (66, .baload, [], []),
  (67, .if_icmp .eq 5, [41], []),
  (70, .iconst 0, [], []),
  (71, .ireturn, [1], []),
  (72, .iinc 4 1, [], []),
  (75, .goto (-38), [21], []),
  (78, .iconst 1, [], []),
  (79, .ireturn, [1], [])]
set_option maxRecDepth 100000 in
noncomputable def zc_X12_meets : List (Nat × Jvm.ClassFile.Instr × List Nat × List Int) := [(0, .iload_n 1, [], []),
  (1, .ifCond .ne 9, [4], []),
  (4, .sipush 256, [], []),
  (7, .goto 14, [10], []),
  (10, .iload_n 1, [], []),
  (11, .iconst 1, [], []),
  (12, .if_icmp .ne 8, [9], []),
  (15, .bipush 16, [], []),
  (17, .goto 4, [10], []),
  (20, .iconst 1, [], []),
  (21, .istore_n 3, [], []),
  (22, .iconst 0, [], []),
  (23, .istore 4, [], []),
  (25, .iload 4, [], []),
  (27, .sipush 4096, [], []),
  (30, .if_icmp .ge 52, [45], []),
  (33, .aload_n 0, [], []),
  (34, .getfield 25, [71, 13, 3], [32, 4, 5]),
  (37, .iconst 0, [], []),
  (38, .aaload, [], []),
  (39, .iload 4, [], []),
  (41, .baload, [], []),
  (42, .ifCond .eq 34, [43], []),
  (45, .iload 4, [], []),
  (47, .iload_n 1, [], []),
  (48, .invokestatic 274, [286, 254, 2, 1], [0, 0]),
  (51, .iload_n 2, [], []),
  (52, .iadd, [], []),
  (53, .bipush 15, [], []),
  (55, .if_icmp .gt 21, [43], []),
  (58, .aload_n 0, [], []),
  (59, .getfield 25, [71, 13, 3], [32, 4, 5]),
  (62, .iconst 1, [], []),
  (63, .aaload, [], []),
  (64, .iload 4, [], []),
  (66, .iload_n 2, [], []),
  (67, .iload_n 3, [], []),
  (68, .imul, [], []),
  (69, .iadd, [], []),
  (70, .baload, [], []),
  (71, .ifCond .eq 5, [43], []),
  (74, .iconst 1, [], []),
  (75, .ireturn, [4], []),
  (76, .iinc 4 1, [], []),
  (79, .goto (-54), [13], []),
  (82, .iconst 0, [], []),
  (83, .ireturn, [4], [])]
set_option maxRecDepth 100000 in
noncomputable def zc_X12_apart : List (Nat × Jvm.ClassFile.Instr × List Nat × List Int) := [(0, .aload_n 0, [], []),
  (1, .iload_n 1, [], []),
  (2, .invokevirtual 175, [260, 218, 2, 4], [0, 0, 13]),
  (5, .ifCond .eq 23, [14], []),
  (8, .aload_n 0, [], []),
  (9, .iload_n 2, [], []),
  (10, .invokevirtual 175, [260, 218, 2, 4], [0, 0, 13]),
  (13, .ifCond .eq 15, [14], []),
  (16, .iload_n 3, [], []),
  (17, .i2l, [], []),
  (18, .lconst 0, [], []),
  (19, .ldc2_w 270, [1541], [2]),
  (22, .invokestatic 119, [245, 213, 3, 4], [0, 0]),
  (25, .ifCond .ne 10, [18], []),
  (28, .aload_n 0, [], []),
  (29, .bipush (-62), [], []),
  (31, .invokevirtual 110, [244, 214, 2, 1], [0, 0, 13]),
  (34, .ireturn, [1], []),
  (35, .aload_n 0, [], []),
  (36, .iload_n 1, [], []),
  (37, .iload_n 2, [], []),
  (38, .invokevirtual 293, [291, 264, 3, 1], [0, 0, 13]),
  (41, .istore 4, [], []),
  (43, .iconst 0, [], []),
  (44, .istore 5, [], []),
  (46, .iload 5, [], []),
  (48, .bipush 16, [], []),
  (50, .if_icmp .ge 19, [35], []),
  (53, .aload_n 0, [], []),
  (54, .iload_n 3, [], []),
  (55, .iload 5, [], []),
  (57, .invokevirtual 299, [293, 269, 3, 4], [0, 0, 13]),
  (60, .ifCond .eq 9, [35], []),
  (63, .iinc 5 1, [], []),
  (66, .goto (-20), [25], []),
  (69, .iload 5, [], []),
  (71, .ireturn, [1], [])]
set_option maxRecDepth 100000 in
noncomputable def zc_X12_blendsOver : List (Nat × Jvm.ClassFile.Instr × List Nat × List Int) := [(0, .iconst 1, [], []),
  (1, .aload_n 0, [], []),
  (2, .iload_n 1, [], []),
  (3, .iconst 4, [], []),
  (4, .invokevirtual 123, [246, 216, 3, 1], [0, 0, 13]),
  (7, .aload_n 0, [], []),
  (8, .iload_n 2, [], []),
  (9, .iconst 4, [], []),
  (10, .invokevirtual 123, [246, 216, 3, 1], [0, 0, 13]),
  (13, .invokestatic 156, [254, 341, 2, 1], [0, 0]),
  (16, .iadd, [], []),
  (17, .ireturn, [1], [])]
set_option maxRecDepth 100000 in
noncomputable def zc_X12_deepOver : List (Nat × Jvm.ClassFile.Instr × List Nat × List Int) := [(0, .iconst 1, [], []),
  (1, .aload_n 0, [], []),
  (2, .iload_n 1, [], []),
  (3, .iconst 3, [], []),
  (4, .invokevirtual 123, [246, 216, 3, 1], [0, 0, 13]),
  (7, .aload_n 0, [], []),
  (8, .iload_n 2, [], []),
  (9, .iconst 3, [], []),
  (10, .invokevirtual 123, [246, 216, 3, 1], [0, 0, 13]),
  (13, .invokestatic 156, [254, 341, 2, 1], [0, 0]),
  (16, .iadd, [], []),
  (17, .ireturn, [1], [])]
set_option maxRecDepth 100000 in
noncomputable def zc_X12_enough : List (Nat × Jvm.ClassFile.Instr × List Nat × List Int) := [(0, .aload_n 0, [], []),
  (1, .iload_n 1, [], []),
  (2, .invokevirtual 175, [260, 218, 2, 4], [0, 0, 13]),
  (5, .ifCond .eq 36, [20], []),
  (8, .aload_n 0, [], []),
  (9, .iload_n 2, [], []),
  (10, .invokevirtual 175, [260, 218, 2, 4], [0, 0, 13]),
  (13, .ifCond .eq 28, [20], []),
  (16, .iload_n 3, [], []),
  (17, .i2l, [], []),
  (18, .lconst 1, [], []),
  (19, .ldc2_w 302, [1610], [9]),
  (22, .invokestatic 119, [245, 213, 3, 4], [0, 0]),
  (25, .ifCond .eq 16, [20], []),
  (28, .iload 4, [], []),
  (30, .i2l, [], []),
  (31, .lconst 0, [], []),
  (32, .ldc2_w 304, [1611], [4096]),
  (35, .invokestatic 119, [245, 213, 3, 4], [0, 0]),
  (38, .ifCond .ne 10, [24], []),
  (41, .aload_n 0, [], []),
  (42, .bipush (-62), [], []),
  (44, .invokevirtual 110, [244, 214, 2, 1], [0, 0, 13]),
  (47, .ireturn, [1], []),
  (48, .aload_n 0, [], []),
  (49, .iload_n 1, [], []),
  (50, .iload_n 2, [], []),
  (51, .invokevirtual 306, [294, 272, 3, 1], [0, 0, 13]),
  (54, .bipush 6, [], []),
  (56, .if_icmp .gt 13, [36], []),
  (59, .aload_n 0, [], []),
  (60, .iload_n 1, [], []),
  (61, .iload_n 2, [], []),
  (62, .invokevirtual 309, [295, 271, 3, 1], [0, 0, 13]),
  (65, .iconst 2, [], []),
  (66, .if_icmp .le 10, [40], []),
  (69, .aload_n 0, [], []),
  (70, .bipush (-65), [], []),
  (72, .invokevirtual 110, [244, 214, 2, 1], [0, 0, 13]),
  (75, .ireturn, [1], []),
  (76, .iconst 0, [], []),
  (77, .istore 5, [], []),
  (79, .iload 5, [], []),
  (81, .iload_n 3, [], []),
  (82, .if_icmp .gt 113, [101], []),
  (85, .iconst 0, [], []),
  (86, .istore 6, [], []),
  (88, .iconst 0, [], []),
  (89, .istore 7, [], []),
  (91, .iload 7, [], []),
  (93, .sipush 4096, [], []),
  (96, .if_icmp .ge 83, [94], []),
  (99, .aload_n 0, [], []),
  (100, .iload_n 1, [], []),
  (101, .iload 7, [], []),
  (103, .invokestatic 248, [280, 243, 1, 1], [0, 0]),
  (106, .iload 7, [], []),
  (108, .invokestatic 251, [281, 244, 1, 1], [0, 0]),
  (111, .iload 7, [], []),
  (113, .invokestatic 254, [282, 245, 1, 1], [0, 0]),
  (116, .invokevirtual 142, [250, 219, 5, 2], [0, 0, 13]),
  (119, .lstore 8, [], []),
  (121, .aload_n 0, [], []),
  (122, .iload_n 2, [], []),
  (123, .iload 7, [], []),
  (125, .invokestatic 248, [280, 243, 1, 1], [0, 0]),
  (128, .iload 7, [], []),
  (130, .invokestatic 251, [281, 244, 1, 1], [0, 0]),
  (133, .iload 7, [], []),
  (135, .invokestatic 254, [282, 245, 1, 1], [0, 0]),
  (138, .invokevirtual 142, [250, 219, 5, 2], [0, 0, 13]),
  (141, .lstore 10, [], []),
  (143, .iload 6, [], []),
  (145, .lload 8, [], []),
  (147, .iload_n 3, [], []),
  (148, .iload 5, [], []),
  (150, .isub, [], []),
  (151, .i2l, [], []),
  (152, .lmul, [], []),
  (153, .lload 10, [], []),
  (155, .iload 5, [], []),
  (157, .i2l, [], []),
  (158, .lmul, [], []),
  (159, .ladd, [], []),
  (160, .lconst 0, [], []),
  (161, .lcmp, [], []),
  (162, .ifCond .gt 7, [89], []),
  (165, .iconst 1, [], []),
  (166, .goto 4, [90], []),
  (169, .iconst 0, [], []),
  (170, .iadd, [], []),
  (171, .istore 6, [], []),
  (173, .iinc 7 1, [], []),
  (176, .goto (-85), [49], []),
  (179, .iload 6, [], []),
  (181, .iload 4, [], []),
  (183, .if_icmp .lt 6, [99], []),
  (186, .iload 5, [], []),
  (188, .ireturn, [1], []),
  (189, .iinc 5 1, [], []),
  (192, .goto (-113), [42], []),
  (195, .iconst (-1), [], []),
  (196, .ireturn, [1], [])]
set_option maxRecDepth 100000 in
noncomputable def zc_X12_isNumber : List (Nat × Jvm.ClassFile.Instr × List Nat × List Int) := [(0, .iload_n 0, [], []),
  (1, .tableswitch 265 3 15 #[67, 96, 118, 265, 265, 265, 265, 265, 149, 174, 186, 212, 238], [108, 2, 17, 29, 108, 108, 108, 108, 108, 44, 59, 65, 79, 93], []),
  (68, .iload_n 1, [], []),
  (69, .iconst 3, [], []),
  (70, .if_icmp .ne 15, [11], []),
  (73, .iload_n 2, [], []),
  (74, .i2l, [], []),
  (75, .lconst 0, [], []),
  (76, .ldc2_w 312, [1645], [40]),
  (79, .invokestatic 119, [245, 213, 3, 4], [0, 0]),
  (82, .goto 14, [16], []),
  (85, .iload_n 2, [], []),
  (86, .i2l, [], []),
  (87, .ldc2_w 314, [1646], [(-40)]),
  (90, .ldc2_w 316, [1647], [55]),
  (93, .invokestatic 119, [245, 213, 3, 4], [0, 0]),
  (96, .ireturn, [4], []),
  (97, .iload_n 2, [], []),
  (98, .i2l, [], []),
  (99, .iload_n 1, [], []),
  (100, .iconst 3, [], []),
  (101, .if_icmp .ge 9, [24], []),
  (104, .ldc2_w 314, [1646], [(-40)]),
  (107, .goto 5, [26], []),
  (110, .iload_n 3, [], []),
  (111, .i2l, [], []),
  (112, .ldc2_w 316, [1647], [55]),
  (115, .invokestatic 119, [245, 213, 3, 4], [0, 0]),
  (118, .ireturn, [4], []),
  (119, .iload_n 1, [], []),
  (120, .iconst 3, [], []),
  (121, .if_icmp .ne 17, [38], []),
  (124, .iload_n 2, [], []),
  (125, .i2l, [], []),
  (126, .ldc2_w 318, [1648], [(-999)]),
  (129, .ldc2_w 320, [1649], [999]),
  (132, .invokestatic 119, [245, 213, 3, 4], [0, 0]),
  (135, .goto 14, [43], []),
  (138, .iload_n 2, [], []),
  (139, .i2l, [], []),
  (140, .ldc2_w 322, [1650], [(-9)]),
  (143, .ldc2_w 302, [1610], [9]),
  (146, .invokestatic 119, [245, 213, 3, 4], [0, 0]),
  (149, .ireturn, [4], []),
  (150, .iload_n 1, [], []),
  (151, .ifCond .ne 15, [52], []),
  (154, .iload_n 2, [], []),
  (155, .i2l, [], []),
  (156, .lconst 1, [], []),
  (157, .ldc2_w 302, [1610], [9]),
  (160, .invokestatic 119, [245, 213, 3, 4], [0, 0]),
  (163, .goto 11, [58], []),
  (166, .iload_n 2, [], []),
  (167, .i2l, [], []),
  (168, .lconst 0, [], []),
  (169, .iload_n 3, [], []),
  (170, .i2l, [], []),
  (171, .invokestatic 119, [245, 213, 3, 4], [0, 0]),
  (174, .ireturn, [4], []),
  (175, .iload_n 2, [], []),
  (176, .i2l, [], []),
  (177, .ldc2_w 314, [1646], [(-40)]),
  (180, .ldc2_w 316, [1647], [55]),
  (183, .invokestatic 119, [245, 213, 3, 4], [0, 0]),
  (186, .ireturn, [4], []),
  (187, .iload_n 1, [], []),
  (188, .ifCond .ne 15, [73], []),
  (191, .iload_n 2, [], []),
  (192, .i2l, [], []),
  (193, .lconst 0, [], []),
  (194, .ldc2_w 270, [1541], [2]),
  (197, .invokestatic 119, [245, 213, 3, 4], [0, 0]),
  (200, .goto 12, [78], []),
  (203, .iload_n 2, [], []),
  (204, .i2l, [], []),
  (205, .lconst 1, [], []),
  (206, .ldc2_w 324, [1651], [16]),
  (209, .invokestatic 119, [245, 213, 3, 4], [0, 0]),
  (212, .ireturn, [4], []),
  (213, .iload_n 1, [], []),
  (214, .ifCond .ne 15, [87], []),
  (217, .iload_n 2, [], []),
  (218, .i2l, [], []),
  (219, .lconst 0, [], []),
  (220, .ldc2_w 270, [1541], [2]),
  (223, .invokestatic 119, [245, 213, 3, 4], [0, 0]),
  (226, .goto 12, [92], []),
  (229, .iload_n 2, [], []),
  (230, .i2l, [], []),
  (231, .lconst 0, [], []),
  (232, .ldc2_w 272, [1542], [15]),
  (235, .invokestatic 119, [245, 213, 3, 4], [0, 0]),
  (238, .ireturn, [4], []),
  (239, .iload_n 2, [], []),
  (240, .i2l, [], []),
  (241, .lconst 0, [], []),
  (242, .ldc2_w 270, [1541], [2]),
  (245, .invokestatic 119, [245, 213, 3, 4], [0, 0]),
  (248, .ifCond .eq 16, [106], []),
  (251, .iload_n 1, [], []),
  (252, .ifCond .eq 8, [104], []),
  (255, .iload_n 2, [], []),
  (256, .iload_n 3, [], []),
  (257, .if_icmp .eq 7, [106], []),
  (260, .iconst 1, [], []),
  (261, .goto 4, [107], []),
  (264, .iconst 0, [], []),
  (265, .ireturn, [4], []),
  (266, .iload_n 1, [], []),
  (267, .iconst 1, [], []),
  (268, .if_icmp .ne 15, [117], []),
  (271, .iload_n 2, [], []),
  (272, .i2l, [], []),
  (273, .lconst 1, [], []),
  (274, .ldc2_w 302, [1610], [9]),
  (277, .invokestatic 119, [245, 213, 3, 4], [0, 0]),
  (280, .goto 24, [127], []),
  (283, .iload_n 2, [], []),
  (284, .i2l, [], []),
  (285, .iload_n 0, [], []),
  (286, .bipush 16, [], []),
  (288, .if_icmp .ne 9, [124], []),
  (291, .ldc2_w 179, [1384], [(-99)]),
  (294, .goto 4, [125], []),
  (297, .lconst 0, [], []),
  (298, .ldc2_w 181, [1385], [99]),
  (301, .invokestatic 119, [245, 213, 3, 4], [0, 0]),
  (304, .ireturn, [4], [])]
set_option maxRecDepth 100000 in
noncomputable def zc_X12_aheadOf : List (Nat × Jvm.ClassFile.Instr × List Nat × List Int) := [(0, .iload_n 1, [], []),
  (1, .iconst 4, [], []),
  (2, .if_icmp .ne 16, [12], []),
  (5, .iload_n 2, [], []),
  (6, .iconst 3, [], []),
  (7, .if_icmp .lt 11, [12], []),
  (10, .aload_n 0, [], []),
  (11, .iload_n 2, [], []),
  (12, .iconst 3, [], []),
  (13, .isub, [], []),
  (14, .iaload, [], []),
  (15, .goto 6, [15], []),
  (18, .aload_n 0, [], []),
  (19, .iconst 0, [], []),
  (20, .iaload, [], []),
  (21, .ireturn, [1], [])]
set_option maxRecDepth 100000 in
noncomputable def zc_X12_numbersOf : List (Nat × Jvm.ClassFile.Instr × List Nat × List Int) := [(0, .iload_n 0, [], []),
  (1, .iconst 3, [], []),
  (2, .if_icmp .eq 8, [6], []),
  (5, .iload_n 0, [], []),
  (6, .iconst 5, [], []),
  (7, .if_icmp .ne 7, [8], []),
  (10, .iconst 4, [], []),
  (11, .goto 34, [24], []),
  (14, .iload_n 0, [], []),
  (15, .iconst 4, [], []),
  (16, .if_icmp .ne 8, [13], []),
  (19, .bipush 6, [], []),
  (21, .goto 24, [24], []),
  (24, .iload_n 0, [], []),
  (25, .bipush 12, [], []),
  (27, .if_icmp .ne 7, [18], []),
  (30, .iconst 3, [], []),
  (31, .goto 14, [24], []),
  (34, .iload_n 0, [], []),
  (35, .bipush 11, [], []),
  (37, .if_icmp .ge 7, [23], []),
  (40, .iconst 0, [], []),
  (41, .goto 4, [24], []),
  (44, .iconst 2, [], []),
  (45, .ireturn, [1], [])]
set_option maxRecDepth 100000 in
noncomputable def zc_X12_areNumbers : List (Nat × Jvm.ClassFile.Instr × List Nat × List Int) := [(0, .iconst 0, [], []),
  (1, .istore_n 2, [], []),
  (2, .iload_n 2, [], []),
  (3, .iload_n 1, [], []),
  (4, .invokestatic 326, [296, 276, 1, 1], [0, 0]),
  (7, .if_icmp .ge 34, [23], []),
  (10, .iload_n 1, [], []),
  (11, .iload_n 2, [], []),
  (12, .aload_n 0, [], []),
  (13, .getfield 35, [74, 13, 3], [20, 6, 8]),
  (16, .iload_n 2, [], []),
  (17, .iaload, [], []),
  (18, .aload_n 0, [], []),
  (19, .getfield 35, [74, 13, 3], [20, 6, 8]),
  (22, .iload_n 1, [], []),
  (23, .iload_n 2, [], []),
  (24, .invokestatic 329, [297, 275, 3, 1], [0, 0]),
  (27, .invokestatic 333, [298, 274, 4, 4], [0, 0]),
  (30, .ifCond .ne 5, [21], []),
  (33, .iconst 0, [], []),
  (34, .ireturn, [4], []),
  (35, .iinc 2 1, [], []),
  (38, .goto (-36), [2], []),
  (41, .iconst 1, [], []),
  (42, .ireturn, [4], [])]
set_option maxRecDepth 100000 in
noncomputable def zc_X12_deepBy : List (Nat × Jvm.ClassFile.Instr × List Nat × List Int) := [(0, .iload_n 1, [], []),
  (1, .iconst 5, [], []),
  (2, .if_icmp .gt 7, [5], []),
  (5, .iconst 0, [], []),
  (6, .goto 28, [20], []),
  (9, .iconst 1, [], []),
  (10, .aload_n 0, [], []),
  (11, .iload_n 2, [], []),
  (12, .iconst 3, [], []),
  (13, .invokevirtual 123, [246, 216, 3, 1], [0, 0, 13]),
  (16, .iload_n 3, [], []),
  (17, .ifCond .ge 7, [14], []),
  (20, .iconst 0, [], []),
  (21, .goto 9, [18], []),
  (24, .aload_n 0, [], []),
  (25, .iload_n 3, [], []),
  (26, .iconst 3, [], []),
  (27, .invokevirtual 123, [246, 216, 3, 1], [0, 0, 13]),
  (30, .invokestatic 156, [254, 341, 2, 1], [0, 0]),
  (33, .iadd, [], []),
  (34, .ireturn, [1], [])]
set_option maxRecDepth 100000 in
noncomputable def zc_X12_blendsBy : List (Nat × Jvm.ClassFile.Instr × List Nat × List Int) := [(0, .iload_n 1, [], []),
  (1, .iconst 5, [], []),
  (2, .if_icmp .gt 7, [5], []),
  (5, .iconst 0, [], []),
  (6, .goto 26, [18], []),
  (9, .aload_n 0, [], []),
  (10, .iload_n 2, [], []),
  (11, .iconst 4, [], []),
  (12, .invokevirtual 123, [246, 216, 3, 1], [0, 0, 13]),
  (15, .iload_n 3, [], []),
  (16, .ifCond .ge 7, [13], []),
  (19, .iconst 0, [], []),
  (20, .goto 9, [17], []),
  (23, .aload_n 0, [], []),
  (24, .iload_n 3, [], []),
  (25, .iconst 4, [], []),
  (26, .invokevirtual 123, [246, 216, 3, 1], [0, 0, 13]),
  (29, .invokestatic 156, [254, 341, 2, 1], [0, 0]),
  (32, .istore 4, [], []),
  (34, .iload 4, [], []),
  (36, .iload_n 1, [], []),
  (37, .bipush 11, [], []),
  (39, .if_icmp .ne 7, [25], []),
  (42, .iconst 1, [], []),
  (43, .goto 4, [26], []),
  (46, .iconst 0, [], []),
  (47, .iadd, [], []),
  (48, .ireturn, [1], [])]
set_option maxRecDepth 100000 in
noncomputable def zc_X12_isTooDeep : List (Nat × Jvm.ClassFile.Instr × List Nat × List Int) := [(0, .aload_n 0, [], []),
  (1, .iload_n 1, [], []),
  (2, .iload_n 2, [], []),
  (3, .iload_n 3, [], []),
  (4, .invokevirtual 337, [299, 278, 4, 1], [0, 0, 13]),
  (7, .bipush 6, [], []),
  (9, .if_icmp .gt 14, [14], []),
  (12, .aload_n 0, [], []),
  (13, .iload_n 1, [], []),
  (14, .iload_n 2, [], []),
  (15, .iload_n 3, [], []),
  (16, .invokevirtual 340, [300, 279, 4, 1], [0, 0, 13]),
  (19, .iconst 2, [], []),
  (20, .if_icmp .le 7, [16], []),
  (23, .iconst 1, [], []),
  (24, .goto 4, [17], []),
  (27, .iconst 0, [], []),
  (28, .ireturn, [4], [])]
set_option maxRecDepth 100000 in
noncomputable def zc_X12_comes : List (Nat × Jvm.ClassFile.Instr × List Nat × List Int) := [(0, .aload_n 0, [], []),
  (1, .getfield 116, [89, 13, 1], [0, 0, 1]),
  (4, .istore 8, [], []),
  (6, .bipush 11, [], []),
  (8, .iload 8, [], []),
  (10, .imul, [], []),
  (11, .istore 9, [], []),
  (13, .aload_n 0, [], []),
  (14, .getfield 9, [67, 13, 3], [20, 264, 0]),
  (17, .iload 9, [], []),
  (19, .iload_n 1, [], []),
  (20, .iastore, [], []),
  (21, .aload_n 0, [], []),
  (22, .getfield 9, [67, 13, 3], [20, 264, 0]),
  (25, .iload 9, [], []),
  (27, .iconst 1, [], []),
  (28, .iadd, [], []),
  (29, .iload_n 2, [], []),
  (30, .iastore, [], []),
  (31, .aload_n 0, [], []),
  (32, .getfield 9, [67, 13, 3], [20, 264, 0]),
  (35, .iload 9, [], []),
  (37, .iconst 2, [], []),
  (38, .iadd, [], []),
  (39, .iload_n 3, [], []),
  (40, .iastore, [], []),
  (41, .aload_n 0, [], []),
  (42, .getfield 9, [67, 13, 3], [20, 264, 0]),
  (45, .iload 9, [], []),
  (47, .iconst 3, [], []),
  (48, .iadd, [], []),
  (49, .iload 4, [], []),
  (51, .iastore, [], []),
  (52, .aload_n 0, [], []),
  (53, .getfield 9, [67, 13, 3], [20, 264, 0]),
  (56, .iload 9, [], []),
  (58, .iconst 4, [], []),
  (59, .iadd, [], []),
  (60, .iload 5, [], []),
  (62, .iastore, [], []),
  (63, .iconst 0, [], []),
  (64, .istore 10, [], []),
  (66, .iload 10, [], []),
  (68, .bipush 6, [], []),
  (70, .if_icmp .ge 42, [66], []),
  (73, .aload_n 0, [], []),
  (74, .getfield 9, [67, 13, 3], [20, 264, 0]),
  (77, .iload 9, [], []),
  (79, .iconst 5, [], []),
  (80, .iadd, [], []),
  (81, .iload 10, [], []),
  (83, .iadd, [], []),
  (84, .iload 10, [], []),
  (86, .iload_n 1, [], []),
  (87, .invokestatic 326, [296, 276, 1, 1], [0, 0]),
  (90, .if_icmp .ge 14, [62], []),
  (93, .aload 6, [], []),
  (95, .iload 7, [], []),
  (97, .iload 10, [], []),
  (99, .iadd, [], []),
  (100, .iaload, [], []),
  (101, .goto 4, [63], []),
  (104, .iconst 0, [], []),
  (105, .iastore, [], []),
  (106, .iinc 10 1, [], []),
  (109, .goto (-43), [42], []),
  (112, .aload_n 0, [], []),
  (113, .iload 8, [], []),
  (115, .iconst 1, [], []),
  (116, .iadd, [], []),
  (117, .putfield 116, [89, 13, 1], [0, 0, 1]),
  (120, .iload 8, [], []),
  (122, .ireturn, [1], [])]
set_option maxRecDepth 100000 in
noncomputable def zc_X12_made : List (Nat × Jvm.ClassFile.Instr × List Nat × List Int) := [(0, .iload_n 1, [], []),
  (1, .iconst 5, [], []),
  (2, .if_icmp .le 25, [14], []),
  (5, .aload_n 0, [], []),
  (6, .iload_n 2, [], []),
  (7, .invokevirtual 175, [260, 218, 2, 4], [0, 0, 13]),
  (10, .ifCond .eq 25, [18], []),
  (13, .iload_n 1, [], []),
  (14, .bipush 11, [], []),
  (16, .if_icmp .gt 11, [14], []),
  (19, .aload_n 0, [], []),
  (20, .iload_n 3, [], []),
  (21, .invokevirtual 175, [260, 218, 2, 4], [0, 0, 13]),
  (24, .ifCond .eq 11, [18], []),
  (27, .aload_n 0, [], []),
  (28, .iload_n 1, [], []),
  (29, .invokevirtual 343, [301, 277, 2, 4], [0, 0, 13]),
  (32, .ifCond .ne 10, [22], []),
  (35, .aload_n 0, [], []),
  (36, .bipush (-62), [], []),
  (38, .invokevirtual 110, [244, 214, 2, 1], [0, 0, 13]),
  (41, .ireturn, [1], []),
  (42, .aload_n 0, [], []),
  (43, .iload_n 1, [], []),
  (44, .iload_n 2, [], []),
  (45, .iload_n 3, [], []),
  (46, .invokevirtual 346, [302, 280, 4, 4], [0, 0, 13]),
  (49, .ifCond .eq 10, [32], []),
  (52, .aload_n 0, [], []),
  (53, .bipush (-65), [], []),
  (55, .invokevirtual 110, [244, 214, 2, 1], [0, 0, 13]),
  (58, .ireturn, [1], []),
  (59, .aload_n 0, [], []),
  (60, .getfield 116, [89, 13, 1], [0, 0, 1]),
  (63, .bipush 24, [], []),
  (65, .if_icmp .ne 12, [40], []),
  (68, .aload_n 0, [], []),
  (69, .bipush (-66), [], []),
  (71, .invokevirtual 110, [244, 214, 2, 1], [0, 0, 13]),
  (74, .goto 29, [58], []),
  (77, .aload_n 0, [], []),
  (78, .iload_n 1, [], []),
  (79, .iload_n 2, [], []),
  (80, .iload_n 3, [], []),
  (81, .aload_n 0, [], []),
  (82, .iload_n 1, [], []),
  (83, .iload_n 2, [], []),
  (84, .iload_n 3, [], []),
  (85, .invokevirtual 337, [299, 278, 4, 1], [0, 0, 13]),
  (88, .aload_n 0, [], []),
  (89, .iload_n 1, [], []),
  (90, .iload_n 2, [], []),
  (91, .iload_n 3, [], []),
  (92, .invokevirtual 340, [300, 279, 4, 1], [0, 0, 13]),
  (95, .aload_n 0, [], []),
  (96, .getfield 35, [74, 13, 3], [20, 6, 8]),
  (99, .iconst 0, [], []),
  (100, .invokevirtual 349, [303, 281, 8, 1], [0, 0, 13]),
  (103, .ireturn, [1], [])]
set_option maxRecDepth 100000 in
noncomputable def zc_X12_tells : List (Nat × Jvm.ClassFile.Instr × List Nat × List Int) := [(0, .aload_n 0, [], []),
  (1, .getfield 35, [74, 13, 3], [20, 6, 8]),
  (4, .iconst 0, [], []),
  (5, .iload_n 1, [], []),
  (6, .iastore, [], []),
  (7, .aload_n 0, [], []),
  (8, .getfield 35, [74, 13, 3], [20, 6, 8]),
  (11, .iconst 1, [], []),
  (12, .iload_n 2, [], []),
  (13, .iastore, [], []),
  (14, .aload_n 0, [], []),
  (15, .getfield 35, [74, 13, 3], [20, 6, 8]),
  (18, .iconst 2, [], []),
  (19, .iload_n 3, [], []),
  (20, .iastore, [], []),
  (21, .aload_n 0, [], []),
  (22, .getfield 35, [74, 13, 3], [20, 6, 8]),
  (25, .iconst 3, [], []),
  (26, .iload 4, [], []),
  (28, .iastore, [], []),
  (29, .return_, [], [])]
set_option maxRecDepth 100000 in
noncomputable def zc_X12_ball : List (Nat × Jvm.ClassFile.Instr × List Nat × List Int) := [(0, .aload_n 0, [], []),
  (1, .iload_n 1, [], []),
  (2, .iload_n 2, [], []),
  (3, .iload_n 3, [], []),
  (4, .iload 4, [], []),
  (6, .invokevirtual 353, [304, 283, 5, 0], [0, 0, 13]),
  (9, .aload_n 0, [], []),
  (10, .iconst 3, [], []),
  (11, .iconst (-1), [], []),
  (12, .iconst (-1), [], []),
  (13, .invokevirtual 357, [305, 282, 4, 1], [0, 0, 13]),
  (16, .ireturn, [1], [])]
set_option maxRecDepth 100000 in
noncomputable def zc_X12_box : List (Nat × Jvm.ClassFile.Instr × List Nat × List Int) := [(0, .aload_n 0, [], []),
  (1, .iload_n 1, [], []),
  (2, .iload_n 2, [], []),
  (3, .iload_n 3, [], []),
  (4, .iload 4, [], []),
  (6, .invokevirtual 353, [304, 283, 5, 0], [0, 0, 13]),
  (9, .aload_n 0, [], []),
  (10, .getfield 35, [74, 13, 3], [20, 6, 8]),
  (13, .iconst 4, [], []),
  (14, .iload 5, [], []),
  (16, .iastore, [], []),
  (17, .aload_n 0, [], []),
  (18, .getfield 35, [74, 13, 3], [20, 6, 8]),
  (21, .iconst 5, [], []),
  (22, .iload 6, [], []),
  (24, .iastore, [], []),
  (25, .aload_n 0, [], []),
  (26, .iconst 4, [], []),
  (27, .iconst (-1), [], []),
  (28, .iconst (-1), [], []),
  (29, .invokevirtual 357, [305, 282, 4, 1], [0, 0, 13]),
  (32, .ireturn, [1], [])]
set_option maxRecDepth 100000 in
noncomputable def zc_X12_half : List (Nat × Jvm.ClassFile.Instr × List Nat × List Int) := [(0, .aload_n 0, [], []),
  (1, .iload_n 1, [], []),
  (2, .iload_n 2, [], []),
  (3, .iload_n 3, [], []),
  (4, .iload 4, [], []),
  (6, .invokevirtual 353, [304, 283, 5, 0], [0, 0, 13]),
  (9, .aload_n 0, [], []),
  (10, .iconst 5, [], []),
  (11, .iconst (-1), [], []),
  (12, .iconst (-1), [], []),
  (13, .invokevirtual 357, [305, 282, 4, 1], [0, 0, 13]),
  (16, .ireturn, [1], [])]
set_option maxRecDepth 100000 in
noncomputable def zc_X12_pair : List (Nat × Jvm.ClassFile.Instr × List Nat × List Int) := [(0, .iload_n 1, [], []),
  (1, .i2l, [], []),
  (2, .ldc2_w 360, [1680], [8]),
  (5, .ldc2_w 362, [1681], [10]),
  (8, .invokestatic 119, [245, 213, 3, 4], [0, 0]),
  (11, .ifCond .eq 13, [12], []),
  (14, .aload_n 0, [], []),
  (15, .iload_n 1, [], []),
  (16, .iload_n 2, [], []),
  (17, .iload_n 3, [], []),
  (18, .invokevirtual 357, [305, 282, 4, 1], [0, 0, 13]),
  (21, .goto 9, [15], []),
  (24, .aload_n 0, [], []),
  (25, .bipush (-62), [], []),
  (27, .invokevirtual 110, [244, 214, 2, 1], [0, 0, 13]),
  (30, .ireturn, [1], [])]
set_option maxRecDepth 100000 in
noncomputable def zc_X12_blend : List (Nat × Jvm.ClassFile.Instr × List Nat × List Int) := [(0, .aload_n 0, [], []),
  (1, .iload_n 3, [], []),
  (2, .iload 4, [], []),
  (4, .iconst 0, [], []),
  (5, .iconst 0, [], []),
  (6, .invokevirtual 353, [304, 283, 5, 0], [0, 0, 13]),
  (9, .aload_n 0, [], []),
  (10, .bipush 11, [], []),
  (12, .iload_n 1, [], []),
  (13, .iload_n 2, [], []),
  (14, .invokevirtual 357, [305, 282, 4, 1], [0, 0, 13]),
  (17, .ireturn, [1], [])]
set_option maxRecDepth 100000 in
noncomputable def zc_X12_shift : List (Nat × Jvm.ClassFile.Instr × List Nat × List Int) := [(0, .aload_n 0, [], []),
  (1, .iload_n 2, [], []),
  (2, .iload_n 3, [], []),
  (3, .iload 4, [], []),
  (5, .iconst 0, [], []),
  (6, .invokevirtual 353, [304, 283, 5, 0], [0, 0, 13]),
  (9, .aload_n 0, [], []),
  (10, .bipush 12, [], []),
  (12, .iload_n 1, [], []),
  (13, .iconst (-1), [], []),
  (14, .invokevirtual 357, [305, 282, 4, 1], [0, 0, 13]),
  (17, .ireturn, [1], [])]
set_option maxRecDepth 100000 in
noncomputable def zc_X12_change : List (Nat × Jvm.ClassFile.Instr × List Nat × List Int) := [(0, .aload_n 0, [], []),
  (1, .iload_n 3, [], []),
  (2, .iload 4, [], []),
  (4, .iconst 0, [], []),
  (5, .iconst 0, [], []),
  (6, .invokevirtual 353, [304, 283, 5, 0], [0, 0, 13]),
  (9, .iload_n 1, [], []),
  (10, .i2l, [], []),
  (11, .ldc2_w 364, [1694], [13]),
  (14, .ldc2_w 272, [1542], [15]),
  (17, .invokestatic 119, [245, 213, 3, 4], [0, 0]),
  (20, .ifCond .eq 13, [18], []),
  (23, .aload_n 0, [], []),
  (24, .iload_n 1, [], []),
  (25, .iload_n 2, [], []),
  (26, .iconst (-1), [], []),
  (27, .invokevirtual 357, [305, 282, 4, 1], [0, 0, 13]),
  (30, .goto 9, [21], []),
  (33, .aload_n 0, [], []),
  (34, .bipush (-62), [], []),
  (36, .invokevirtual 110, [244, 214, 2, 1], [0, 0, 13]),
  (39, .ireturn, [1], [])]
set_option maxRecDepth 100000 in
noncomputable def zc_X12_grown : List (Nat × Jvm.ClassFile.Instr × List Nat × List Int) := [(0, .aload_n 0, [], []),
  (1, .iload_n 3, [], []),
  (2, .iload 4, [], []),
  (4, .iconst 0, [], []),
  (5, .iconst 0, [], []),
  (6, .invokevirtual 353, [304, 283, 5, 0], [0, 0, 13]),
  (9, .iload_n 1, [], []),
  (10, .i2l, [], []),
  (11, .ldc2_w 324, [1651], [16]),
  (14, .ldc2_w 366, [1699], [17]),
  (17, .invokestatic 119, [245, 213, 3, 4], [0, 0]),
  (20, .ifCond .eq 13, [18], []),
  (23, .aload_n 0, [], []),
  (24, .iload_n 1, [], []),
  (25, .iload_n 2, [], []),
  (26, .iconst (-1), [], []),
  (27, .invokevirtual 357, [305, 282, 4, 1], [0, 0, 13]),
  (30, .goto 9, [21], []),
  (33, .aload_n 0, [], []),
  (34, .bipush (-62), [], []),
  (36, .invokevirtual 110, [244, 214, 2, 1], [0, 0, 13]),
  (39, .ireturn, [1], [])]
set_option maxRecDepth 100000 in
noncomputable def zc_X12_looseShelves : List (Nat × Jvm.ClassFile.Instr × List Nat × List Int) := [(0, .iconst 0, [], []),
  (1, .istore_n 1, [], []),
  (2, .iload_n 1, [], []),
  (3, .bipush 8, [], []),
  (5, .if_icmp .ge 41, [26], []),
  (8, .aload_n 0, [], []),
  (9, .getfield 79, [79, 13, 3], [20, 8, 19]),
  (12, .iload_n 1, [], []),
  (13, .aload_n 0, [], []),
  (14, .getfield 79, [79, 13, 3], [20, 8, 19]),
  (17, .iload_n 1, [], []),
  (18, .iaload, [], []),
  (19, .bipush 10, [], []),
  (21, .aload_n 0, [], []),
  (22, .getfield 116, [89, 13, 1], [0, 0, 1]),
  (25, .iadd, [], []),
  (26, .if_icmp .lt 7, [19], []),
  (29, .iconst (-1), [], []),
  (30, .goto 9, [23], []),
  (33, .aload_n 0, [], []),
  (34, .getfield 79, [79, 13, 3], [20, 8, 19]),
  (37, .iload_n 1, [], []),
  (38, .iaload, [], []),
  (39, .iastore, [], []),
  (40, .iinc 1 1, [], []),
  (43, .goto (-41), [2], []),
  (46, .return_, [], [])]
set_option maxRecDepth 100000 in
noncomputable def zc_X12_drop : List (Nat × Jvm.ClassFile.Instr × List Nat × List Int) := [(0, .aload_n 0, [], []),
  (1, .getfield 116, [89, 13, 1], [0, 0, 1]),
  (4, .ifCond .ne 10, [7], []),
  (7, .aload_n 0, [], []),
  (8, .bipush (-65), [], []),
  (10, .invokevirtual 110, [244, 214, 2, 1], [0, 0, 13]),
  (13, .ireturn, [1], []),
  (14, .aload_n 0, [], []),
  (15, .dup, [], []),
  (16, .getfield 116, [89, 13, 1], [0, 0, 1]),
  (19, .iconst 1, [], []),
  (20, .isub, [], []),
  (21, .putfield 116, [89, 13, 1], [0, 0, 1]),
  (24, .aload_n 0, [], []),
  (25, .invokevirtual 368, [306, 292, 1, 0], [0, 0, 13]),
  (28, .aload_n 0, [], []),
  (29, .getfield 116, [89, 13, 1], [0, 0, 1]),
  (32, .ireturn, [1], [])]
set_option maxRecDepth 100000 in
noncomputable def zc_X12_solids : List (Nat × Jvm.ClassFile.Instr × List Nat × List Int) := [(0, .aload_n 0, [], []),
  (1, .iload_n 1, [], []),
  (2, .iconst 0, [], []),
  (3, .invokevirtual 123, [246, 216, 3, 1], [0, 0, 13]),
  (6, .iconst 5, [], []),
  (7, .if_icmp .gt 7, [8], []),
  (10, .iconst 1, [], []),
  (11, .goto 37, [28], []),
  (14, .aload_n 0, [], []),
  (15, .aload_n 0, [], []),
  (16, .iload_n 1, [], []),
  (17, .iconst 1, [], []),
  (18, .invokevirtual 123, [246, 216, 3, 1], [0, 0, 13]),
  (21, .invokevirtual 371, [307, 294, 2, 1], [0, 0, 13]),
  (24, .aload_n 0, [], []),
  (25, .iload_n 1, [], []),
  (26, .iconst 2, [], []),
  (27, .invokevirtual 123, [246, 216, 3, 1], [0, 0, 13]),
  (30, .ifCond .ge 7, [21], []),
  (33, .iconst 0, [], []),
  (34, .goto 13, [27], []),
  (37, .aload_n 0, [], []),
  (38, .aload_n 0, [], []),
  (39, .iload_n 1, [], []),
  (40, .iconst 2, [], []),
  (41, .invokevirtual 123, [246, 216, 3, 1], [0, 0, 13]),
  (44, .invokevirtual 371, [307, 294, 2, 1], [0, 0, 13]),
  (47, .iadd, [], []),
  (48, .ireturn, [1], [])]
set_option maxRecDepth 100000 in
noncomputable def zc_X12_shapeOf : List (Nat × Jvm.ClassFile.Instr × List Nat × List Int) := [(0, .aload_n 0, [], []),
  (1, .iload_n 1, [], []),
  (2, .invokevirtual 175, [260, 218, 2, 4], [0, 0, 13]),
  (5, .ifCond .eq 15, [10], []),
  (8, .iload_n 2, [], []),
  (9, .i2l, [], []),
  (10, .lconst 0, [], []),
  (11, .ldc2_w 279, [1555], [4]),
  (14, .invokestatic 119, [245, 213, 3, 4], [0, 0]),
  (17, .ifCond .ne 10, [14], []),
  (20, .aload_n 0, [], []),
  (21, .bipush (-62), [], []),
  (23, .invokevirtual 110, [244, 214, 2, 1], [0, 0, 13]),
  (26, .ireturn, [1], []),
  (27, .iload_n 2, [], []),
  (28, .iconst 4, [], []),
  (29, .if_icmp .ge 12, [22], []),
  (32, .aload_n 0, [], []),
  (33, .iload_n 1, [], []),
  (34, .iload_n 2, [], []),
  (35, .invokevirtual 123, [246, 216, 3, 1], [0, 0, 13]),
  (38, .goto 8, [25], []),
  (41, .aload_n 0, [], []),
  (42, .iload_n 1, [], []),
  (43, .invokevirtual 371, [307, 294, 2, 1], [0, 0, 13]),
  (46, .ireturn, [1], [])]
set_option maxRecDepth 100000 in
noncomputable def zc_X12_feed : List (Nat × Jvm.ClassFile.Instr × List Nat × List Int) := [(0, .iload_n 1, [], []),
  (1, .i2l, [], []),
  (2, .lconst 0, [], []),
  (3, .ldc2_w 374, [1720], [255]),
  (6, .invokestatic 119, [245, 213, 3, 4], [0, 0]),
  (9, .ifCond .ne 10, [10], []),
  (12, .aload_n 0, [], []),
  (13, .bipush (-62), [], []),
  (15, .invokevirtual 110, [244, 214, 2, 1], [0, 0, 13]),
  (18, .ireturn, [1], []),
  (19, .aload_n 0, [], []),
  (20, .getfield 376, [90, 13, 1], [0, 0, 11]),
  (23, .sipush 250, [], []),
  (26, .if_icmp .ne 10, [18], []),
  (29, .aload_n 0, [], []),
  (30, .bipush (-66), [], []),
  (32, .invokevirtual 110, [244, 214, 2, 1], [0, 0, 13]),
  (35, .ireturn, [1], []),
  (36, .aload_n 0, [], []),
  (37, .getfield 70, [76, 13, 3], [20, 250, 10]),
  (40, .aload_n 0, [], []),
  (41, .getfield 376, [90, 13, 1], [0, 0, 11]),
  (44, .iload_n 1, [], []),
  (45, .iastore, [], []),
  (46, .aload_n 0, [], []),
  (47, .dup, [], []),
  (48, .getfield 376, [90, 13, 1], [0, 0, 11]),
  (51, .iconst 1, [], []),
  (52, .iadd, [], []),
  (53, .putfield 376, [90, 13, 1], [0, 0, 11]),
  (56, .aload_n 0, [], []),
  (57, .getfield 376, [90, 13, 1], [0, 0, 11]),
  (60, .ireturn, [1], [])]
set_option maxRecDepth 100000 in
noncomputable def zc_X12_wipe : List (Nat × Jvm.ClassFile.Instr × List Nat × List Int) := [(0, .aload_n 0, [], []),
  (1, .getfield 376, [90, 13, 1], [0, 0, 11]),
  (4, .istore_n 1, [], []),
  (5, .aload_n 0, [], []),
  (6, .iconst 0, [], []),
  (7, .putfield 376, [90, 13, 1], [0, 0, 11]),
  (10, .iload_n 1, [], []),
  (11, .ireturn, [1], [])]
set_option maxRecDepth 100000 in
noncomputable def zc_X12_byteAt : List (Nat × Jvm.ClassFile.Instr × List Nat × List Int) := [(0, .iload_n 1, [], []),
  (1, .aload_n 0, [], []),
  (2, .getfield 376, [90, 13, 1], [0, 0, 11]),
  (5, .if_icmp .ge 12, [9], []),
  (8, .aload_n 0, [], []),
  (9, .getfield 70, [76, 13, 3], [20, 250, 10]),
  (12, .iload_n 1, [], []),
  (13, .iaload, [], []),
  (14, .goto 4, [10], []),
  (17, .iconst (-1), [], []),
  (18, .ireturn, [1], [])]
set_option maxRecDepth 100000 in
noncomputable def zc_X12_wordOf : List (Nat × Jvm.ClassFile.Instr × List Nat × List Int) := [(0, .iconst 0, [], []),
  (1, .istore_n 3, [], []),
  (2, .iload_n 3, [], []),
  (3, .bipush 13, [], []),
  (5, .if_icmp .ge 90, [52], []),
  (8, .aload_n 0, [], []),
  (9, .getfield 66, [75, 13, 3], [34, 13, 9]),
  (12, .iload_n 3, [], []),
  (13, .aaload, [], []),
  (14, .invokevirtual 379, [308, 345, 1, 1], [0, 0, 40]),
  (17, .iload_n 2, [], []),
  (18, .iload_n 1, [], []),
  (19, .isub, [], []),
  (20, .if_icmp .ne 7, [16], []),
  (23, .iconst 1, [], []),
  (24, .goto 4, [17], []),
  (27, .iconst 0, [], []),
  (28, .istore 4, [], []),
  (30, .iconst 0, [], []),
  (31, .istore 5, [], []),
  (33, .iload 4, [], []),
  (35, .ifCond .eq 47, [46], []),
  (38, .iload 5, [], []),
  (40, .iload_n 2, [], []),
  (41, .iload_n 1, [], []),
  (42, .isub, [], []),
  (43, .if_icmp .ge 39, [46], []),
  (46, .aload_n 0, [], []),
  (47, .getfield 66, [75, 13, 3], [34, 13, 9]),
  (50, .iload_n 3, [], []),
  (51, .aaload, [], []),
  (52, .iload 5, [], []),
  (54, .invokevirtual 383, [309, 346, 2, 5], [0, 0, 40]),
  (57, .aload_n 0, [], []),
  (58, .getfield 70, [76, 13, 3], [20, 250, 10]),
  (61, .iload_n 1, [], []),
  (62, .iload 5, [], []),
  (64, .iadd, [], []),
  (65, .iaload, [], []),
  (66, .if_icmp .ne 7, [42], []),
  (69, .iconst 1, [], []),
  (70, .goto 4, [43], []),
  (73, .iconst 0, [], []),
  (74, .istore 4, [], []),
  (76, .iinc 5 1, [], []),
  (79, .goto (-46), [20], []),
  (82, .iload 4, [], []),
  (84, .ifCond .eq 5, [50], []),
  (87, .iload_n 3, [], []),
  (88, .ireturn, [1], []),
  (89, .iinc 3 1, [], []),
  (92, .goto (-90), [2], []),
  (95, .iconst (-1), [], []),
  (96, .ireturn, [1], [])]
set_option maxRecDepth 100000 in
noncomputable def zc_X12_next : List (Nat × Jvm.ClassFile.Instr × List Nat × List Int) := [(0, .aload_n 0, [], []),
  (1, .aload_n 0, [], []),
  (2, .getfield 387, [91, 13, 1], [0, 0, 12]),
  (5, .invokevirtual 390, [310, 298, 2, 1], [0, 0, 13]),
  (8, .bipush 32, [], []),
  (10, .if_icmp .ne 16, [13], []),
  (13, .aload_n 0, [], []),
  (14, .dup, [], []),
  (15, .getfield 387, [91, 13, 1], [0, 0, 12]),
  (18, .iconst 1, [], []),
  (19, .iadd, [], []),
  (20, .putfield 387, [91, 13, 1], [0, 0, 12]),
  (23, .goto (-23), [0], []),
  (26, .aload_n 0, [], []),
  (27, .aload_n 0, [], []),
  (28, .getfield 387, [91, 13, 1], [0, 0, 12]),
  (31, .putfield 393, [92, 13, 1], [0, 0, 13]),
  (34, .aload_n 0, [], []),
  (35, .aload_n 0, [], []),
  (36, .getfield 387, [91, 13, 1], [0, 0, 12]),
  (39, .invokevirtual 390, [310, 298, 2, 1], [0, 0, 13]),
  (42, .istore_n 1, [], []),
  (43, .iload_n 1, [], []),
  (44, .iconst (-1), [], []),
  (45, .if_icmp .ne 11, [29], []),
  (48, .aload_n 0, [], []),
  (49, .iconst 0, [], []),
  (50, .putfield 396, [93, 13, 1], [0, 0, 14]),
  (53, .goto 226, [140], []),
  (56, .iload_n 1, [], []),
  (57, .i2l, [], []),
  (58, .ldc2_w 399, [1737], [97]),
  (61, .ldc2_w 401, [1738], [122]),
  (64, .invokestatic 119, [245, 213, 3, 4], [0, 0]),
  (67, .ifCond .eq 61, [63], []),
  (70, .aload_n 0, [], []),
  (71, .aload_n 0, [], []),
  (72, .getfield 387, [91, 13, 1], [0, 0, 12]),
  (75, .invokevirtual 390, [310, 298, 2, 1], [0, 0, 13]),
  (78, .i2l, [], []),
  (79, .ldc2_w 399, [1737], [97]),
  (82, .ldc2_w 401, [1738], [122]),
  (85, .invokestatic 119, [245, 213, 3, 4], [0, 0]),
  (88, .ifCond .eq 16, [51], []),
  (91, .aload_n 0, [], []),
  (92, .dup, [], []),
  (93, .getfield 387, [91, 13, 1], [0, 0, 12]),
  (96, .iconst 1, [], []),
  (97, .iadd, [], []),
  (98, .putfield 387, [91, 13, 1], [0, 0, 12]),
  (101, .goto (-31), [35], []),
  (104, .aload_n 0, [], []),
  (105, .iconst 1, [], []),
  (106, .putfield 396, [93, 13, 1], [0, 0, 14]),
  (109, .aload_n 0, [], []),
  (110, .aload_n 0, [], []),
  (111, .aload_n 0, [], []),
  (112, .getfield 393, [92, 13, 1], [0, 0, 13]),
  (115, .aload_n 0, [], []),
  (116, .getfield 387, [91, 13, 1], [0, 0, 12]),
  (119, .invokevirtual 403, [311, 299, 3, 1], [0, 0, 13]),
  (122, .putfield 406, [94, 13, 1], [0, 0, 15]),
  (125, .goto 154, [140], []),
  (128, .iload_n 1, [], []),
  (129, .i2l, [], []),
  (130, .ldc2_w 409, [1745], [48]),
  (133, .ldc2_w 411, [1746], [57]),
  (136, .invokestatic 119, [245, 213, 3, 4], [0, 0]),
  (139, .ifCond .eq 92, [114], []),
  (142, .aload_n 0, [], []),
  (143, .iconst 0, [], []),
  (144, .putfield 406, [94, 13, 1], [0, 0, 15]),
  (147, .aload_n 0, [], []),
  (148, .aload_n 0, [], []),
  (149, .getfield 387, [91, 13, 1], [0, 0, 12]),
  (152, .invokevirtual 390, [310, 298, 2, 1], [0, 0, 13]),
  (155, .i2l, [], []),
  (156, .ldc2_w 409, [1745], [48]),
  (159, .ldc2_w 411, [1746], [57]),
  (162, .invokestatic 119, [245, 213, 3, 4], [0, 0]),
  (165, .ifCond .eq 58, [110], []),
  (168, .aload_n 0, [], []),
  (169, .aload_n 0, [], []),
  (170, .getfield 387, [91, 13, 1], [0, 0, 12]),
  (173, .aload_n 0, [], []),
  (174, .getfield 393, [92, 13, 1], [0, 0, 13]),
  (177, .isub, [], []),
  (178, .iconst 3, [], []),
  (179, .if_icmp .ge 25, [101], []),
  (182, .bipush 10, [], []),
  (184, .aload_n 0, [], []),
  (185, .getfield 406, [94, 13, 1], [0, 0, 15]),
  (188, .imul, [], []),
  (189, .aload_n 0, [], []),
  (190, .aload_n 0, [], []),
  (191, .getfield 387, [91, 13, 1], [0, 0, 12]),
  (194, .invokevirtual 390, [310, 298, 2, 1], [0, 0, 13]),
  (197, .iadd, [], []),
  (198, .bipush 48, [], []),
  (200, .isub, [], []),
  (201, .goto 6, [102], []),
  (204, .ldc_w 413, [1747, 0], [99999]),
  (207, .putfield 406, [94, 13, 1], [0, 0, 15]),
  (210, .aload_n 0, [], []),
  (211, .dup, [], []),
  (212, .getfield 387, [91, 13, 1], [0, 0, 12]),
  (215, .iconst 1, [], []),
  (216, .iadd, [], []),
  (217, .putfield 387, [91, 13, 1], [0, 0, 12]),
  (220, .goto (-73), [72], []),
  (223, .aload_n 0, [], []),
  (224, .iconst 2, [], []),
  (225, .putfield 396, [93, 13, 1], [0, 0, 14]),
  (228, .goto 51, [140], []),
  (231, .aload_n 0, [], []),
  (232, .dup, [], []),
  (233, .getfield 387, [91, 13, 1], [0, 0, 12]),
  (236, .iconst 1, [], []),
  (237, .iadd, [], []),
  (238, .putfield 387, [91, 13, 1], [0, 0, 12]),
  (241, .aload_n 0, [], []),
  (242, .iload_n 1, [], []),
  (243, .bipush 45, [], []),
  (245, .if_icmp .eq 21, [133], []),
  (248, .iload_n 1, [], []),
  (249, .bipush 40, [], []),
  (251, .if_icmp .eq 15, [133], []),
  (254, .iload_n 1, [], []),
  (255, .bipush 44, [], []),
  (257, .if_icmp .eq 9, [133], []),
  (260, .iload_n 1, [], []),
  (261, .bipush 41, [], []),
  (263, .if_icmp .ne 7, [135], []),
  (266, .iconst 3, [], []),
  (267, .goto 4, [136], []),
  (270, .iconst 4, [], []),
  (271, .putfield 396, [93, 13, 1], [0, 0, 14]),
  (274, .aload_n 0, [], []),
  (275, .iload_n 1, [], []),
  (276, .putfield 406, [94, 13, 1], [0, 0, 15]),
  (279, .return_, [], [])]
set_option maxRecDepth 100000 in
noncomputable def zc_X12_isSign : List (Nat × Jvm.ClassFile.Instr × List Nat × List Int) := [(0, .aload_n 0, [], []),
  (1, .getfield 396, [93, 13, 1], [0, 0, 14]),
  (4, .iconst 3, [], []),
  (5, .if_icmp .ne 11, [8], []),
  (8, .aload_n 0, [], []),
  (9, .getfield 406, [94, 13, 1], [0, 0, 15]),
  (12, .iload_n 1, [], []),
  (13, .if_icmp .eq 5, [10], []),
  (16, .iconst 0, [], []),
  (17, .ireturn, [4], []),
  (18, .aload_n 0, [], []),
  (19, .invokevirtual 414, [312, 300, 1, 0], [0, 0, 13]),
  (22, .iconst 1, [], []),
  (23, .ireturn, [4], [])]
set_option maxRecDepth 100000 in
noncomputable def zc_X12_isBelow : List (Nat × Jvm.ClassFile.Instr × List Nat × List Int) := [(0, .iload_n 0, [], []),
  (1, .iconst 3, [], []),
  (2, .if_icmp .ne 16, [10], []),
  (5, .iload_n 1, [], []),
  (6, .iconst 3, [], []),
  (7, .if_icmp .ge 7, [8], []),
  (10, .iconst 1, [], []),
  (11, .goto 38, [27], []),
  (14, .iconst 0, [], []),
  (15, .goto 34, [27], []),
  (18, .iload_n 0, [], []),
  (19, .iconst 4, [], []),
  (20, .if_icmp .eq 24, [24], []),
  (23, .iload_n 0, [], []),
  (24, .iconst 5, [], []),
  (25, .if_icmp .eq 19, [24], []),
  (28, .iload_n 0, [], []),
  (29, .bipush 12, [], []),
  (31, .if_icmp .eq 13, [24], []),
  (34, .iload_n 0, [], []),
  (35, .bipush 16, [], []),
  (37, .if_icmp .ne 11, [26], []),
  (40, .iload_n 1, [], []),
  (41, .ifCond .ne 7, [26], []),
  (44, .iconst 1, [], []),
  (45, .goto 4, [27], []),
  (48, .iconst 0, [], []),
  (49, .ireturn, [4], [])]
set_option maxRecDepth 100000 in
noncomputable def zc_X12_areRead : List (Nat × Jvm.ClassFile.Instr × List Nat × List Int) := [(0, .iconst 0, [], []),
  (1, .istore_n 3, [], []),
  (2, .iload_n 3, [], []),
  (3, .iload_n 1, [], []),
  (4, .invokestatic 326, [296, 276, 1, 1], [0, 0]),
  (7, .if_icmp .ge 129, [74], []),
  (10, .iload_n 1, [], []),
  (11, .iload_n 3, [], []),
  (12, .invokestatic 417, [313, 302, 2, 4], [0, 0]),
  (15, .ifCond .eq 16, [16], []),
  (18, .aload_n 0, [], []),
  (19, .bipush 45, [], []),
  (21, .invokevirtual 420, [314, 301, 2, 4], [0, 0, 13]),
  (24, .ifCond .eq 7, [16], []),
  (27, .iconst 1, [], []),
  (28, .goto 4, [17], []),
  (31, .iconst 0, [], []),
  (32, .istore 4, [], []),
  (34, .iload 4, [], []),
  (36, .ifCond .eq 11, [24], []),
  (39, .aload_n 0, [], []),
  (40, .getfield 406, [94, 13, 1], [0, 0, 15]),
  (43, .ineg, [], []),
  (44, .goto 7, [26], []),
  (47, .aload_n 0, [], []),
  (48, .getfield 406, [94, 13, 1], [0, 0, 15]),
  (51, .istore 5, [], []),
  (53, .iload_n 1, [], []),
  (54, .iconst 4, [], []),
  (55, .if_icmp .ne 21, [42], []),
  (58, .iload_n 3, [], []),
  (59, .iconst 3, [], []),
  (60, .if_icmp .lt 16, [42], []),
  (63, .aload_n 0, [], []),
  (64, .getfield 73, [77, 13, 3], [20, 770, 16]),
  (67, .iload_n 2, [], []),
  (68, .iload_n 3, [], []),
  (69, .iadd, [], []),
  (70, .iconst 3, [], []),
  (71, .isub, [], []),
  (72, .iaload, [], []),
  (73, .goto 9, [46], []),
  (76, .aload_n 0, [], []),
  (77, .getfield 73, [77, 13, 3], [20, 770, 16]),
  (80, .iload_n 2, [], []),
  (81, .iaload, [], []),
  (82, .istore 6, [], []),
  (84, .aload_n 0, [], []),
  (85, .getfield 396, [93, 13, 1], [0, 0, 14]),
  (88, .iconst 2, [], []),
  (89, .if_icmp .ne 25, [61], []),
  (92, .aload_n 0, [], []),
  (93, .getfield 406, [94, 13, 1], [0, 0, 15]),
  (96, .sipush 999, [], []),
  (99, .if_icmp .gt 15, [61], []),
  (102, .iload_n 1, [], []),
  (103, .iload_n 3, [], []),
  (104, .iload 5, [], []),
  (106, .iload 6, [], []),
  (108, .invokestatic 333, [298, 274, 4, 4], [0, 0]),
  (111, .ifCond .ne 5, [63], []),
  (114, .iconst 0, [], []),
  (115, .ireturn, [4], []),
  (116, .aload_n 0, [], []),
  (117, .getfield 73, [77, 13, 3], [20, 770, 16]),
  (120, .iload_n 2, [], []),
  (121, .iload_n 3, [], []),
  (122, .iadd, [], []),
  (123, .iload 5, [], []),
  (125, .iastore, [], []),
  (126, .aload_n 0, [], []),
  (127, .invokevirtual 414, [312, 300, 1, 0], [0, 0, 13]),
  (130, .iinc 3 1, [], []),
  (133, .goto (-131), [2], []),
  (136, .iconst 1, [], []),
  (137, .ireturn, [4], [])]
set_option maxRecDepth 100000 in
noncomputable def zc_X12_shapeRead : List (Nat × Jvm.ClassFile.Instr × List Nat × List Int) := [(0, .aload_n 0, [], []),
  (1, .getfield 396, [93, 13, 1], [0, 0, 14]),
  (4, .iconst 1, [], []),
  (5, .if_icmp .ne 10, [7], []),
  (8, .aload_n 0, [], []),
  (9, .getfield 406, [94, 13, 1], [0, 0, 15]),
  (12, .ifCond .ge 5, [9], []),
  (15, .iconst (-1), [], []),
  (16, .ireturn, [1], []),
  (17, .aload_n 0, [], []),
  (18, .getfield 393, [92, 13, 1], [0, 0, 13]),
  (21, .istore_n 2, [], []),
  (22, .aload_n 0, [], []),
  (23, .getfield 406, [94, 13, 1], [0, 0, 15]),
  (26, .iconst 3, [], []),
  (27, .if_icmp .ge 12, [21], []),
  (30, .iconst 3, [], []),
  (31, .aload_n 0, [], []),
  (32, .getfield 406, [94, 13, 1], [0, 0, 15]),
  (35, .iadd, [], []),
  (36, .goto 12, [27], []),
  (39, .bipush 8, [], []),
  (41, .aload_n 0, [], []),
  (42, .getfield 406, [94, 13, 1], [0, 0, 15]),
  (45, .iadd, [], []),
  (46, .iconst 3, [], []),
  (47, .isub, [], []),
  (48, .istore_n 3, [], []),
  (49, .aload_n 0, [], []),
  (50, .invokevirtual 414, [312, 300, 1, 0], [0, 0, 13]),
  (53, .sipush 759, [], []),
  (56, .istore 4, [], []),
  (58, .aload_n 0, [], []),
  (59, .iload_n 3, [], []),
  (60, .iload 4, [], []),
  (62, .invokevirtual 423, [315, 303, 3, 4], [0, 0, 13]),
  (65, .ifCond .ne 5, [39], []),
  (68, .iconst (-1), [], []),
  (69, .ireturn, [1], []),
  (70, .iconst 0, [], []),
  (71, .istore 5, [], []),
  (73, .iload 5, [], []),
  (75, .bipush 6, [], []),
  (77, .if_icmp .ge 31, [60], []),
  (80, .aload_n 0, [], []),
  (81, .getfield 76, [78, 13, 3], [20, 420, 18]),
  (84, .bipush 6, [], []),
  (86, .iload_n 1, [], []),
  (87, .imul, [], []),
  (88, .iload 5, [], []),
  (90, .iadd, [], []),
  (91, .aload_n 0, [], []),
  (92, .getfield 73, [77, 13, 3], [20, 770, 16]),
  (95, .iload 4, [], []),
  (97, .iload 5, [], []),
  (99, .iadd, [], []),
  (100, .iaload, [], []),
  (101, .iastore, [], []),
  (102, .iinc 5 1, [], []),
  (105, .goto (-32), [41], []),
  (108, .iconst (-1), [], []),
  (109, .istore 5, [], []),
  (111, .iconst (-1), [], []),
  (112, .istore 6, [], []),
  (114, .iload_n 3, [], []),
  (115, .iconst 5, [], []),
  (116, .if_icmp .le 76, [107], []),
  (119, .aload_n 0, [], []),
  (120, .bipush 40, [], []),
  (122, .invokevirtual 420, [314, 301, 2, 4], [0, 0, 13]),
  (125, .ifCond .eq 13, [77], []),
  (128, .aload_n 0, [], []),
  (129, .iload_n 1, [], []),
  (130, .iconst 1, [], []),
  (131, .iadd, [], []),
  (132, .invokevirtual 426, [316, 304, 2, 1], [0, 0, 13]),
  (135, .goto 4, [78], []),
  (138, .iconst (-1), [], []),
  (139, .istore 5, [], []),
  (141, .iload 5, [], []),
  (143, .ifCond .ge 5, [83], []),
  (146, .iconst (-1), [], []),
  (147, .ireturn, [1], []),
  (148, .iload_n 3, [], []),
  (149, .bipush 11, [], []),
  (151, .if_icmp .gt 32, [102], []),
  (154, .aload_n 0, [], []),
  (155, .bipush 44, [], []),
  (157, .invokevirtual 420, [314, 301, 2, 4], [0, 0, 13]),
  (160, .ifCond .eq 13, [96], []),
  (163, .aload_n 0, [], []),
  (164, .iload_n 1, [], []),
  (165, .iconst 1, [], []),
  (166, .iadd, [], []),
  (167, .invokevirtual 426, [316, 304, 2, 1], [0, 0, 13]),
  (170, .goto 4, [97], []),
  (173, .iconst (-1), [], []),
  (174, .istore 6, [], []),
  (176, .iload 6, [], []),
  (178, .ifCond .ge 5, [102], []),
  (181, .iconst (-1), [], []),
  (182, .ireturn, [1], []),
  (183, .aload_n 0, [], []),
  (184, .invokevirtual 429, [317, 305, 1, 4], [0, 0, 13]),
  (187, .ifCond .ne 5, [107], []),
  (190, .iconst (-1), [], []),
  (191, .ireturn, [1], []),
  (192, .iload_n 3, [], []),
  (193, .iconst 5, [], []),
  (194, .if_icmp .gt 7, [112], []),
  (197, .iconst 0, [], []),
  (198, .goto 41, [135], []),
  (201, .iconst 1, [], []),
  (202, .aload_n 0, [], []),
  (203, .getfield 73, [77, 13, 3], [20, 770, 16]),
  (206, .bipush 11, [], []),
  (208, .iload 5, [], []),
  (210, .imul, [], []),
  (211, .iconst 3, [], []),
  (212, .iadd, [], []),
  (213, .iaload, [], []),
  (214, .iload 6, [], []),
  (216, .ifCond .ge 7, [125], []),
  (219, .iconst 0, [], []),
  (220, .goto 15, [133], []),
  (223, .aload_n 0, [], []),
  (224, .getfield 73, [77, 13, 3], [20, 770, 16]),
  (227, .bipush 11, [], []),
  (229, .iload 6, [], []),
  (231, .imul, [], []),
  (232, .iconst 3, [], []),
  (233, .iadd, [], []),
  (234, .iaload, [], []),
  (235, .invokestatic 156, [254, 341, 2, 1], [0, 0]),
  (238, .iadd, [], []),
  (239, .istore 7, [], []),
  (241, .iload_n 3, [], []),
  (242, .iconst 5, [], []),
  (243, .if_icmp .gt 7, [141], []),
  (246, .iconst 0, [], []),
  (247, .goto 39, [162], []),
  (250, .aload_n 0, [], []),
  (251, .getfield 73, [77, 13, 3], [20, 770, 16]),
  (254, .bipush 11, [], []),
  (256, .iload 5, [], []),
  (258, .imul, [], []),
  (259, .iconst 4, [], []),
  (260, .iadd, [], []),
  (261, .iaload, [], []),
  (262, .iload 6, [], []),
  (264, .ifCond .ge 7, [153], []),
  (267, .iconst 0, [], []),
  (268, .goto 15, [161], []),
  (271, .aload_n 0, [], []),
  (272, .getfield 73, [77, 13, 3], [20, 770, 16]),
  (275, .bipush 11, [], []),
  (277, .iload 6, [], []),
  (279, .imul, [], []),
  (280, .iconst 4, [], []),
  (281, .iadd, [], []),
  (282, .iaload, [], []),
  (283, .invokestatic 156, [254, 341, 2, 1], [0, 0]),
  (286, .iload_n 3, [], []),
  (287, .bipush 11, [], []),
  (289, .if_icmp .ne 7, [167], []),
  (292, .iconst 1, [], []),
  (293, .goto 4, [168], []),
  (296, .iconst 0, [], []),
  (297, .iadd, [], []),
  (298, .istore 8, [], []),
  (300, .iload 7, [], []),
  (302, .bipush 6, [], []),
  (304, .if_icmp .gt 9, [176], []),
  (307, .iload 8, [], []),
  (309, .iconst 2, [], []),
  (310, .if_icmp .le 10, [181], []),
  (313, .aload_n 0, [], []),
  (314, .iload_n 2, [], []),
  (315, .putfield 393, [92, 13, 1], [0, 0, 13]),
  (318, .iconst (-1), [], []),
  (319, .ireturn, [1], []),
  (320, .iload_n 3, [], []),
  (321, .iconst 5, [], []),
  (322, .if_icmp .le 7, [186], []),
  (325, .aload_n 0, [], []),
  (326, .invokevirtual 414, [312, 300, 1, 0], [0, 0, 13]),
  (329, .bipush 11, [], []),
  (331, .aload_n 0, [], []),
  (332, .getfield 433, [95, 13, 1], [0, 0, 17]),
  (335, .imul, [], []),
  (336, .istore 9, [], []),
  (338, .aload_n 0, [], []),
  (339, .getfield 73, [77, 13, 3], [20, 770, 16]),
  (342, .iload 9, [], []),
  (344, .iload_n 3, [], []),
  (345, .iastore, [], []),
  (346, .aload_n 0, [], []),
  (347, .getfield 73, [77, 13, 3], [20, 770, 16]),
  (350, .iload 9, [], []),
  (352, .iconst 1, [], []),
  (353, .iadd, [], []),
  (354, .iload 5, [], []),
  (356, .iastore, [], []),
  (357, .aload_n 0, [], []),
  (358, .getfield 73, [77, 13, 3], [20, 770, 16]),
  (361, .iload 9, [], []),
  (363, .iconst 2, [], []),
  (364, .iadd, [], []),
  (365, .iload 6, [], []),
  (367, .iastore, [], []),
  (368, .aload_n 0, [], []),
  (369, .getfield 73, [77, 13, 3], [20, 770, 16]),
  (372, .iload 9, [], []),
  (374, .iconst 3, [], []),
  (375, .iadd, [], []),
  (376, .iload 7, [], []),
  (378, .iastore, [], []),
  (379, .aload_n 0, [], []),
  (380, .getfield 73, [77, 13, 3], [20, 770, 16]),
  (383, .iload 9, [], []),
  (385, .iconst 4, [], []),
  (386, .iadd, [], []),
  (387, .iload 8, [], []),
  (389, .iastore, [], []),
  (390, .iconst 0, [], []),
  (391, .istore 10, [], []),
  (393, .iload 10, [], []),
  (395, .bipush 6, [], []),
  (397, .if_icmp .ge 33, [247], []),
  (400, .aload_n 0, [], []),
  (401, .getfield 73, [77, 13, 3], [20, 770, 16]),
  (404, .iload 9, [], []),
  (406, .iconst 5, [], []),
  (407, .iadd, [], []),
  (408, .iload 10, [], []),
  (410, .iadd, [], []),
  (411, .aload_n 0, [], []),
  (412, .getfield 76, [78, 13, 3], [20, 420, 18]),
  (415, .bipush 6, [], []),
  (417, .iload_n 1, [], []),
  (418, .imul, [], []),
  (419, .iload 10, [], []),
  (421, .iadd, [], []),
  (422, .iaload, [], []),
  (423, .iastore, [], []),
  (424, .iinc 10 1, [], []),
  (427, .goto (-34), [226], []),
  (430, .aload_n 0, [], []),
  (431, .dup, [], []),
  (432, .getfield 433, [95, 13, 1], [0, 0, 17]),
  (435, .iconst 1, [], []),
  (436, .iadd, [], []),
  (437, .putfield 433, [95, 13, 1], [0, 0, 17]),
  (440, .aload_n 0, [], []),
  (441, .getfield 433, [95, 13, 1], [0, 0, 17]),
  (444, .iconst 1, [], []),
  (445, .isub, [], []),
  (446, .ireturn, [1], [])]
set_option maxRecDepth 100000 in
noncomputable def zc_X12_isClosed : List (Nat × Jvm.ClassFile.Instr × List Nat × List Int) := [(0, .aload_n 0, [], []),
  (1, .getfield 396, [93, 13, 1], [0, 0, 14]),
  (4, .iconst 3, [], []),
  (5, .if_icmp .ne 16, [10], []),
  (8, .aload_n 0, [], []),
  (9, .getfield 406, [94, 13, 1], [0, 0, 15]),
  (12, .bipush 41, [], []),
  (14, .if_icmp .ne 7, [10], []),
  (17, .iconst 1, [], []),
  (18, .goto 4, [11], []),
  (21, .iconst 0, [], []),
  (22, .ireturn, [4], [])]
set_option maxRecDepth 100000 in
noncomputable def zc_X12_shape : List (Nat × Jvm.ClassFile.Instr × List Nat × List Int) := [(0, .aload_n 0, [], []),
  (1, .iconst 0, [], []),
  (2, .putfield 387, [91, 13, 1], [0, 0, 12]),
  (5, .aload_n 0, [], []),
  (6, .iconst 0, [], []),
  (7, .putfield 433, [95, 13, 1], [0, 0, 17]),
  (10, .aload_n 0, [], []),
  (11, .invokevirtual 414, [312, 300, 1, 0], [0, 0, 13]),
  (14, .aload_n 0, [], []),
  (15, .iconst 0, [], []),
  (16, .invokevirtual 426, [316, 304, 2, 1], [0, 0, 13]),
  (19, .ifCond .lt 14, [17], []),
  (22, .aload_n 0, [], []),
  (23, .getfield 396, [93, 13, 1], [0, 0, 14]),
  (26, .ifCond .ne 7, [17], []),
  (29, .iconst 1, [], []),
  (30, .goto 4, [18], []),
  (33, .iconst 0, [], []),
  (34, .istore_n 1, [], []),
  (35, .aload_n 0, [], []),
  (36, .getfield 393, [92, 13, 1], [0, 0, 13]),
  (39, .istore_n 2, [], []),
  (40, .aload_n 0, [], []),
  (41, .iconst 0, [], []),
  (42, .putfield 376, [90, 13, 1], [0, 0, 11]),
  (45, .iload_n 1, [], []),
  (46, .ifCond .ne 19, [39], []),
  (49, .aload_n 0, [], []),
  (50, .getfield 13, [68, 13, 3], [20, 5, 2]),
  (53, .iconst 0, [], []),
  (54, .dup2, [], []),
  (55, .iaload, [], []),
  (56, .iconst 1, [], []),
  (57, .iadd, [], []),
  (58, .iastore, [], []),
  (59, .sipush (-700), [], []),
  (62, .iload_n 2, [], []),
  (63, .isub, [], []),
  (64, .ireturn, [1], []),
  (65, .aload_n 0, [], []),
  (66, .getfield 116, [89, 13, 1], [0, 0, 1]),
  (69, .istore_n 3, [], []),
  (70, .iload_n 3, [], []),
  (71, .aload_n 0, [], []),
  (72, .getfield 433, [95, 13, 1], [0, 0, 17]),
  (75, .iadd, [], []),
  (76, .bipush 24, [], []),
  (78, .if_icmp .le 10, [52], []),
  (81, .aload_n 0, [], []),
  (82, .bipush (-66), [], []),
  (84, .invokevirtual 110, [244, 214, 2, 1], [0, 0, 13]),
  (87, .ireturn, [1], []),
  (88, .iconst (-1), [], []),
  (89, .istore 4, [], []),
  (91, .iconst 0, [], []),
  (92, .istore 5, [], []),
  (94, .iload 5, [], []),
  (96, .aload_n 0, [], []),
  (97, .getfield 433, [95, 13, 1], [0, 0, 17]),
  (100, .if_icmp .ge 109, [124], []),
  (103, .bipush 11, [], []),
  (105, .iload 5, [], []),
  (107, .imul, [], []),
  (108, .istore 6, [], []),
  (110, .aload_n 0, [], []),
  (111, .aload_n 0, [], []),
  (112, .getfield 73, [77, 13, 3], [20, 770, 16]),
  (115, .iload 6, [], []),
  (117, .iaload, [], []),
  (118, .aload_n 0, [], []),
  (119, .getfield 73, [77, 13, 3], [20, 770, 16]),
  (122, .iload 6, [], []),
  (124, .iconst 1, [], []),
  (125, .iadd, [], []),
  (126, .iaload, [], []),
  (127, .ifCond .ge 7, [78], []),
  (130, .iconst (-1), [], []),
  (131, .goto 14, [86], []),
  (134, .iload_n 3, [], []),
  (135, .aload_n 0, [], []),
  (136, .getfield 73, [77, 13, 3], [20, 770, 16]),
  (139, .iload 6, [], []),
  (141, .iconst 1, [], []),
  (142, .iadd, [], []),
  (143, .iaload, [], []),
  (144, .iadd, [], []),
  (145, .aload_n 0, [], []),
  (146, .getfield 73, [77, 13, 3], [20, 770, 16]),
  (149, .iload 6, [], []),
  (151, .iconst 2, [], []),
  (152, .iadd, [], []),
  (153, .iaload, [], []),
  (154, .ifCond .ge 7, [95], []),
  (157, .iconst (-1), [], []),
  (158, .goto 14, [103], []),
  (161, .iload_n 3, [], []),
  (162, .aload_n 0, [], []),
  (163, .getfield 73, [77, 13, 3], [20, 770, 16]),
  (166, .iload 6, [], []),
  (168, .iconst 2, [], []),
  (169, .iadd, [], []),
  (170, .iaload, [], []),
  (171, .iadd, [], []),
  (172, .aload_n 0, [], []),
  (173, .getfield 73, [77, 13, 3], [20, 770, 16]),
  (176, .iload 6, [], []),
  (178, .iconst 3, [], []),
  (179, .iadd, [], []),
  (180, .iaload, [], []),
  (181, .aload_n 0, [], []),
  (182, .getfield 73, [77, 13, 3], [20, 770, 16]),
  (185, .iload 6, [], []),
  (187, .iconst 4, [], []),
  (188, .iadd, [], []),
  (189, .iaload, [], []),
  (190, .aload_n 0, [], []),
  (191, .getfield 73, [77, 13, 3], [20, 770, 16]),
  (194, .iload 6, [], []),
  (196, .iconst 5, [], []),
  (197, .iadd, [], []),
  (198, .invokevirtual 349, [303, 281, 8, 1], [0, 0, 13]),
  (201, .istore 4, [], []),
  (203, .iinc 5 1, [], []),
  (206, .goto (-112), [56], []),
  (209, .iload 4, [], []),
  (211, .ireturn, [1], [])]
set_option maxRecDepth 100000 in
noncomputable def zc_X12_isShelf : List (Nat × Jvm.ClassFile.Instr × List Nat × List Int) := [(0, .iload_n 0, [], []),
  (1, .i2l, [], []),
  (2, .lconst 0, [], []),
  (3, .ldc2_w 436, [1774], [7]),
  (6, .invokestatic 119, [245, 213, 3, 4], [0, 0]),
  (9, .ireturn, [4], [])]
set_option maxRecDepth 100000 in
noncomputable def zc_X12_row : List (Nat × Jvm.ClassFile.Instr × List Nat × List Int) := [(0, .iload_n 1, [], []),
  (1, .invokestatic 438, [318, 307, 1, 4], [0, 0]),
  (4, .ifCond .eq 27, [15], []),
  (7, .iload_n 2, [], []),
  (8, .i2l, [], []),
  (9, .lconst 0, [], []),
  (10, .ldc2_w 279, [1555], [4]),
  (13, .invokestatic 119, [245, 213, 3, 4], [0, 0]),
  (16, .ifCond .eq 15, [15], []),
  (19, .iload_n 3, [], []),
  (20, .i2l, [], []),
  (21, .lconst 0, [], []),
  (22, .ldc2_w 312, [1645], [40]),
  (25, .invokestatic 119, [245, 213, 3, 4], [0, 0]),
  (28, .ifCond .ne 10, [19], []),
  (31, .aload_n 0, [], []),
  (32, .bipush (-62), [], []),
  (34, .invokevirtual 110, [244, 214, 2, 1], [0, 0, 13]),
  (37, .ireturn, [1], []),
  (38, .aload_n 0, [], []),
  (39, .getfield 79, [79, 13, 3], [20, 8, 19]),
  (42, .iload_n 1, [], []),
  (43, .iload_n 2, [], []),
  (44, .iastore, [], []),
  (45, .aload_n 0, [], []),
  (46, .getfield 82, [80, 13, 3], [20, 8, 20]),
  (49, .iload_n 1, [], []),
  (50, .iload_n 3, [], []),
  (51, .iastore, [], []),
  (52, .iconst 0, [], []),
  (53, .istore 4, [], []),
  (55, .iload 4, [], []),
  (57, .bipush 40, [], []),
  (59, .if_icmp .ge 22, [45], []),
  (62, .aload_n 0, [], []),
  (63, .getfield 85, [81, 13, 3], [21, 320, 21]),
  (66, .bipush 40, [], []),
  (68, .iload_n 1, [], []),
  (69, .imul, [], []),
  (70, .iload 4, [], []),
  (72, .iadd, [], []),
  (73, .lconst 0, [], []),
  (74, .lastore, [], []),
  (75, .iinc 4 1, [], []),
  (78, .goto (-23), [31], []),
  (81, .iconst 1, [], []),
  (82, .ireturn, [1], [])]
set_option maxRecDepth 100000 in
noncomputable def zc_X12_lowest_ : List (Nat × Jvm.ClassFile.Instr × List Nat × List Int) := [(0, .iload_n 0, [], []),
  (1, .tableswitch 47 0 3 #[31, 36, 41, 45], [18, 2, 7, 12, 16], []),
  (32, .lload_n 1, [], []),
  (33, .l2i, [], []),
  (34, .i2b, [], []),
  (35, .i2l, [], []),
  (36, .lreturn, [], []),
  (37, .lload_n 1, [], []),
  (38, .l2i, [], []),
  (39, .i2s, [], []),
  (40, .i2l, [], []),
  (41, .lreturn, [], []),
  (42, .lload_n 1, [], []),
  (43, .l2i, [], []),
  (44, .i2l, [], []),
  (45, .lreturn, [], []),
  (46, .lload_n 1, [], []),
  (47, .lreturn, [], []),
  (48, .lload_n 1, [], []),
  (49, .lconst 0, [], []),
  (50, .lcmp, [], []),
  (51, .ifCond .ne 7, [24], []),
  (54, .lconst 0, [], []),
  (55, .goto 4, [25], []),
  (58, .lconst 1, [], []),
  (59, .lreturn, [], [])]
set_option maxRecDepth 100000 in
noncomputable def zc_X12_set : List (Nat × Jvm.ClassFile.Instr × List Nat × List Int) := [(0, .iload_n 1, [], []),
  (1, .invokestatic 438, [318, 307, 1, 4], [0, 0]),
  (4, .ifCond .ne 10, [7], []),
  (7, .aload_n 0, [], []),
  (8, .bipush (-62), [], []),
  (10, .invokevirtual 110, [244, 214, 2, 1], [0, 0, 13]),
  (13, .ireturn, [1], []),
  (14, .aload_n 0, [], []),
  (15, .getfield 79, [79, 13, 3], [20, 8, 19]),
  (18, .iload_n 1, [], []),
  (19, .iaload, [], []),
  (20, .iconst 4, [], []),
  (21, .if_icmp .le 10, [17], []),
  (24, .aload_n 0, [], []),
  (25, .bipush (-63), [], []),
  (27, .invokevirtual 110, [244, 214, 2, 1], [0, 0, 13]),
  (30, .ireturn, [1], []),
  (31, .aload_n 0, [], []),
  (32, .getfield 79, [79, 13, 3], [20, 8, 19]),
  (35, .iload_n 1, [], []),
  (36, .iaload, [], []),
  (37, .ifCond .ge 10, [26], []),
  (40, .aload_n 0, [], []),
  (41, .bipush (-64), [], []),
  (43, .invokevirtual 110, [244, 214, 2, 1], [0, 0, 13]),
  (46, .ireturn, [1], []),
  (47, .iload_n 2, [], []),
  (48, .i2l, [], []),
  (49, .lconst 0, [], []),
  (50, .aload_n 0, [], []),
  (51, .getfield 82, [80, 13, 3], [20, 8, 20]),
  (54, .iload_n 1, [], []),
  (55, .iaload, [], []),
  (56, .iconst 1, [], []),
  (57, .isub, [], []),
  (58, .i2l, [], []),
  (59, .invokestatic 119, [245, 213, 3, 4], [0, 0]),
  (62, .ifCond .ne 10, [42], []),
  (65, .aload_n 0, [], []),
  (66, .bipush (-62), [], []),
  (68, .invokevirtual 110, [244, 214, 2, 1], [0, 0, 13]),
  (71, .ireturn, [1], []),
  (72, .aload_n 0, [], []),
  (73, .getfield 85, [81, 13, 3], [21, 320, 21]),
  (76, .bipush 40, [], []),
  (78, .iload_n 1, [], []),
  (79, .imul, [], []),
  (80, .iload_n 2, [], []),
  (81, .iadd, [], []),
  (82, .aload_n 0, [], []),
  (83, .getfield 79, [79, 13, 3], [20, 8, 19]),
  (86, .iload_n 1, [], []),
  (87, .iaload, [], []),
  (88, .lload_n 3, [], []),
  (89, .invokestatic 441, [319, 309, 2, 2], [0, 0]),
  (92, .lastore, [], []),
  (93, .iconst 1, [], []),
  (94, .ireturn, [1], [])]
set_option maxRecDepth 100000 in
noncomputable def zc_X12_copy : List (Nat × Jvm.ClassFile.Instr × List Nat × List Int) := [(0, .iload_n 1, [], []),
  (1, .invokestatic 438, [318, 307, 1, 4], [0, 0]),
  (4, .ifCond .eq 10, [6], []),
  (7, .iload_n 2, [], []),
  (8, .invokestatic 438, [318, 307, 1, 4], [0, 0]),
  (11, .ifCond .ne 10, [10], []),
  (14, .aload_n 0, [], []),
  (15, .bipush (-62), [], []),
  (17, .invokevirtual 110, [244, 214, 2, 1], [0, 0, 13]),
  (20, .ireturn, [1], []),
  (21, .aload_n 0, [], []),
  (22, .getfield 79, [79, 13, 3], [20, 8, 19]),
  (25, .iload_n 1, [], []),
  (26, .iaload, [], []),
  (27, .iconst 4, [], []),
  (28, .if_icmp .gt 46, [41], []),
  (31, .aload_n 0, [], []),
  (32, .getfield 79, [79, 13, 3], [20, 8, 19]),
  (35, .iload_n 2, [], []),
  (36, .iaload, [], []),
  (37, .iconst 4, [], []),
  (38, .if_icmp .gt 36, [41], []),
  (41, .aload_n 0, [], []),
  (42, .getfield 79, [79, 13, 3], [20, 8, 19]),
  (45, .iload_n 1, [], []),
  (46, .iaload, [], []),
  (47, .ifCond .lt 34, [45], []),
  (50, .aload_n 0, [], []),
  (51, .getfield 79, [79, 13, 3], [20, 8, 19]),
  (54, .iload_n 2, [], []),
  (55, .iaload, [], []),
  (56, .ifCond .lt 25, [45], []),
  (59, .aload_n 0, [], []),
  (60, .getfield 79, [79, 13, 3], [20, 8, 19]),
  (63, .iload_n 1, [], []),
  (64, .iaload, [], []),
  (65, .aload_n 0, [], []),
  (66, .getfield 79, [79, 13, 3], [20, 8, 19]),
  (69, .iload_n 2, [], []),
  (70, .iaload, [], []),
  (71, .if_icmp .eq 10, [45], []),
  (74, .aload_n 0, [], []),
  (75, .bipush (-63), [], []),
  (77, .invokevirtual 110, [244, 214, 2, 1], [0, 0, 13]),
  (80, .ireturn, [1], []),
  (81, .aload_n 0, [], []),
  (82, .getfield 79, [79, 13, 3], [20, 8, 19]),
  (85, .iload_n 1, [], []),
  (86, .iaload, [], []),
  (87, .ifCond .lt 12, [55], []),
  (90, .aload_n 0, [], []),
  (91, .getfield 79, [79, 13, 3], [20, 8, 19]),
  (94, .iload_n 2, [], []),
  (95, .iaload, [], []),
  (96, .ifCond .ge 10, [59], []),
  (99, .aload_n 0, [], []),
  (100, .bipush (-64), [], []),
  (102, .invokevirtual 110, [244, 214, 2, 1], [0, 0, 13]),
  (105, .ireturn, [1], []),
  (106, .iload_n 3, [], []),
  (107, .ifCond .lt 61, [93], []),
  (110, .iload 4, [], []),
  (112, .ifCond .lt 56, [93], []),
  (115, .iload 5, [], []),
  (117, .ifCond .lt 51, [93], []),
  (120, .iload_n 3, [], []),
  (121, .aload_n 0, [], []),
  (122, .getfield 82, [80, 13, 3], [20, 8, 20]),
  (125, .iload_n 1, [], []),
  (126, .iaload, [], []),
  (127, .if_icmp .gt 41, [93], []),
  (130, .iload 4, [], []),
  (132, .aload_n 0, [], []),
  (133, .getfield 82, [80, 13, 3], [20, 8, 20]),
  (136, .iload_n 2, [], []),
  (137, .iaload, [], []),
  (138, .if_icmp .gt 30, [93], []),
  (141, .iload 5, [], []),
  (143, .aload_n 0, [], []),
  (144, .getfield 82, [80, 13, 3], [20, 8, 20]),
  (147, .iload_n 1, [], []),
  (148, .iaload, [], []),
  (149, .iload_n 3, [], []),
  (150, .isub, [], []),
  (151, .if_icmp .gt 17, [93], []),
  (154, .iload 5, [], []),
  (156, .aload_n 0, [], []),
  (157, .getfield 82, [80, 13, 3], [20, 8, 20]),
  (160, .iload_n 2, [], []),
  (161, .iaload, [], []),
  (162, .iload 4, [], []),
  (164, .isub, [], []),
  (165, .if_icmp .le 10, [97], []),
  (168, .aload_n 0, [], []),
  (169, .bipush (-62), [], []),
  (171, .invokevirtual 110, [244, 214, 2, 1], [0, 0, 13]),
  (174, .ireturn, [1], []),
  (175, .iconst 0, [], []),
  (176, .istore 6, [], []),
  (178, .iload 6, [], []),
  (180, .iload 5, [], []),
  (182, .if_icmp .ge 58, [135], []),
  (185, .iload_n 3, [], []),
  (186, .iload 4, [], []),
  (188, .if_icmp .ge 13, [111], []),
  (191, .iload 5, [], []),
  (193, .iconst 1, [], []),
  (194, .isub, [], []),
  (195, .iload 6, [], []),
  (197, .isub, [], []),
  (198, .goto 5, [112], []),
  (201, .iload 6, [], []),
  (203, .istore 7, [], []),
  (205, .aload_n 0, [], []),
  (206, .getfield 85, [81, 13, 3], [21, 320, 21]),
  (209, .bipush 40, [], []),
  (211, .iload_n 2, [], []),
  (212, .imul, [], []),
  (213, .iload 4, [], []),
  (215, .iadd, [], []),
  (216, .iload 7, [], []),
  (218, .iadd, [], []),
  (219, .aload_n 0, [], []),
  (220, .getfield 85, [81, 13, 3], [21, 320, 21]),
  (223, .bipush 40, [], []),
  (225, .iload_n 1, [], []),
  (226, .imul, [], []),
  (227, .iload_n 3, [], []),
  (228, .iadd, [], []),
  (229, .iload 7, [], []),
  (231, .iadd, [], []),
  (232, .laload, [], []),
  (233, .lastore, [], []),
  (234, .iinc 6 1, [], []),
  (237, .goto (-59), [99], []),
  (240, .iload 5, [], []),
  (242, .ireturn, [1], [])]
set_option maxRecDepth 100000 in
noncomputable def zc_X12_element : List (Nat × Jvm.ClassFile.Instr × List Nat × List Int) := [(0, .iload_n 1, [], []),
  (1, .invokestatic 438, [318, 307, 1, 4], [0, 0]),
  (4, .ifCond .eq 52, [33], []),
  (7, .aload_n 0, [], []),
  (8, .getfield 79, [79, 13, 3], [20, 8, 19]),
  (11, .iload_n 1, [], []),
  (12, .iaload, [], []),
  (13, .i2l, [], []),
  (14, .lconst 0, [], []),
  (15, .ldc2_w 279, [1555], [4]),
  (18, .invokestatic 119, [245, 213, 3, 4], [0, 0]),
  (21, .ifCond .eq 35, [33], []),
  (24, .iload_n 2, [], []),
  (25, .i2l, [], []),
  (26, .lconst 0, [], []),
  (27, .aload_n 0, [], []),
  (28, .getfield 82, [80, 13, 3], [20, 8, 20]),
  (31, .iload_n 1, [], []),
  (32, .iaload, [], []),
  (33, .iconst 1, [], []),
  (34, .isub, [], []),
  (35, .i2l, [], []),
  (36, .invokestatic 119, [245, 213, 3, 4], [0, 0]),
  (39, .ifCond .eq 17, [33], []),
  (42, .aload_n 0, [], []),
  (43, .getfield 85, [81, 13, 3], [21, 320, 21]),
  (46, .bipush 40, [], []),
  (48, .iload_n 1, [], []),
  (49, .imul, [], []),
  (50, .iload_n 2, [], []),
  (51, .iadd, [], []),
  (52, .laload, [], []),
  (53, .goto 4, [34], []),
  (56, .lconst 0, [], []),
  (57, .lreturn, [], [])]
set_option maxRecDepth 100000 in
noncomputable def zc_X12_holds : List (Nat × Jvm.ClassFile.Instr × List Nat × List Int) := [(0, .iload_n 1, [], []),
  (1, .invokestatic 438, [318, 307, 1, 4], [0, 0]),
  (4, .ifCond .eq 12, [8], []),
  (7, .aload_n 0, [], []),
  (8, .getfield 79, [79, 13, 3], [20, 8, 19]),
  (11, .iload_n 1, [], []),
  (12, .iaload, [], []),
  (13, .goto 4, [9], []),
  (16, .iconst (-1), [], []),
  (17, .ireturn, [1], [])]
set_option maxRecDepth 100000 in
noncomputable def zc_X12_show : List (Nat × Jvm.ClassFile.Instr × List Nat × List Int) := [(0, .iload_n 1, [], []),
  (1, .invokestatic 438, [318, 307, 1, 4], [0, 0]),
  (4, .ifCond .eq 16, [10], []),
  (7, .iload_n 2, [], []),
  (8, .iconst (-1), [], []),
  (9, .if_icmp .eq 18, [14], []),
  (12, .aload_n 0, [], []),
  (13, .iload_n 2, [], []),
  (14, .invokevirtual 175, [260, 218, 2, 4], [0, 0, 13]),
  (17, .ifCond .ne 10, [14], []),
  (20, .aload_n 0, [], []),
  (21, .bipush (-62), [], []),
  (23, .invokevirtual 110, [244, 214, 2, 1], [0, 0, 13]),
  (26, .ireturn, [1], []),
  (27, .aload_n 0, [], []),
  (28, .getfield 79, [79, 13, 3], [20, 8, 19]),
  (31, .iload_n 1, [], []),
  (32, .iload_n 2, [], []),
  (33, .iconst (-1), [], []),
  (34, .if_icmp .ne 7, [22], []),
  (37, .iconst (-1), [], []),
  (38, .goto 7, [25], []),
  (41, .bipush 10, [], []),
  (43, .iload_n 2, [], []),
  (44, .iadd, [], []),
  (45, .iastore, [], []),
  (46, .iconst 1, [], []),
  (47, .ireturn, [1], [])]
set_option maxRecDepth 100000 in
noncomputable def zc_X12_isUnder : List (Nat × Jvm.ClassFile.Instr × List Nat × List Int) := [(0, .iload_n 1, [], []),
  (1, .ifCond .eq 73, [38], []),
  (4, .iload_n 0, [], []),
  (5, .iload_n 1, [], []),
  (6, .if_icmp .eq 68, [38], []),
  (9, .iload_n 1, [], []),
  (10, .iconst 1, [], []),
  (11, .if_icmp .ne 8, [11], []),
  (14, .iload_n 0, [], []),
  (15, .iconst 5, [], []),
  (16, .if_icmp .le 58, [38], []),
  (19, .iload_n 1, [], []),
  (20, .iconst 2, [], []),
  (21, .if_icmp .ne 9, [17], []),
  (24, .iload_n 0, [], []),
  (25, .bipush 8, [], []),
  (27, .if_icmp .ge 47, [38], []),
  (30, .iload_n 1, [], []),
  (31, .bipush 6, [], []),
  (33, .if_icmp .ne 17, [26], []),
  (36, .iload_n 0, [], []),
  (37, .i2l, [], []),
  (38, .ldc2_w 360, [1680], [8]),
  (41, .ldc2_w 444, [1805], [11]),
  (44, .invokestatic 119, [245, 213, 3, 4], [0, 0]),
  (47, .ifCond .ne 27, [38], []),
  (50, .iload_n 1, [], []),
  (51, .bipush 7, [], []),
  (53, .if_icmp .ne 9, [32], []),
  (56, .iload_n 0, [], []),
  (57, .bipush 12, [], []),
  (59, .if_icmp .ge 15, [38], []),
  (62, .iload_n 1, [], []),
  (63, .bipush 16, [], []),
  (65, .if_icmp .ne 13, [40], []),
  (68, .iload_n 0, [], []),
  (69, .bipush 17, [], []),
  (71, .if_icmp .ne 7, [40], []),
  (74, .iconst 1, [], []),
  (75, .goto 4, [41], []),
  (78, .iconst 0, [], []),
  (79, .ireturn, [4], [])]
set_option maxRecDepth 100000 in
noncomputable def zc_X12_wholePlaces : List (Nat × Jvm.ClassFile.Instr × List Nat × List Int) := [(0, .iconst 1, [], []),
  (1, .istore_n 2, [], []),
  (2, .iconst 0, [], []),
  (3, .istore_n 3, [], []),
  (4, .iload_n 3, [], []),
  (5, .iconst 3, [], []),
  (6, .if_icmp .ge 29, [25], []),
  (9, .iload_n 2, [], []),
  (10, .aload_n 0, [], []),
  (11, .iload_n 1, [], []),
  (12, .iconst 3, [], []),
  (13, .iload_n 3, [], []),
  (14, .iadd, [], []),
  (15, .invokevirtual 127, [247, 217, 3, 1], [0, 0, 13]),
  (18, .aload_n 0, [], []),
  (19, .iload_n 1, [], []),
  (20, .iload_n 3, [], []),
  (21, .invokevirtual 127, [247, 217, 3, 1], [0, 0, 13]),
  (24, .isub, [], []),
  (25, .iconst 1, [], []),
  (26, .iadd, [], []),
  (27, .imul, [], []),
  (28, .istore_n 2, [], []),
  (29, .iinc 3 1, [], []),
  (32, .goto (-28), [4], []),
  (35, .iload_n 2, [], []),
  (36, .ireturn, [1], [])]
set_option maxRecDepth 100000 in
noncomputable def zc_X12_says : List (Nat × Jvm.ClassFile.Instr × List Nat × List Int) := [(0, .iload_n 1, [], []),
  (1, .invokestatic 438, [318, 307, 1, 4], [0, 0]),
  (4, .ifCond .eq 15, [9], []),
  (7, .iload_n 2, [], []),
  (8, .i2l, [], []),
  (9, .lconst 0, [], []),
  (10, .ldc2_w 366, [1699], [17]),
  (13, .invokestatic 119, [245, 213, 3, 4], [0, 0]),
  (16, .ifCond .ne 10, [13], []),
  (19, .aload_n 0, [], []),
  (20, .bipush (-62), [], []),
  (22, .invokevirtual 110, [244, 214, 2, 1], [0, 0, 13]),
  (25, .ireturn, [1], []),
  (26, .aload_n 0, [], []),
  (27, .getfield 79, [79, 13, 3], [20, 8, 19]),
  (30, .iload_n 1, [], []),
  (31, .iaload, [], []),
  (32, .i2l, [], []),
  (33, .lconst 0, [], []),
  (34, .ldc2_w 279, [1555], [4]),
  (37, .invokestatic 119, [245, 213, 3, 4], [0, 0]),
  (40, .ifCond .eq 10, [26], []),
  (43, .aload_n 0, [], []),
  (44, .bipush (-63), [], []),
  (46, .invokevirtual 110, [244, 214, 2, 1], [0, 0, 13]),
  (49, .ireturn, [1], []),
  (50, .aload_n 0, [], []),
  (51, .getfield 79, [79, 13, 3], [20, 8, 19]),
  (54, .iload_n 1, [], []),
  (55, .iaload, [], []),
  (56, .ifCond .ge 10, [35], []),
  (59, .aload_n 0, [], []),
  (60, .bipush (-64), [], []),
  (62, .invokevirtual 110, [244, 214, 2, 1], [0, 0, 13]),
  (65, .ireturn, [1], []),
  (66, .aload_n 0, [], []),
  (67, .getfield 79, [79, 13, 3], [20, 8, 19]),
  (70, .iload_n 1, [], []),
  (71, .iaload, [], []),
  (72, .bipush 10, [], []),
  (74, .isub, [], []),
  (75, .istore_n 3, [], []),
  (76, .aload_n 0, [], []),
  (77, .iload_n 3, [], []),
  (78, .iconst 0, [], []),
  (79, .invokevirtual 123, [246, 216, 3, 1], [0, 0, 13]),
  (82, .iload_n 2, [], []),
  (83, .invokestatic 446, [320, 315, 2, 4], [0, 0]),
  (86, .ifCond .eq 12, [54], []),
  (89, .aload_n 0, [], []),
  (90, .iload_n 3, [], []),
  (91, .iload_n 2, [], []),
  (92, .invokevirtual 449, [321, 318, 3, 1], [0, 0, 13]),
  (95, .goto 9, [57], []),
  (98, .aload_n 0, [], []),
  (99, .bipush (-63), [], []),
  (101, .invokevirtual 110, [244, 214, 2, 1], [0, 0, 13]),
  (104, .ireturn, [1], [])]
set_option maxRecDepth 100000 in
noncomputable def zc_X12_saysOf : List (Nat × Jvm.ClassFile.Instr × List Nat × List Int) := [(0, .aload_n 0, [], []),
  (1, .iload_n 1, [], []),
  (2, .iconst 1, [], []),
  (3, .invokevirtual 123, [246, 216, 3, 1], [0, 0, 13]),
  (6, .istore_n 3, [], []),
  (7, .aload_n 0, [], []),
  (8, .iload_n 1, [], []),
  (9, .iconst 2, [], []),
  (10, .invokevirtual 123, [246, 216, 3, 1], [0, 0, 13]),
  (13, .istore 4, [], []),
  (15, .iload_n 2, [], []),
  (16, .tableswitch 220 0 15 #[80, 87, 94, 96, 103, 96, 109, 112, 126, 126, 151, 159, 176, 197, 197, 204], [111, 12, 17, 22, 24, 29, 24, 33, 35, 45, 45, 62, 67, 79, 94, 94, 99], []),
  (96, .aload_n 0, [], []),
  (97, .iload_n 1, [], []),
  (98, .iconst 3, [], []),
  (99, .invokevirtual 123, [246, 216, 3, 1], [0, 0, 13]),
  (102, .ireturn, [1], []),
  (103, .aload_n 0, [], []),
  (104, .iconst 0, [], []),
  (105, .iload_n 1, [], []),
  (106, .invokevirtual 267, [285, 249, 3, 1], [0, 0, 13]),
  (109, .ireturn, [1], []),
  (110, .iload_n 3, [], []),
  (111, .ireturn, [1], []),
  (112, .aload_n 0, [], []),
  (113, .iload_n 1, [], []),
  (114, .iconst 3, [], []),
  (115, .invokevirtual 127, [247, 217, 3, 1], [0, 0, 13]),
  (118, .ireturn, [1], []),
  (119, .aload_n 0, [], []),
  (120, .iload_n 1, [], []),
  (121, .invokevirtual 452, [322, 316, 2, 1], [0, 0, 13]),
  (124, .ireturn, [1], []),
  (125, .iload 4, [], []),
  (127, .ireturn, [1], []),
  (128, .aload_n 0, [], []),
  (129, .iconst 0, [], []),
  (130, .iload_n 1, [], []),
  (131, .invokevirtual 267, [285, 249, 3, 1], [0, 0, 13]),
  (134, .aload_n 0, [], []),
  (135, .iconst 0, [], []),
  (136, .iload_n 3, [], []),
  (137, .invokevirtual 267, [285, 249, 3, 1], [0, 0, 13]),
  (140, .isub, [], []),
  (141, .ireturn, [1], []),
  (142, .aload_n 0, [], []),
  (143, .iconst 2, [], []),
  (144, .iload_n 3, [], []),
  (145, .invokevirtual 267, [285, 249, 3, 1], [0, 0, 13]),
  (148, .aload_n 0, [], []),
  (149, .iconst 3, [], []),
  (150, .iload 4, [], []),
  (152, .invokevirtual 267, [285, 249, 3, 1], [0, 0, 13]),
  (155, .iadd, [], []),
  (156, .iconst 2, [], []),
  (157, .aload_n 0, [], []),
  (158, .iload_n 3, [], []),
  (159, .iload 4, [], []),
  (161, .invokevirtual 293, [291, 264, 3, 1], [0, 0, 13]),
  (164, .imul, [], []),
  (165, .isub, [], []),
  (166, .ireturn, [1], []),
  (167, .aload_n 0, [], []),
  (168, .iload_n 3, [], []),
  (169, .iload 4, [], []),
  (171, .invokevirtual 293, [291, 264, 3, 1], [0, 0, 13]),
  (174, .ireturn, [1], []),
  (175, .bipush 10, [], []),
  (177, .aload_n 0, [], []),
  (178, .iload_n 1, [], []),
  (179, .iconst 0, [], []),
  (180, .invokevirtual 127, [247, 217, 3, 1], [0, 0, 13]),
  (183, .imul, [], []),
  (184, .aload_n 0, [], []),
  (185, .iload_n 1, [], []),
  (186, .iconst 1, [], []),
  (187, .invokevirtual 127, [247, 217, 3, 1], [0, 0, 13]),
  (190, .iadd, [], []),
  (191, .ireturn, [1], []),
  (192, .aload_n 0, [], []),
  (193, .iload_n 1, [], []),
  (194, .iconst 0, [], []),
  (195, .invokevirtual 127, [247, 217, 3, 1], [0, 0, 13]),
  (198, .aload_n 0, [], []),
  (199, .iload_n 1, [], []),
  (200, .iconst 1, [], []),
  (201, .invokevirtual 127, [247, 217, 3, 1], [0, 0, 13]),
  (204, .iadd, [], []),
  (205, .aload_n 0, [], []),
  (206, .iload_n 1, [], []),
  (207, .iconst 2, [], []),
  (208, .invokevirtual 127, [247, 217, 3, 1], [0, 0, 13]),
  (211, .iadd, [], []),
  (212, .ireturn, [1], []),
  (213, .aload_n 0, [], []),
  (214, .iload_n 1, [], []),
  (215, .iconst 1, [], []),
  (216, .invokevirtual 127, [247, 217, 3, 1], [0, 0, 13]),
  (219, .ireturn, [1], []),
  (220, .iconst 3, [], []),
  (221, .aload_n 0, [], []),
  (222, .iload_n 1, [], []),
  (223, .iconst 0, [], []),
  (224, .invokevirtual 127, [247, 217, 3, 1], [0, 0, 13]),
  (227, .isub, [], []),
  (228, .aload_n 0, [], []),
  (229, .iload_n 1, [], []),
  (230, .iconst 1, [], []),
  (231, .invokevirtual 127, [247, 217, 3, 1], [0, 0, 13]),
  (234, .isub, [], []),
  (235, .ireturn, [1], []),
  (236, .aload_n 0, [], []),
  (237, .iload_n 1, [], []),
  (238, .iconst 0, [], []),
  (239, .invokevirtual 127, [247, 217, 3, 1], [0, 0, 13]),
  (242, .ireturn, [1], [])]
set_option maxRecDepth 100000 in
noncomputable def zc_X12_isTold : List (Nat × Jvm.ClassFile.Instr × List Nat × List Int) := [(0, .aload_n 0, [], []),
  (1, .getfield 79, [79, 13, 3], [20, 8, 19]),
  (4, .iload_n 1, [], []),
  (5, .iaload, [], []),
  (6, .iconst 4, [], []),
  (7, .if_icmp .le 6, [8], []),
  (10, .bipush (-63), [], []),
  (12, .ireturn, [1], []),
  (13, .aload_n 0, [], []),
  (14, .getfield 79, [79, 13, 3], [20, 8, 19]),
  (17, .iload_n 1, [], []),
  (18, .iaload, [], []),
  (19, .ifCond .ge 6, [15], []),
  (22, .bipush (-64), [], []),
  (24, .ireturn, [1], []),
  (25, .iconst 2, [], []),
  (26, .iload_n 2, [], []),
  (27, .imul, [], []),
  (28, .aload_n 0, [], []),
  (29, .getfield 82, [80, 13, 3], [20, 8, 20]),
  (32, .iload_n 1, [], []),
  (33, .iaload, [], []),
  (34, .if_icmp .le 6, [25], []),
  (37, .bipush (-62), [], []),
  (39, .ireturn, [1], []),
  (40, .iconst 0, [], []),
  (41, .istore_n 3, [], []),
  (42, .iload_n 3, [], []),
  (43, .iload_n 2, [], []),
  (44, .if_icmp .ge 58, [64], []),
  (47, .aload_n 0, [], []),
  (48, .getfield 85, [81, 13, 3], [21, 320, 21]),
  (51, .bipush 40, [], []),
  (53, .iload_n 1, [], []),
  (54, .imul, [], []),
  (55, .iconst 2, [], []),
  (56, .iload_n 3, [], []),
  (57, .imul, [], []),
  (58, .iadd, [], []),
  (59, .laload, [], []),
  (60, .lconst 0, [], []),
  (61, .ldc2_w 243, [1449], [4095]),
  (64, .invokestatic 119, [245, 213, 3, 4], [0, 0]),
  (67, .ifCond .eq 26, [60], []),
  (70, .aload_n 0, [], []),
  (71, .getfield 85, [81, 13, 3], [21, 320, 21]),
  (74, .bipush 40, [], []),
  (76, .iload_n 1, [], []),
  (77, .imul, [], []),
  (78, .iconst 2, [], []),
  (79, .iload_n 3, [], []),
  (80, .imul, [], []),
  (81, .iadd, [], []),
  (82, .iconst 1, [], []),
  (83, .iadd, [], []),
  (84, .laload, [], []),
  (85, .lconst 0, [], []),
  (86, .lconst 1, [], []),
  (87, .invokestatic 119, [245, 213, 3, 4], [0, 0]),
  (90, .ifCond .ne 6, [62], []),
  (93, .bipush (-65), [], []),
  (95, .ireturn, [1], []),
  (96, .iinc 3 1, [], []),
  (99, .goto (-57), [27], []),
  (102, .iconst 0, [], []),
  (103, .ireturn, [1], [])]
set_option maxRecDepth 100000 in
noncomputable def zc_X12_isPaired : List (Nat × Jvm.ClassFile.Instr × List Nat × List Int) := [(0, .aload_n 0, [], []),
  (1, .iload_n 2, [], []),
  (2, .iload 4, [], []),
  (4, .invokestatic 248, [280, 243, 1, 1], [0, 0]),
  (7, .iload 4, [], []),
  (9, .invokestatic 251, [281, 244, 1, 1], [0, 0]),
  (12, .iload 4, [], []),
  (14, .invokestatic 254, [282, 245, 1, 1], [0, 0]),
  (17, .invokevirtual 142, [250, 219, 5, 2], [0, 0, 13]),
  (20, .lstore 5, [], []),
  (22, .aload_n 0, [], []),
  (23, .iload_n 3, [], []),
  (24, .iload 4, [], []),
  (26, .invokestatic 248, [280, 243, 1, 1], [0, 0]),
  (29, .iload 4, [], []),
  (31, .invokestatic 251, [281, 244, 1, 1], [0, 0]),
  (34, .iload 4, [], []),
  (36, .invokestatic 254, [282, 245, 1, 1], [0, 0]),
  (39, .invokevirtual 142, [250, 219, 5, 2], [0, 0, 13]),
  (42, .lstore 7, [], []),
  (44, .iload_n 1, [], []),
  (45, .bipush 8, [], []),
  (47, .if_icmp .ne 25, [35], []),
  (50, .lload 5, [], []),
  (52, .lconst 0, [], []),
  (53, .lcmp, [], []),
  (54, .ifCond .le 10, [31], []),
  (57, .lload 7, [], []),
  (59, .lconst 0, [], []),
  (60, .lcmp, [], []),
  (61, .ifCond .gt 7, [33], []),
  (64, .iconst 1, [], []),
  (65, .goto 54, [61], []),
  (68, .iconst 0, [], []),
  (69, .goto 50, [61], []),
  (72, .iload_n 1, [], []),
  (73, .bipush 9, [], []),
  (75, .if_icmp .ne 25, [50], []),
  (78, .lload 5, [], []),
  (80, .lconst 0, [], []),
  (81, .lcmp, [], []),
  (82, .ifCond .gt 14, [48], []),
  (85, .lload 7, [], []),
  (87, .lconst 0, [], []),
  (88, .lcmp, [], []),
  (89, .ifCond .gt 7, [48], []),
  (92, .iconst 1, [], []),
  (93, .goto 26, [61], []),
  (96, .iconst 0, [], []),
  (97, .goto 22, [61], []),
  (100, .lload 5, [], []),
  (102, .lconst 0, [], []),
  (103, .lcmp, [], []),
  (104, .ifCond .gt 14, [60], []),
  (107, .lload 7, [], []),
  (109, .lconst 0, [], []),
  (110, .lcmp, [], []),
  (111, .ifCond .lt 7, [60], []),
  (114, .iconst 1, [], []),
  (115, .goto 4, [61], []),
  (118, .iconst 0, [], []),
  (119, .ireturn, [4], [])]
set_option maxRecDepth 100000 in
noncomputable def zc_X12_kinds : List (Nat × Jvm.ClassFile.Instr × List Nat × List Int) := [(0, .aload_n 0, [], []),
  (1, .iload_n 1, [], []),
  (2, .invokevirtual 175, [260, 218, 2, 4], [0, 0, 13]),
  (5, .ifCond .eq 31, [17], []),
  (8, .aload_n 0, [], []),
  (9, .iload_n 2, [], []),
  (10, .invokevirtual 175, [260, 218, 2, 4], [0, 0, 13]),
  (13, .ifCond .eq 23, [17], []),
  (16, .iload_n 3, [], []),
  (17, .invokestatic 438, [318, 307, 1, 4], [0, 0]),
  (20, .ifCond .eq 16, [17], []),
  (23, .iload 4, [], []),
  (25, .i2l, [], []),
  (26, .lconst 0, [], []),
  (27, .ldc2_w 455, [1818], [20]),
  (30, .invokestatic 119, [245, 213, 3, 4], [0, 0]),
  (33, .ifCond .ne 10, [21], []),
  (36, .aload_n 0, [], []),
  (37, .bipush (-62), [], []),
  (39, .invokevirtual 110, [244, 214, 2, 1], [0, 0, 13]),
  (42, .ireturn, [1], []),
  (43, .aload_n 0, [], []),
  (44, .iload_n 3, [], []),
  (45, .iload 4, [], []),
  (47, .invokevirtual 457, [323, 319, 3, 1], [0, 0, 13]),
  (50, .istore 5, [], []),
  (52, .iload 5, [], []),
  (54, .ifCond .ge 10, [32], []),
  (57, .aload_n 0, [], []),
  (58, .iload 5, [], []),
  (60, .invokevirtual 110, [244, 214, 2, 1], [0, 0, 13]),
  (63, .ireturn, [1], []),
  (64, .iconst 0, [], []),
  (65, .istore 6, [], []),
  (67, .bipush 8, [], []),
  (69, .istore 7, [], []),
  (71, .iload 7, [], []),
  (73, .bipush 10, [], []),
  (75, .if_icmp .gt 108, [101], []),
  (78, .iconst 1, [], []),
  (79, .istore 8, [], []),
  (81, .iconst 0, [], []),
  (82, .istore 9, [], []),
  (84, .iload 9, [], []),
  (86, .iload 4, [], []),
  (88, .if_icmp .ge 71, [89], []),
  (91, .iload 8, [], []),
  (93, .aload_n 0, [], []),
  (94, .iload 7, [], []),
  (96, .iload_n 1, [], []),
  (97, .iload_n 2, [], []),
  (98, .aload_n 0, [], []),
  (99, .getfield 85, [81, 13, 3], [21, 320, 21]),
  (102, .bipush 40, [], []),
  (104, .iload_n 3, [], []),
  (105, .imul, [], []),
  (106, .iconst 2, [], []),
  (107, .iload 9, [], []),
  (109, .imul, [], []),
  (110, .iadd, [], []),
  (111, .laload, [], []),
  (112, .l2i, [], []),
  (113, .invokevirtual 460, [324, 320, 5, 4], [0, 0, 13]),
  (116, .aload_n 0, [], []),
  (117, .getfield 85, [81, 13, 3], [21, 320, 21]),
  (120, .bipush 40, [], []),
  (122, .iload_n 3, [], []),
  (123, .imul, [], []),
  (124, .iconst 2, [], []),
  (125, .iload 9, [], []),
  (127, .imul, [], []),
  (128, .iadd, [], []),
  (129, .iconst 1, [], []),
  (130, .iadd, [], []),
  (131, .laload, [], []),
  (132, .lconst 1, [], []),
  (133, .lcmp, [], []),
  (134, .ifCond .ne 7, [80], []),
  (137, .iconst 1, [], []),
  (138, .goto 4, [81], []),
  (141, .iconst 0, [], []),
  (142, .if_icmp .ne 7, [84], []),
  (145, .iconst 1, [], []),
  (146, .goto 4, [85], []),
  (149, .iconst 0, [], []),
  (150, .iand, [], []),
  (151, .istore 8, [], []),
  (153, .iinc 9 1, [], []),
  (156, .goto (-72), [43], []),
  (159, .iload 6, [], []),
  (161, .iload 8, [], []),
  (163, .ifCond .eq 10, [96], []),
  (166, .iconst 1, [], []),
  (167, .iload 7, [], []),
  (169, .ishl, [], []),
  (170, .goto 4, [97], []),
  (173, .iconst 0, [], []),
  (174, .ior, [], []),
  (175, .istore 6, [], []),
  (177, .iinc 7 1, [], []),
  (180, .goto (-109), [36], []),
  (183, .iload 6, [], []),
  (185, .ireturn, [1], [])]
set_option maxRecDepth 100000 in
noncomputable def zc_X12_judge : List (Nat × Jvm.ClassFile.Instr × List Nat × List Int) := [(0, .aload_n 0, [], []),
  (1, .iload_n 1, [], []),
  (2, .invokevirtual 175, [260, 218, 2, 4], [0, 0, 13]),
  (5, .ifCond .eq 22, [13], []),
  (8, .iload_n 2, [], []),
  (9, .invokestatic 438, [318, 307, 1, 4], [0, 0]),
  (12, .ifCond .eq 15, [13], []),
  (15, .iload_n 3, [], []),
  (16, .i2l, [], []),
  (17, .lconst 0, [], []),
  (18, .ldc2_w 455, [1818], [20]),
  (21, .invokestatic 119, [245, 213, 3, 4], [0, 0]),
  (24, .ifCond .ne 10, [17], []),
  (27, .aload_n 0, [], []),
  (28, .bipush (-62), [], []),
  (30, .invokevirtual 110, [244, 214, 2, 1], [0, 0, 13]),
  (33, .ireturn, [1], []),
  (34, .aload_n 0, [], []),
  (35, .iload_n 2, [], []),
  (36, .iload_n 3, [], []),
  (37, .invokevirtual 457, [323, 319, 3, 1], [0, 0, 13]),
  (40, .istore 4, [], []),
  (42, .iload 4, [], []),
  (44, .ifCond .ge 10, [28], []),
  (47, .aload_n 0, [], []),
  (48, .iload 4, [], []),
  (50, .invokevirtual 110, [244, 214, 2, 1], [0, 0, 13]),
  (53, .ireturn, [1], []),
  (54, .iconst 0, [], []),
  (55, .istore 5, [], []),
  (57, .iload 5, [], []),
  (59, .iload_n 3, [], []),
  (60, .if_icmp .ge 61, [70], []),
  (63, .aload_n 0, [], []),
  (64, .iload_n 1, [], []),
  (65, .aload_n 0, [], []),
  (66, .getfield 85, [81, 13, 3], [21, 320, 21]),
  (69, .bipush 40, [], []),
  (71, .iload_n 2, [], []),
  (72, .imul, [], []),
  (73, .iconst 2, [], []),
  (74, .iload 5, [], []),
  (76, .imul, [], []),
  (77, .iadd, [], []),
  (78, .laload, [], []),
  (79, .l2i, [], []),
  (80, .invokevirtual 259, [283, 248, 3, 4], [0, 0, 13]),
  (83, .aload_n 0, [], []),
  (84, .getfield 85, [81, 13, 3], [21, 320, 21]),
  (87, .bipush 40, [], []),
  (89, .iload_n 2, [], []),
  (90, .imul, [], []),
  (91, .iconst 2, [], []),
  (92, .iload 5, [], []),
  (94, .imul, [], []),
  (95, .iadd, [], []),
  (96, .iconst 1, [], []),
  (97, .iadd, [], []),
  (98, .laload, [], []),
  (99, .lconst 1, [], []),
  (100, .lcmp, [], []),
  (101, .ifCond .ne 7, [64], []),
  (104, .iconst 1, [], []),
  (105, .goto 4, [65], []),
  (108, .iconst 0, [], []),
  (109, .if_icmp .eq 6, [68], []),
  (112, .iload 5, [], []),
  (114, .ireturn, [1], []),
  (115, .iinc 5 1, [], []),
  (118, .goto (-61), [30], []),
  (121, .iconst (-1), [], []),
  (122, .ireturn, [1], [])]
set_option maxRecDepth 100000 in
noncomputable def zc_X12_carves : List (Nat × Jvm.ClassFile.Instr × List Nat × List Int) := [(0, .aload_n 0, [], []),
  (1, .getfield 463, [96, 13, 1], [0, 0, 24]),
  (4, .bipush 12, [], []),
  (6, .if_icmp .ne 52, [34], []),
  (9, .aload_n 0, [], []),
  (10, .getfield 91, [83, 13, 3], [33, 12, 23]),
  (13, .iconst 0, [], []),
  (14, .aaload, [], []),
  (15, .astore_n 2, [], []),
  (16, .iconst 1, [], []),
  (17, .istore_n 3, [], []),
  (18, .iload_n 3, [], []),
  (19, .bipush 12, [], []),
  (21, .if_icmp .ge 23, [26], []),
  (24, .aload_n 0, [], []),
  (25, .getfield 91, [83, 13, 3], [33, 12, 23]),
  (28, .iload_n 3, [], []),
  (29, .iconst 1, [], []),
  (30, .isub, [], []),
  (31, .aload_n 0, [], []),
  (32, .getfield 91, [83, 13, 3], [33, 12, 23]),
  (35, .iload_n 3, [], []),
  (36, .aaload, [], []),
  (37, .aastore, [], []),
  (38, .iinc 3 1, [], []),
  (41, .goto (-23), [11], []),
  (44, .aload_n 0, [], []),
  (45, .getfield 91, [83, 13, 3], [33, 12, 23]),
  (48, .bipush 11, [], []),
  (50, .aload_n 2, [], []),
  (51, .aastore, [], []),
  (52, .aload_n 0, [], []),
  (53, .bipush 11, [], []),
  (55, .putfield 463, [96, 13, 1], [0, 0, 24]),
  (58, .iconst 0, [], []),
  (59, .istore_n 2, [], []),
  (60, .iconst 0, [], []),
  (61, .istore_n 3, [], []),
  (62, .iload_n 3, [], []),
  (63, .sipush 4096, [], []),
  (66, .if_icmp .ge 171, [134], []),
  (69, .aload_n 0, [], []),
  (70, .getfield 25, [71, 13, 3], [32, 4, 5]),
  (73, .iconst 0, [], []),
  (74, .aaload, [], []),
  (75, .iload_n 3, [], []),
  (76, .baload, [], []),
  (77, .istore 4, [], []),
  (79, .iload_n 1, [], []),
  (80, .ifCond .ne 25, [61], []),
  (83, .aload_n 0, [], []),
  (84, .getfield 88, [82, 13, 3], [22, 4096, 22]),
  (87, .iload_n 3, [], []),
  (88, .baload, [], []),
  (89, .ifCond .ne 8, [57], []),
  (92, .iload 4, [], []),
  (94, .ifCond .eq 7, [59], []),
  (97, .iconst 1, [], []),
  (98, .goto 77, [98], []),
  (101, .iconst 0, [], []),
  (102, .goto 73, [98], []),
  (105, .iload_n 1, [], []),
  (106, .iconst 1, [], []),
  (107, .if_icmp .ne 25, [75], []),
  (110, .aload_n 0, [], []),
  (111, .getfield 88, [82, 13, 3], [22, 4096, 22]),
  (114, .iload_n 3, [], []),
  (115, .baload, [], []),
  (116, .ifCond .eq 12, [73], []),
  (119, .iload 4, [], []),
  (121, .ifCond .ne 7, [73], []),
  (124, .iconst 1, [], []),
  (125, .goto 50, [98], []),
  (128, .iconst 0, [], []),
  (129, .goto 46, [98], []),
  (132, .iload_n 1, [], []),
  (133, .iconst 2, [], []),
  (134, .if_icmp .ne 25, [89], []),
  (137, .aload_n 0, [], []),
  (138, .getfield 88, [82, 13, 3], [22, 4096, 22]),
  (141, .iload_n 3, [], []),
  (142, .baload, [], []),
  (143, .ifCond .eq 12, [87], []),
  (146, .iload 4, [], []),
  (148, .ifCond .eq 7, [87], []),
  (151, .iconst 1, [], []),
  (152, .goto 23, [98], []),
  (155, .iconst 0, [], []),
  (156, .goto 19, [98], []),
  (159, .aload_n 0, [], []),
  (160, .getfield 88, [82, 13, 3], [22, 4096, 22]),
  (163, .iload_n 3, [], []),
  (164, .baload, [], []),
  (165, .iload 4, [], []),
  (167, .if_icmp .eq 7, [97], []),
  (170, .iconst 1, [], []),
  (171, .goto 4, [98], []),
  (174, .iconst 0, [], []),
  (175, .istore 5, [], []),
  (177, .aload_n 0, [], []),
  (178, .getfield 91, [83, 13, 3], [33, 12, 23]),
  (181, .aload_n 0, [], []),
  (182, .getfield 463, [96, 13, 1], [0, 0, 24]),
  (185, .aaload, [], []),
  (186, .iload_n 3, [], []),
  (187, .iload 5, [], []),
  (189, .aload_n 0, [], []),
  (190, .getfield 88, [82, 13, 3], [22, 4096, 22]),
  (193, .iload_n 3, [], []),
  (194, .baload, [], []),
  (195, .if_icmp .eq 7, [113], []),
  (198, .iconst 1, [], []),
  (199, .goto 4, [114], []),
  (202, .iconst 0, [], []),
  (203, .bastore, [], []),
  (204, .iload_n 2, [], []),
  (205, .iload 5, [], []),
  (207, .aload_n 0, [], []),
  (208, .getfield 88, [82, 13, 3], [22, 4096, 22]),
  (211, .iload_n 3, [], []),
  (212, .baload, [], []),
  (213, .if_icmp .eq 7, [124], []),
  (216, .iconst 1, [], []),
  (217, .goto 4, [125], []),
  (220, .iconst 0, [], []),
  (221, .iadd, [], []),
  (222, .istore_n 2, [], []),
  (223, .aload_n 0, [], []),
  (224, .getfield 88, [82, 13, 3], [22, 4096, 22]),
  (227, .iload_n 3, [], []),
  (228, .iload 5, [], []),
  (230, .bastore, [], []),
  (231, .iinc 3 1, [], []),
  (234, .goto (-172), [38], []),
  (237, .aload_n 0, [], []),
  (238, .dup, [], []),
  (239, .getfield 463, [96, 13, 1], [0, 0, 24]),
  (242, .iconst 1, [], []),
  (243, .iadd, [], []),
  (244, .putfield 463, [96, 13, 1], [0, 0, 24]),
  (247, .aload_n 0, [], []),
  (248, .dup, [], []),
  (249, .getfield 466, [97, 13, 1], [0, 0, 25]),
  (252, .iconst 1, [], []),
  (253, .iadd, [], []),
  (254, .putfield 466, [97, 13, 1], [0, 0, 25]),
  (257, .iload_n 2, [], []),
  (258, .ireturn, [1], [])]
set_option maxRecDepth 100000 in
noncomputable def zc_X12_carve : List (Nat × Jvm.ClassFile.Instr × List Nat × List Int) := [(0, .aload_n 0, [], []),
  (1, .iload_n 1, [], []),
  (2, .invokevirtual 175, [260, 218, 2, 4], [0, 0, 13]),
  (5, .ifCond .eq 15, [10], []),
  (8, .iload_n 2, [], []),
  (9, .i2l, [], []),
  (10, .lconst 0, [], []),
  (11, .ldc2_w 257, [1459], [3]),
  (14, .invokestatic 119, [245, 213, 3, 4], [0, 0]),
  (17, .ifCond .ne 10, [14], []),
  (20, .aload_n 0, [], []),
  (21, .bipush (-62), [], []),
  (23, .invokevirtual 110, [244, 214, 2, 1], [0, 0, 13]),
  (26, .ireturn, [1], []),
  (27, .aload_n 0, [], []),
  (28, .iconst 0, [], []),
  (29, .iload_n 1, [], []),
  (30, .invokevirtual 267, [285, 249, 3, 1], [0, 0, 13]),
  (33, .istore_n 3, [], []),
  (34, .aload_n 0, [], []),
  (35, .iload_n 2, [], []),
  (36, .invokevirtual 469, [325, 323, 2, 1], [0, 0, 13]),
  (39, .ireturn, [1], [])]
set_option maxRecDepth 100000 in
noncomputable def zc_X12_undo : List (Nat × Jvm.ClassFile.Instr × List Nat × List Int) := [(0, .aload_n 0, [], []),
  (1, .getfield 463, [96, 13, 1], [0, 0, 24]),
  (4, .ifCond .ne 10, [7], []),
  (7, .aload_n 0, [], []),
  (8, .bipush (-65), [], []),
  (10, .invokevirtual 110, [244, 214, 2, 1], [0, 0, 13]),
  (13, .ireturn, [1], []),
  (14, .aload_n 0, [], []),
  (15, .dup, [], []),
  (16, .getfield 463, [96, 13, 1], [0, 0, 24]),
  (19, .iconst 1, [], []),
  (20, .isub, [], []),
  (21, .putfield 463, [96, 13, 1], [0, 0, 24]),
  (24, .iconst 0, [], []),
  (25, .istore_n 1, [], []),
  (26, .iload_n 1, [], []),
  (27, .sipush 4096, [], []),
  (30, .if_icmp .ge 29, [34], []),
  (33, .aload_n 0, [], []),
  (34, .getfield 88, [82, 13, 3], [22, 4096, 22]),
  (37, .iload_n 1, [], []),
  (38, .dup2, [], []),
  (39, .baload, [], []),
  (40, .aload_n 0, [], []),
  (41, .getfield 91, [83, 13, 3], [33, 12, 23]),
  (44, .aload_n 0, [], []),
  (45, .getfield 463, [96, 13, 1], [0, 0, 24]),
  (48, .aaload, [], []),
  (49, .iload_n 1, [], []),
  (50, .baload, [], []),
  (51, .ixor, [], []),
  (52, .bastore, [], []),
  (53, .iinc 1 1, [], []),
  (56, .goto (-30), [15], []),
  (59, .aload_n 0, [], []),
  (60, .getfield 463, [96, 13, 1], [0, 0, 24]),
  (63, .ireturn, [1], [])]
set_option maxRecDepth 100000 in
noncomputable def zc_X12_blockMany : List (Nat × Jvm.ClassFile.Instr × List Nat × List Int) := [(0, .iconst 0, [], []),
  (1, .istore_n 1, [], []),
  (2, .iconst 0, [], []),
  (3, .istore_n 2, [], []),
  (4, .iload_n 2, [], []),
  (5, .sipush 4096, [], []),
  (8, .if_icmp .ge 40, [30], []),
  (11, .aload_n 0, [], []),
  (12, .getfield 25, [71, 13, 3], [32, 4, 5]),
  (15, .iconst 1, [], []),
  (16, .aaload, [], []),
  (17, .iload_n 2, [], []),
  (18, .aload_n 0, [], []),
  (19, .getfield 88, [82, 13, 3], [22, 4096, 22]),
  (22, .iload_n 2, [], []),
  (23, .baload, [], []),
  (24, .bastore, [], []),
  (25, .iload_n 1, [], []),
  (26, .aload_n 0, [], []),
  (27, .getfield 88, [82, 13, 3], [22, 4096, 22]),
  (30, .iload_n 2, [], []),
  (31, .baload, [], []),
  (32, .ifCond .eq 7, [25], []),
  (35, .iconst 1, [], []),
  (36, .goto 4, [26], []),
  (39, .iconst 0, [], []),
  (40, .iadd, [], []),
  (41, .istore_n 1, [], []),
  (42, .iinc 2 1, [], []),
  (45, .goto (-41), [4], []),
  (48, .iload_n 1, [], []),
  (49, .ireturn, [1], [])]
set_option maxRecDepth 100000 in
noncomputable def zc_X12_block : List (Nat × Jvm.ClassFile.Instr × List Nat × List Int) := [(0, .iload_n 1, [], []),
  (1, .i2l, [], []),
  (2, .lconst 0, [], []),
  (3, .ldc2_w 270, [1541], [2]),
  (6, .invokestatic 119, [245, 213, 3, 4], [0, 0]),
  (9, .ifCond .ne 10, [10], []),
  (12, .aload_n 0, [], []),
  (13, .bipush (-62), [], []),
  (15, .invokevirtual 110, [244, 214, 2, 1], [0, 0, 13]),
  (18, .ireturn, [1], []),
  (19, .aload_n 0, [], []),
  (20, .invokevirtual 472, [326, 326, 1, 1], [0, 0, 13]),
  (23, .istore_n 2, [], []),
  (24, .iload_n 1, [], []),
  (25, .ifCond .ne 7, [17], []),
  (28, .iload_n 2, [], []),
  (29, .goto 22, [28], []),
  (32, .iload_n 1, [], []),
  (33, .iconst 1, [], []),
  (34, .if_icmp .ne 11, [24], []),
  (37, .aload_n 0, [], []),
  (38, .iconst 1, [], []),
  (39, .invokevirtual 287, [289, 259, 2, 1], [0, 0, 13]),
  (42, .goto 9, [28], []),
  (45, .aload_n 0, [], []),
  (46, .iconst 1, [], []),
  (47, .iconst 0, [], []),
  (48, .invokevirtual 290, [290, 261, 3, 1], [0, 0, 13]),
  (51, .ireturn, [1], [])]
set_option maxRecDepth 100000 in
noncomputable def zc_X12_has : List (Nat × Jvm.ClassFile.Instr × List Nat × List Int) := [(0, .iload_n 1, [], []),
  (1, .invokestatic 245, [279, 246, 1, 4], [0, 0]),
  (4, .ifCond .ne 10, [7], []),
  (7, .aload_n 0, [], []),
  (8, .bipush (-62), [], []),
  (10, .invokevirtual 110, [244, 214, 2, 1], [0, 0, 13]),
  (13, .ireturn, [1], []),
  (14, .aload_n 0, [], []),
  (15, .getfield 88, [82, 13, 3], [22, 4096, 22]),
  (18, .iload_n 1, [], []),
  (19, .baload, [], []),
  (20, .ifCond .eq 7, [14], []),
  (23, .iconst 1, [], []),
  (24, .goto 4, [15], []),
  (27, .iconst 0, [], []),
  (28, .ireturn, [1], [])]
set_option maxRecDepth 100000 in
noncomputable def zc_X12_off : List (Nat × Jvm.ClassFile.Instr × List Nat × List Int) := [(0, .aload_n 0, [], []),
  (1, .iload_n 1, [], []),
  (2, .invokevirtual 175, [260, 218, 2, 4], [0, 0, 13]),
  (5, .ifCond .ne 10, [8], []),
  (8, .aload_n 0, [], []),
  (9, .bipush (-62), [], []),
  (11, .invokevirtual 110, [244, 214, 2, 1], [0, 0, 13]),
  (14, .ireturn, [1], []),
  (15, .iconst 0, [], []),
  (16, .istore_n 2, [], []),
  (17, .iconst 0, [], []),
  (18, .istore_n 3, [], []),
  (19, .iload_n 3, [], []),
  (20, .sipush 4096, [], []),
  (23, .if_icmp .ge 32, [32], []),
  (26, .iload_n 2, [], []),
  (27, .aload_n 0, [], []),
  (28, .getfield 88, [82, 13, 3], [22, 4096, 22]),
  (31, .iload_n 3, [], []),
  (32, .baload, [], []),
  (33, .aload_n 0, [], []),
  (34, .iload_n 1, [], []),
  (35, .iload_n 3, [], []),
  (36, .invokevirtual 259, [283, 248, 3, 4], [0, 0, 13]),
  (39, .if_icmp .eq 7, [27], []),
  (42, .iconst 1, [], []),
  (43, .goto 4, [28], []),
  (46, .iconst 0, [], []),
  (47, .iadd, [], []),
  (48, .istore_n 2, [], []),
  (49, .iinc 3 1, [], []),
  (52, .goto (-33), [12], []),
  (55, .iload_n 2, [], []),
  (56, .ireturn, [1], [])]
set_option maxRecDepth 100000 in
noncomputable def zc_X12_draw : List (Nat × Jvm.ClassFile.Instr × List Nat × List Int) := [(0, .aload_n 0, [], []),
  (1, .aload_n 0, [], []),
  (2, .getfield 94, [84, 13, 1], [0, 0, 26]),
  (5, .ldc_w 475, [1868, 0], [1103515245]),
  (8, .imul, [], []),
  (9, .sipush 12345, [], []),
  (12, .iadd, [], []),
  (13, .putfield 94, [84, 13, 1], [0, 0, 26]),
  (16, .aload_n 0, [], []),
  (17, .getfield 94, [84, 13, 1], [0, 0, 26]),
  (20, .bipush 16, [], []),
  (22, .iushr, [], []),
  (23, .iload_n 1, [], []),
  (24, .irem, [], []),
  (25, .ireturn, [1], [])]
set_option maxRecDepth 100000 in
noncomputable def zc_X12_days : List (Nat × Jvm.ClassFile.Instr × List Nat × List Int) := [(0, .iload_n 1, [], []),
  (1, .i2l, [], []),
  (2, .lconst 1, [], []),
  (3, .ldc2_w 476, [1863], [60]),
  (6, .invokestatic 119, [245, 213, 3, 4], [0, 0]),
  (9, .ifCond .ne 10, [10], []),
  (12, .aload_n 0, [], []),
  (13, .bipush (-62), [], []),
  (15, .invokevirtual 110, [244, 214, 2, 1], [0, 0, 13]),
  (18, .ireturn, [1], []),
  (19, .iconst 0, [], []),
  (20, .istore_n 2, [], []),
  (21, .iload_n 2, [], []),
  (22, .iload_n 1, [], []),
  (23, .if_icmp .ge 136, [85], []),
  (26, .aload_n 0, [], []),
  (27, .bipush 16, [], []),
  (29, .invokevirtual 478, [327, 330, 2, 1], [0, 0, 13]),
  (32, .istore_n 3, [], []),
  (33, .aload_n 0, [], []),
  (34, .bipush 16, [], []),
  (36, .invokevirtual 478, [327, 330, 2, 1], [0, 0, 13]),
  (39, .istore 4, [], []),
  (41, .aload_n 0, [], []),
  (42, .bipush 16, [], []),
  (44, .invokevirtual 478, [327, 330, 2, 1], [0, 0, 13]),
  (47, .istore 5, [], []),
  (49, .aload_n 0, [], []),
  (50, .bipush 6, [], []),
  (52, .invokevirtual 478, [327, 330, 2, 1], [0, 0, 13]),
  (55, .istore 6, [], []),
  (57, .iconst 0, [], []),
  (58, .istore 7, [], []),
  (60, .iload 7, [], []),
  (62, .sipush 4096, [], []),
  (65, .if_icmp .ge 77, [77], []),
  (68, .iload 7, [], []),
  (70, .invokestatic 248, [280, 243, 1, 1], [0, 0]),
  (73, .iload_n 3, [], []),
  (74, .isub, [], []),
  (75, .istore 8, [], []),
  (77, .iload 7, [], []),
  (79, .invokestatic 251, [281, 244, 1, 1], [0, 0]),
  (82, .iload 4, [], []),
  (84, .isub, [], []),
  (85, .istore 9, [], []),
  (87, .iload 7, [], []),
  (89, .invokestatic 254, [282, 245, 1, 1], [0, 0]),
  (92, .iload 5, [], []),
  (94, .isub, [], []),
  (95, .istore 10, [], []),
  (97, .aload_n 0, [], []),
  (98, .getfield 25, [71, 13, 3], [32, 4, 5]),
  (101, .iconst 0, [], []),
  (102, .aaload, [], []),
  (103, .iload 7, [], []),
  (105, .iload 8, [], []),
  (107, .iload 8, [], []),
  (109, .imul, [], []),
  (110, .iload 9, [], []),
  (112, .iload 9, [], []),
  (114, .imul, [], []),
  (115, .iadd, [], []),
  (116, .iload 10, [], []),
  (118, .iload 10, [], []),
  (120, .imul, [], []),
  (121, .iadd, [], []),
  (122, .iload 6, [], []),
  (124, .iload 6, [], []),
  (126, .imul, [], []),
  (127, .if_icmp .gt 7, [73], []),
  (130, .iconst 1, [], []),
  (131, .goto 4, [74], []),
  (134, .iconst 0, [], []),
  (135, .bastore, [], []),
  (136, .iinc 7 1, [], []),
  (139, .goto (-79), [33], []),
  (142, .aload_n 0, [], []),
  (143, .aload_n 0, [], []),
  (144, .iconst 4, [], []),
  (145, .invokevirtual 478, [327, 330, 2, 1], [0, 0, 13]),
  (148, .invokevirtual 469, [325, 323, 2, 1], [0, 0, 13]),
  (151, .istore 7, [], []),
  (153, .iinc 2 1, [], []),
  (156, .goto (-135), [12], []),
  (159, .aload_n 0, [], []),
  (160, .invokevirtual 472, [326, 326, 1, 1], [0, 0, 13]),
  (163, .ireturn, [1], [])]
set_option maxRecDepth 100000 in
noncomputable def zc_X12_seed : List (Nat × Jvm.ClassFile.Instr × List Nat × List Int) := [(0, .aload_n 0, [], []),
  (1, .getfield 94, [84, 13, 1], [0, 0, 26]),
  (4, .istore_n 2, [], []),
  (5, .aload_n 0, [], []),
  (6, .iload_n 1, [], []),
  (7, .putfield 94, [84, 13, 1], [0, 0, 26]),
  (10, .iload_n 2, [], []),
  (11, .ireturn, [1], [])]
set_option maxRecDepth 100000 in
noncomputable def zc_X12_copies : List (Nat × Jvm.ClassFile.Instr × List Nat × List Int) := [(0, .iconst 0, [], []),
  (1, .istore_n 2, [], []),
  (2, .iload_n 2, [], []),
  (3, .sipush 4096, [], []),
  (6, .if_icmp .ge 15, [13], []),
  (9, .aload_n 1, [], []),
  (10, .iload_n 2, [], []),
  (11, .aload_n 0, [], []),
  (12, .iload_n 2, [], []),
  (13, .baload, [], []),
  (14, .bastore, [], []),
  (15, .iinc 2 1, [], []),
  (18, .goto (-16), [2], []),
  (21, .return_, [], [])]
set_option maxRecDepth 100000 in
noncomputable def zc_X12_image : List (Nat × Jvm.ClassFile.Instr × List Nat × List Int) := [(0, .iconst 0, [], []),
  (1, .istore_n 1, [], []),
  (2, .iload_n 1, [], []),
  (3, .sipush 264, [], []),
  (6, .if_icmp .ge 21, [15], []),
  (9, .aload_n 0, [], []),
  (10, .getfield 98, [85, 13, 3], [20, 264, 27]),
  (13, .iload_n 1, [], []),
  (14, .aload_n 0, [], []),
  (15, .getfield 9, [67, 13, 3], [20, 264, 0]),
  (18, .iload_n 1, [], []),
  (19, .iaload, [], []),
  (20, .iastore, [], []),
  (21, .iinc 1 1, [], []),
  (24, .goto (-22), [2], []),
  (27, .aload_n 0, [], []),
  (28, .getfield 88, [82, 13, 3], [22, 4096, 22]),
  (31, .aload_n 0, [], []),
  (32, .getfield 101, [86, 13, 3], [22, 4096, 28]),
  (35, .invokestatic 481, [328, 333, 2, 0], [0, 0]),
  (38, .iconst 0, [], []),
  (39, .istore_n 1, [], []),
  (40, .iload_n 1, [], []),
  (41, .aload_n 0, [], []),
  (42, .getfield 463, [96, 13, 1], [0, 0, 24]),
  (45, .if_icmp .ge 24, [37], []),
  (48, .aload_n 0, [], []),
  (49, .getfield 91, [83, 13, 3], [33, 12, 23]),
  (52, .iload_n 1, [], []),
  (53, .aaload, [], []),
  (54, .aload_n 0, [], []),
  (55, .getfield 104, [87, 13, 3], [32, 12, 29]),
  (58, .iload_n 1, [], []),
  (59, .aaload, [], []),
  (60, .invokestatic 481, [328, 333, 2, 0], [0, 0]),
  (63, .iinc 1 1, [], []),
  (66, .goto (-26), [22], []),
  (69, .aload_n 0, [], []),
  (70, .getfield 107, [88, 13, 3], [20, 4, 30]),
  (73, .iconst 0, [], []),
  (74, .aload_n 0, [], []),
  (75, .getfield 116, [89, 13, 1], [0, 0, 1]),
  (78, .iastore, [], []),
  (79, .aload_n 0, [], []),
  (80, .getfield 107, [88, 13, 3], [20, 4, 30]),
  (83, .iconst 1, [], []),
  (84, .aload_n 0, [], []),
  (85, .getfield 463, [96, 13, 1], [0, 0, 24]),
  (88, .iastore, [], []),
  (89, .aload_n 0, [], []),
  (90, .getfield 107, [88, 13, 3], [20, 4, 30]),
  (93, .iconst 2, [], []),
  (94, .aload_n 0, [], []),
  (95, .getfield 466, [97, 13, 1], [0, 0, 25]),
  (98, .iastore, [], []),
  (99, .aload_n 0, [], []),
  (100, .getfield 107, [88, 13, 3], [20, 4, 30]),
  (103, .iconst 3, [], []),
  (104, .aload_n 0, [], []),
  (105, .getfield 94, [84, 13, 1], [0, 0, 26]),
  (108, .iastore, [], []),
  (109, .aload_n 0, [], []),
  (110, .iconst 1, [], []),
  (111, .putfield 485, [98, 13, 6], [0, 0, 31]),
  (114, .iconst 1, [], []),
  (115, .ireturn, [1], [])]
set_option maxRecDepth 100000 in
noncomputable def zc_X12_back : List (Nat × Jvm.ClassFile.Instr × List Nat × List Int) := [(0, .aload_n 0, [], []),
  (1, .getfield 485, [98, 13, 1], [0, 0, 31]),
  (4, .ifCond .ne 10, [7], []),
  (7, .aload_n 0, [], []),
  (8, .bipush (-65), [], []),
  (10, .invokevirtual 110, [244, 214, 2, 1], [0, 0, 13]),
  (13, .ireturn, [1], []),
  (14, .iconst 0, [], []),
  (15, .istore_n 1, [], []),
  (16, .iload_n 1, [], []),
  (17, .sipush 264, [], []),
  (20, .if_icmp .ge 21, [22], []),
  (23, .aload_n 0, [], []),
  (24, .getfield 9, [67, 13, 3], [20, 264, 0]),
  (27, .iload_n 1, [], []),
  (28, .aload_n 0, [], []),
  (29, .getfield 98, [85, 13, 3], [20, 264, 27]),
  (32, .iload_n 1, [], []),
  (33, .iaload, [], []),
  (34, .iastore, [], []),
  (35, .iinc 1 1, [], []),
  (38, .goto (-22), [9], []),
  (41, .aload_n 0, [], []),
  (42, .aload_n 0, [], []),
  (43, .getfield 107, [88, 13, 3], [20, 4, 30]),
  (46, .iconst 0, [], []),
  (47, .iaload, [], []),
  (48, .putfield 116, [89, 13, 1], [0, 0, 1]),
  (51, .aload_n 0, [], []),
  (52, .aload_n 0, [], []),
  (53, .getfield 107, [88, 13, 3], [20, 4, 30]),
  (56, .iconst 1, [], []),
  (57, .iaload, [], []),
  (58, .putfield 463, [96, 13, 1], [0, 0, 24]),
  (61, .aload_n 0, [], []),
  (62, .aload_n 0, [], []),
  (63, .getfield 107, [88, 13, 3], [20, 4, 30]),
  (66, .iconst 2, [], []),
  (67, .iaload, [], []),
  (68, .putfield 466, [97, 13, 1], [0, 0, 25]),
  (71, .aload_n 0, [], []),
  (72, .aload_n 0, [], []),
  (73, .getfield 107, [88, 13, 3], [20, 4, 30]),
  (76, .iconst 3, [], []),
  (77, .iaload, [], []),
  (78, .putfield 94, [84, 13, 1], [0, 0, 26]),
  (81, .aload_n 0, [], []),
  (82, .getfield 101, [86, 13, 3], [22, 4096, 28]),
  (85, .aload_n 0, [], []),
  (86, .getfield 88, [82, 13, 3], [22, 4096, 22]),
  (89, .invokestatic 481, [328, 333, 2, 0], [0, 0]),
  (92, .iconst 0, [], []),
  (93, .istore_n 1, [], []),
  (94, .iload_n 1, [], []),
  (95, .aload_n 0, [], []),
  (96, .getfield 463, [96, 13, 1], [0, 0, 24]),
  (99, .if_icmp .ge 24, [68], []),
  (102, .aload_n 0, [], []),
  (103, .getfield 104, [87, 13, 3], [32, 12, 29]),
  (106, .iload_n 1, [], []),
  (107, .aaload, [], []),
  (108, .aload_n 0, [], []),
  (109, .getfield 91, [83, 13, 3], [33, 12, 23]),
  (112, .iload_n 1, [], []),
  (113, .aaload, [], []),
  (114, .invokestatic 481, [328, 333, 2, 0], [0, 0]),
  (117, .iinc 1 1, [], []),
  (120, .goto (-26), [53], []),
  (123, .aload_n 0, [], []),
  (124, .invokevirtual 368, [306, 292, 1, 0], [0, 0, 13]),
  (127, .iconst 1, [], []),
  (128, .ireturn, [1], [])]
set_option maxRecDepth 100000 in
noncomputable def zc_X12_held : List (Nat × Jvm.ClassFile.Instr × List Nat × List Int) := [(0, .iconst 0, [], []),
  (1, .istore_n 1, [], []),
  (2, .iconst 0, [], []),
  (3, .istore_n 2, [], []),
  (4, .iload_n 2, [], []),
  (5, .bipush 8, [], []),
  (7, .if_icmp .ge 26, [20], []),
  (10, .iload_n 1, [], []),
  (11, .aload_n 0, [], []),
  (12, .getfield 79, [79, 13, 3], [20, 8, 19]),
  (15, .iload_n 2, [], []),
  (16, .iaload, [], []),
  (17, .ifCond .lt 7, [15], []),
  (20, .iconst 1, [], []),
  (21, .goto 4, [16], []),
  (24, .iconst 0, [], []),
  (25, .iadd, [], []),
  (26, .istore_n 1, [], []),
  (27, .iinc 2 1, [], []),
  (30, .goto (-26), [4], []),
  (33, .iload_n 1, [], []),
  (34, .ireturn, [1], [])]
set_option maxRecDepth 100000 in
noncomputable def zc_X12_status : List (Nat × Jvm.ClassFile.Instr × List Nat × List Int) := [(0, .iload_n 1, [], []),
  (1, .tableswitch 78 0 6 #[43, 48, 53, 58, 63, 68, 73], [23, 2, 5, 8, 11, 14, 17, 20], []),
  (44, .aload_n 0, [], []),
  (45, .getfield 116, [89, 13, 1], [0, 0, 1]),
  (48, .ireturn, [1], []),
  (49, .aload_n 0, [], []),
  (50, .getfield 463, [96, 13, 1], [0, 0, 24]),
  (53, .ireturn, [1], []),
  (54, .aload_n 0, [], []),
  (55, .invokevirtual 472, [326, 326, 1, 1], [0, 0, 13]),
  (58, .ireturn, [1], []),
  (59, .aload_n 0, [], []),
  (60, .getfield 466, [97, 13, 1], [0, 0, 25]),
  (63, .ireturn, [1], []),
  (64, .aload_n 0, [], []),
  (65, .getfield 376, [90, 13, 1], [0, 0, 11]),
  (68, .ireturn, [1], []),
  (69, .aload_n 0, [], []),
  (70, .getfield 94, [84, 13, 1], [0, 0, 26]),
  (73, .ireturn, [1], []),
  (74, .aload_n 0, [], []),
  (75, .invokevirtual 489, [329, 336, 1, 1], [0, 0, 13]),
  (78, .ireturn, [1], []),
  (79, .iload_n 1, [], []),
  (80, .i2l, [], []),
  (81, .ldc2_w 492, [1892], [12]),
  (84, .ldc2_w 324, [1651], [16]),
  (87, .invokestatic 119, [245, 213, 3, 4], [0, 0]),
  (90, .ifCond .eq 15, [36], []),
  (93, .aload_n 0, [], []),
  (94, .getfield 13, [68, 13, 3], [20, 5, 2]),
  (97, .iload_n 1, [], []),
  (98, .bipush 12, [], []),
  (100, .isub, [], []),
  (101, .iaload, [], []),
  (102, .goto 4, [37], []),
  (105, .iconst (-1), [], []),
  (106, .ireturn, [1], [])]
set_option maxRecDepth 100000 in
noncomputable def zc_J13_bitCount_95d88 : List (Nat × Jvm.ClassFile.Instr × List Nat × List Int) := [(0, .lload_n 0, [], []),
  (1, .lload_n 0, [], []),
  (2, .iconst 1, [], []),
  (3, .lushr, [], []),
  (4, .ldc2_w 314, [665], [6148914691236517205]),
  (7, .land, [], []),
  (8, .lsub, [], []),
  (9, .lstore_n 0, [], []),
  (10, .lload_n 0, [], []),
  (11, .ldc2_w 316, [666], [3689348814741910323]),
  (14, .land, [], []),
  (15, .lload_n 0, [], []),
  (16, .iconst 2, [], []),
  (17, .lushr, [], []),
  (18, .ldc2_w 316, [666], [3689348814741910323]),
  (21, .land, [], []),
  (22, .ladd, [], []),
  (23, .lstore_n 0, [], []),
  (24, .lload_n 0, [], []),
  (25, .lload_n 0, [], []),
  (26, .iconst 4, [], []),
  (27, .lushr, [], []),
  (28, .ladd, [], []),
  (29, .ldc2_w 318, [667], [1085102592571150095]),
  (32, .land, [], []),
  (33, .lstore_n 0, [], []),
  (34, .lload_n 0, [], []),
  (35, .lload_n 0, [], []),
  (36, .bipush 8, [], []),
  (38, .lushr, [], []),
  (39, .ladd, [], []),
  (40, .lstore_n 0, [], []),
  (41, .lload_n 0, [], []),
  (42, .lload_n 0, [], []),
  (43, .bipush 16, [], []),
  (45, .lushr, [], []),
  (46, .ladd, [], []),
  (47, .lstore_n 0, [], []),
  (48, .lload_n 0, [], []),
  (49, .lload_n 0, [], []),
  (50, .bipush 32, [], []),
  (52, .lushr, [], []),
  (53, .ladd, [], []),
  (54, .lstore_n 0, [], []),
  (55, .lload_n 0, [], []),
  (56, .l2i, [], []),
  (57, .bipush 127, [], []),
  (59, .iand, [], []),
  (60, .ireturn, [1], [])]
set_option maxRecDepth 100000 in
noncomputable def zc_J9_floorMod_7cf53 : List (Nat × Jvm.ClassFile.Instr × List Nat × List Int) := [(0, .iload_n 0, [], []),
  (1, .iload_n 1, [], []),
  (2, .irem, [], []),
  (3, .istore_n 2, [], []),
  (4, .iload_n 0, [], []),
  (5, .iload_n 1, [], []),
  (6, .ixor, [], []),
  (7, .ifCond .ge 11, [14], []),
  (10, .iload_n 2, [], []),
  (11, .ifCond .eq 7, [14], []),
  (14, .iload_n 2, [], []),
  (15, .iload_n 1, [], []),
  (16, .iadd, [], []),
  (17, .ireturn, [1], []),
  (18, .iload_n 2, [], []),
  (19, .ireturn, [1], [])]
set_option maxRecDepth 100000 in
noncomputable def zc_J9_abs_067f4 : List (Nat × Jvm.ClassFile.Instr × List Nat × List Int) := [(0, .lload_n 0, [], []),
  (1, .lconst 0, [], []),
  (2, .lcmp, [], []),
  (3, .ifCond .ge 8, [7], []),
  (6, .lload_n 0, [], []),
  (7, .lneg, [], []),
  (8, .goto 4, [8], []),
  (11, .lload_n 0, [], []),
  (12, .lreturn, [], [])]
set_option maxRecDepth 100000 in
noncomputable def zc_J9_max_7cf53 : List (Nat × Jvm.ClassFile.Instr × List Nat × List Int) := [(0, .iload_n 0, [], []),
  (1, .iload_n 1, [], []),
  (2, .if_icmp .lt 7, [5], []),
  (5, .iload_n 0, [], []),
  (6, .goto 4, [6], []),
  (9, .iload_n 1, [], []),
  (10, .ireturn, [1], [])]
set_option maxRecDepth 100000 in
noncomputable def zc_J9_max_f86c9 : List (Nat × Jvm.ClassFile.Instr × List Nat × List Int) := [(0, .lload_n 0, [], []),
  (1, .lload_n 2, [], []),
  (2, .lcmp, [], []),
  (3, .ifCond .lt 7, [6], []),
  (6, .lload_n 0, [], []),
  (7, .goto 4, [7], []),
  (10, .lload_n 2, [], []),
  (11, .lreturn, [], [])]
set_option maxRecDepth 100000 in
noncomputable def zc_J9_min_7cf53 : List (Nat × Jvm.ClassFile.Instr × List Nat × List Int) := [(0, .iload_n 0, [], []),
  (1, .iload_n 1, [], []),
  (2, .if_icmp .gt 7, [5], []),
  (5, .iload_n 0, [], []),
  (6, .goto 4, [6], []),
  (9, .iload_n 1, [], []),
  (10, .ireturn, [1], [])]
set_option maxRecDepth 100000 in
noncomputable def zc_J9_min_f86c9 : List (Nat × Jvm.ClassFile.Instr × List Nat × List Int) := [(0, .lload_n 0, [], []),
  (1, .lload_n 2, [], []),
  (2, .lcmp, [], []),
  (3, .ifCond .gt 7, [6], []),
  (6, .lload_n 0, [], []),
  (7, .goto 4, [7], []),
  (10, .lload_n 2, [], []),
  (11, .lreturn, [], [])]
set_option maxRecDepth 100000 in
noncomputable def zc_J0_length_8abf5 : List (Nat × Jvm.ClassFile.Instr × List Nat × List Int) := [(0, .aload_n 0, [], []),
  (1, .getfield 9, [99, 40, 5], [24, 0, 0]),
  (4, .arraylength, [], []),
  (5, .aload_n 0, [], []),
  (6, .invokevirtual 335, [330, 347, 1, 6], [0, 0, 40]),
  (9, .ishr, [], []),
  (10, .ireturn, [1], [])]
set_option maxRecDepth 100000 in
noncomputable def zc_J0_charAt_5068e : List (Nat × Jvm.ClassFile.Instr × List Nat × List Int) := [(0, .aload_n 0, [], []),
  (1, .invokevirtual 492, [331, 348, 1, 4], [0, 0, 40]),
  (4, .ifCond .eq 12, [8], []),
  (7, .aload_n 0, [], []),
  (8, .getfield 9, [99, 40, 5], [24, 0, 0]),
  (11, .iload_n 1, [], []),
  (12, .invokestatic 495, [332, 350, 2, 5], [0, 0]),
  (15, .ireturn, [5], []),
  (16, .aload_n 0, [], []),
  (17, .getfield 9, [99, 40, 5], [24, 0, 0]),
  (20, .iload_n 1, [], []),
  (21, .invokestatic 498, [], []),
  (24, .ireturn, [5], [])]
set_option maxRecDepth 100000 in
noncomputable def zc_J0_coder_7d493 : List (Nat × Jvm.ClassFile.Instr × List Nat × List Int) := [(0, .getstatic 38, [100, 1], [1]),
  (3, .ifCond .eq 10, [5], []),
  (6, .aload_n 0, [], []),
  (7, .getfield 15, [101, 40, 4], [0, 0, 1]),
  (10, .goto 4, [6], []),
  (13, .iconst 1, [], []),
  (14, .ireturn, [6], [])]
set_option maxRecDepth 100000 in
noncomputable def zc_J0_isLatin1_aae02 : List (Nat × Jvm.ClassFile.Instr × List Nat × List Int) := [(0, .getstatic 38, [100, 1], [1]),
  (3, .ifCond .eq 14, [7], []),
  (6, .aload_n 0, [], []),
  (7, .getfield 15, [101, 40, 4], [0, 0, 1]),
  (10, .ifCond .ne 7, [7], []),
  (13, .iconst 1, [], []),
  (14, .goto 4, [8], []),
  (17, .iconst 0, [], []),
  (18, .ireturn, [4], [])]
set_option maxRecDepth 100000 in
noncomputable def zc_J0_checkIndex_df160 : List (Nat × Jvm.ClassFile.Instr × List Nat × List Int) := [(0, .iload_n 0, [], []),
  (1, .iload_n 1, [], []),
  (2, .getstatic 1053, [102, 2], []),
  (5, .invokestatic 1059, [333, 351, 3, 1], [0, 0]),
  (8, .pop, [], []),
  (9, .return_, [], [])]
set_option maxRecDepth 100000 in
noncomputable def zc_J1_charAt_3b067 : List (Nat × Jvm.ClassFile.Instr × List Nat × List Int) := [(0, .iload_n 1, [], []),
  (1, .aload_n 0, [], []),
  (2, .arraylength, [], []),
  (3, .invokestatic 9, [334, 349, 2, 0], [0, 0]),
  (6, .aload_n 0, [], []),
  (7, .iload_n 1, [], []),
  (8, .baload, [], []),
  (9, .sipush 255, [], []),
  (12, .iand, [], []),
  (13, .i2c, [], []),
  (14, .ireturn, [5], [])]
set_option maxRecDepth 100000 in
noncomputable def zc_J3_checkIndex_8e157 : List (Nat × Jvm.ClassFile.Instr × List Nat × List Int) := [(0, .iload_n 0, [], []),
  (1, .ifCond .lt 8, [5], []),
  (4, .iload_n 0, [], []),
  (5, .iload_n 1, [], []),
  (6, .if_icmp .lt 10, [10], []),
  (9, .aload_n 2, [], []),
  (10, .iload_n 0, [], []),
  (11, .iload_n 1, [], []),
  (12, .invokestatic 95, [], []),
  (15, .athrow, [], []),
  (16, .iload_n 0, [], []),
  (17, .ireturn, [1], [])]
set_option maxRecDepth 100000 in
noncomputable def zc_L_law : List (Nat × Jvm.ClassFile.Instr × List Nat × List Int) := [(0, .new 7, [21, 12, 16], []),
  (3, .dup, [], []),
  (4, .invokespecial 9, [335, 137, 1, 0], [0, 0, 12]),
  (7, .astore_n 1, [], []),
  (8, .new 10, [1252, 13, 32], []),
  (11, .dup, [], []),
  (12, .invokespecial 12, [336, 212, 1, 0], [0, 0, 13]),
  (15, .astore_n 2, [], []),
  (16, .iconst 0, [], []),
  (17, .istore_n 3, [], []),
  (18, .iload_n 3, [], []),
  (19, .aload_n 0, [], []),
  (20, .arraylength, [], []),
  (21, .bipush 7, [], []),
  (23, .isub, [], []),
  (24, .if_icmp .gt 1986, [1500], []),
  (27, .aload_n 0, [], []),
  (28, .iload_n 3, [], []),
  (29, .iaload, [], []),
  (30, .bipush 63, [], []),
  (32, .iand, [], []),
  (33, .tableswitch 1971 0 46 #[203, 246, 319, 382, 416, 439, 472, 505, 528, 541, 554, 607, 682, 735, 778, 831, 884, 937, 990, 1003, 1036, 1100, 1154, 1187, 1220, 1253, 1296, 1339, 1414, 1437, 1470, 1503, 1536, 1569, 1612, 1665, 1718, 1761, 1794, 1807, 1830, 1853, 1876, 1899, 1922, 1935, 1948], [1498, 22, 59, 120, 177, 205, 222, 249, 276, 293, 300, 307, 354, 421, 468, 505, 552, 599, 646, 693, 700, 727, 785, 833, 860, 887, 914, 951, 988, 1055, 1072, 1099, 1126, 1153, 1180, 1217, 1264, 1311, 1348, 1375, 1382, 1399, 1416, 1433, 1450, 1467, 1474, 1481], []),
  (236, .aload_n 1, [], []),
  (237, .aload_n 0, [], []),
  (238, .iload_n 3, [], []),
  (239, .iconst 1, [], []),
  (240, .iadd, [], []),
  (241, .iaload, [], []),
  (242, .aload_n 0, [], []),
  (243, .iload_n 3, [], []),
  (244, .iconst 2, [], []),
  (245, .iadd, [], []),
  (246, .iaload, [], []),
  (247, .aload_n 0, [], []),
  (248, .iload_n 3, [], []),
  (249, .iconst 3, [], []),
  (250, .iadd, [], []),
  (251, .iaload, [], []),
  (252, .invokevirtual 13, [337, 138, 4, 1], [0, 0, 12]),
  (255, .aload_n 2, [], []),
  (256, .aload_n 0, [], []),
  (257, .iload_n 3, [], []),
  (258, .iconst 1, [], []),
  (259, .iadd, [], []),
  (260, .iaload, [], []),
  (261, .aload_n 0, [], []),
  (262, .iload_n 3, [], []),
  (263, .iconst 2, [], []),
  (264, .iadd, [], []),
  (265, .iaload, [], []),
  (266, .aload_n 0, [], []),
  (267, .iload_n 3, [], []),
  (268, .iconst 3, [], []),
  (269, .iadd, [], []),
  (270, .iaload, [], []),
  (271, .invokevirtual 17, [338, 308, 4, 1], [0, 0, 13]),
  (274, .if_icmp .eq 1730, [1498], []),
  (277, .iconst 0, [], []),
  (278, .ireturn, [4], []),
  (279, .aload_n 1, [], []),
  (280, .aload_n 0, [], []),
  (281, .iload_n 3, [], []),
  (282, .iconst 1, [], []),
  (283, .iadd, [], []),
  (284, .iaload, [], []),
  (285, .aload_n 0, [], []),
  (286, .iload_n 3, [], []),
  (287, .iconst 2, [], []),
  (288, .iadd, [], []),
  (289, .iaload, [], []),
  (290, .aload_n 0, [], []),
  (291, .iload_n 3, [], []),
  (292, .iconst 3, [], []),
  (293, .iadd, [], []),
  (294, .iaload, [], []),
  (295, .i2l, [], []),
  (296, .bipush 32, [], []),
  (298, .lshl, [], []),
  (299, .aload_n 0, [], []),
  (300, .iload_n 3, [], []),
  (301, .iconst 4, [], []),
  (302, .iadd, [], []),
  (303, .iaload, [], []),
  (304, .i2l, [], []),
  (305, .ldc2_w 18, [1893], [4294967295]),
  (308, .land, [], []),
  (309, .lor, [], []),
  (310, .invokevirtual 20, [339, 139, 4, 1], [0, 0, 12]),
  (313, .aload_n 2, [], []),
  (314, .aload_n 0, [], []),
  (315, .iload_n 3, [], []),
  (316, .iconst 1, [], []),
  (317, .iadd, [], []),
  (318, .iaload, [], []),
  (319, .aload_n 0, [], []),
  (320, .iload_n 3, [], []),
  (321, .iconst 2, [], []),
  (322, .iadd, [], []),
  (323, .iaload, [], []),
  (324, .aload_n 0, [], []),
  (325, .iload_n 3, [], []),
  (326, .iconst 3, [], []),
  (327, .iadd, [], []),
  (328, .iaload, [], []),
  (329, .i2l, [], []),
  (330, .bipush 32, [], []),
  (332, .lshl, [], []),
  (333, .aload_n 0, [], []),
  (334, .iload_n 3, [], []),
  (335, .iconst 4, [], []),
  (336, .iadd, [], []),
  (337, .iaload, [], []),
  (338, .i2l, [], []),
  (339, .ldc2_w 18, [1893], [4294967295]),
  (342, .land, [], []),
  (343, .lor, [], []),
  (344, .invokevirtual 24, [340, 310, 4, 1], [0, 0, 13]),
  (347, .if_icmp .eq 1657, [1498], []),
  (350, .iconst 0, [], []),
  (351, .ireturn, [4], []),
  (352, .aload_n 1, [], []),
  (353, .aload_n 0, [], []),
  (354, .iload_n 3, [], []),
  (355, .iconst 1, [], []),
  (356, .iadd, [], []),
  (357, .iaload, [], []),
  (358, .aload_n 0, [], []),
  (359, .iload_n 3, [], []),
  (360, .iconst 2, [], []),
  (361, .iadd, [], []),
  (362, .iaload, [], []),
  (363, .aload_n 0, [], []),
  (364, .iload_n 3, [], []),
  (365, .iconst 3, [], []),
  (366, .iadd, [], []),
  (367, .iaload, [], []),
  (368, .aload_n 0, [], []),
  (369, .iload_n 3, [], []),
  (370, .iconst 4, [], []),
  (371, .iadd, [], []),
  (372, .iaload, [], []),
  (373, .aload_n 0, [], []),
  (374, .iload_n 3, [], []),
  (375, .iconst 5, [], []),
  (376, .iadd, [], []),
  (377, .iaload, [], []),
  (378, .invokevirtual 25, [341, 140, 6, 1], [0, 0, 12]),
  (381, .aload_n 2, [], []),
  (382, .aload_n 0, [], []),
  (383, .iload_n 3, [], []),
  (384, .iconst 1, [], []),
  (385, .iadd, [], []),
  (386, .iaload, [], []),
  (387, .aload_n 0, [], []),
  (388, .iload_n 3, [], []),
  (389, .iconst 2, [], []),
  (390, .iadd, [], []),
  (391, .iaload, [], []),
  (392, .aload_n 0, [], []),
  (393, .iload_n 3, [], []),
  (394, .iconst 3, [], []),
  (395, .iadd, [], []),
  (396, .iaload, [], []),
  (397, .aload_n 0, [], []),
  (398, .iload_n 3, [], []),
  (399, .iconst 4, [], []),
  (400, .iadd, [], []),
  (401, .iaload, [], []),
  (402, .aload_n 0, [], []),
  (403, .iload_n 3, [], []),
  (404, .iconst 5, [], []),
  (405, .iadd, [], []),
  (406, .iaload, [], []),
  (407, .invokevirtual 29, [342, 311, 6, 1], [0, 0, 13]),
  (410, .if_icmp .eq 1594, [1498], []),
  (413, .iconst 0, [], []),
  (414, .ireturn, [4], []),
  (415, .aload_n 1, [], []),
  (416, .aload_n 0, [], []),
  (417, .iload_n 3, [], []),
  (418, .iconst 1, [], []),
  (419, .iadd, [], []),
  (420, .iaload, [], []),
  (421, .aload_n 0, [], []),
  (422, .iload_n 3, [], []),
  (423, .iconst 2, [], []),
  (424, .iadd, [], []),
  (425, .iaload, [], []),
  (426, .invokevirtual 30, [343, 141, 3, 2], [0, 0, 12]),
  (429, .aload_n 2, [], []),
  (430, .aload_n 0, [], []),
  (431, .iload_n 3, [], []),
  (432, .iconst 1, [], []),
  (433, .iadd, [], []),
  (434, .iaload, [], []),
  (435, .aload_n 0, [], []),
  (436, .iload_n 3, [], []),
  (437, .iconst 2, [], []),
  (438, .iadd, [], []),
  (439, .iaload, [], []),
  (440, .invokevirtual 34, [344, 312, 3, 2], [0, 0, 13]),
  (443, .lcmp, [], []),
  (444, .ifCond .eq 1560, [1498], []),
  (447, .iconst 0, [], []),
  (448, .ireturn, [4], []),
  (449, .aload_n 1, [], []),
  (450, .aload_n 0, [], []),
  (451, .iload_n 3, [], []),
  (452, .iconst 1, [], []),
  (453, .iadd, [], []),
  (454, .iaload, [], []),
  (455, .invokevirtual 35, [345, 142, 2, 1], [0, 0, 12]),
  (458, .aload_n 2, [], []),
  (459, .aload_n 0, [], []),
  (460, .iload_n 3, [], []),
  (461, .iconst 1, [], []),
  (462, .iadd, [], []),
  (463, .iaload, [], []),
  (464, .invokevirtual 39, [346, 313, 2, 1], [0, 0, 13]),
  (467, .if_icmp .eq 1537, [1498], []),
  (470, .iconst 0, [], []),
  (471, .ireturn, [4], []),
  (472, .aload_n 1, [], []),
  (473, .aload_n 0, [], []),
  (474, .iload_n 3, [], []),
  (475, .iconst 1, [], []),
  (476, .iadd, [], []),
  (477, .iaload, [], []),
  (478, .aload_n 0, [], []),
  (479, .iload_n 3, [], []),
  (480, .iconst 2, [], []),
  (481, .iadd, [], []),
  (482, .iaload, [], []),
  (483, .invokevirtual 40, [347, 143, 3, 1], [0, 0, 12]),
  (486, .aload_n 2, [], []),
  (487, .aload_n 0, [], []),
  (488, .iload_n 3, [], []),
  (489, .iconst 1, [], []),
  (490, .iadd, [], []),
  (491, .iaload, [], []),
  (492, .aload_n 0, [], []),
  (493, .iload_n 3, [], []),
  (494, .iconst 2, [], []),
  (495, .iadd, [], []),
  (496, .iaload, [], []),
  (497, .invokevirtual 44, [348, 314, 3, 1], [0, 0, 13]),
  (500, .if_icmp .eq 1504, [1498], []),
  (503, .iconst 0, [], []),
  (504, .ireturn, [4], []),
  (505, .aload_n 1, [], []),
  (506, .aload_n 0, [], []),
  (507, .iload_n 3, [], []),
  (508, .iconst 1, [], []),
  (509, .iadd, [], []),
  (510, .iaload, [], []),
  (511, .aload_n 0, [], []),
  (512, .iload_n 3, [], []),
  (513, .iconst 2, [], []),
  (514, .iadd, [], []),
  (515, .iaload, [], []),
  (516, .invokevirtual 45, [349, 144, 3, 1], [0, 0, 12]),
  (519, .aload_n 2, [], []),
  (520, .aload_n 0, [], []),
  (521, .iload_n 3, [], []),
  (522, .iconst 1, [], []),
  (523, .iadd, [], []),
  (524, .iaload, [], []),
  (525, .aload_n 0, [], []),
  (526, .iload_n 3, [], []),
  (527, .iconst 2, [], []),
  (528, .iadd, [], []),
  (529, .iaload, [], []),
  (530, .invokevirtual 48, [350, 317, 3, 1], [0, 0, 13]),
  (533, .if_icmp .eq 1471, [1498], []),
  (536, .iconst 0, [], []),
  (537, .ireturn, [4], []),
  (538, .aload_n 1, [], []),
  (539, .aload_n 0, [], []),
  (540, .iload_n 3, [], []),
  (541, .iconst 1, [], []),
  (542, .iadd, [], []),
  (543, .iaload, [], []),
  (544, .invokevirtual 49, [351, 147, 2, 1], [0, 0, 12]),
  (547, .aload_n 2, [], []),
  (548, .aload_n 0, [], []),
  (549, .iload_n 3, [], []),
  (550, .iconst 1, [], []),
  (551, .iadd, [], []),
  (552, .iaload, [], []),
  (553, .invokevirtual 52, [352, 296, 2, 1], [0, 0, 13]),
  (556, .if_icmp .eq 1448, [1498], []),
  (559, .iconst 0, [], []),
  (560, .ireturn, [4], []),
  (561, .aload_n 1, [], []),
  (562, .invokevirtual 53, [353, 148, 1, 1], [0, 0, 12]),
  (565, .aload_n 2, [], []),
  (566, .invokevirtual 57, [354, 297, 1, 1], [0, 0, 13]),
  (569, .if_icmp .eq 1435, [1498], []),
  (572, .iconst 0, [], []),
  (573, .ireturn, [4], []),
  (574, .aload_n 1, [], []),
  (575, .invokevirtual 58, [355, 149, 1, 1], [0, 0, 12]),
  (578, .aload_n 2, [], []),
  (579, .invokevirtual 61, [356, 306, 1, 1], [0, 0, 13]),
  (582, .if_icmp .eq 1422, [1498], []),
  (585, .iconst 0, [], []),
  (586, .ireturn, [4], []),
  (587, .aload_n 1, [], []),
  (588, .aload_n 0, [], []),
  (589, .iload_n 3, [], []),
  (590, .iconst 1, [], []),
  (591, .iadd, [], []),
  (592, .iaload, [], []),
  (593, .aload_n 0, [], []),
  (594, .iload_n 3, [], []),
  (595, .iconst 2, [], []),
  (596, .iadd, [], []),
  (597, .iaload, [], []),
  (598, .aload_n 0, [], []),
  (599, .iload_n 3, [], []),
  (600, .iconst 3, [], []),
  (601, .iadd, [], []),
  (602, .iaload, [], []),
  (603, .aload_n 0, [], []),
  (604, .iload_n 3, [], []),
  (605, .iconst 4, [], []),
  (606, .iadd, [], []),
  (607, .iaload, [], []),
  (608, .invokevirtual 62, [357, 150, 5, 1], [0, 0, 12]),
  (611, .aload_n 2, [], []),
  (612, .aload_n 0, [], []),
  (613, .iload_n 3, [], []),
  (614, .iconst 1, [], []),
  (615, .iadd, [], []),
  (616, .iaload, [], []),
  (617, .aload_n 0, [], []),
  (618, .iload_n 3, [], []),
  (619, .iconst 2, [], []),
  (620, .iadd, [], []),
  (621, .iaload, [], []),
  (622, .aload_n 0, [], []),
  (623, .iload_n 3, [], []),
  (624, .iconst 3, [], []),
  (625, .iadd, [], []),
  (626, .iaload, [], []),
  (627, .aload_n 0, [], []),
  (628, .iload_n 3, [], []),
  (629, .iconst 4, [], []),
  (630, .iadd, [], []),
  (631, .iaload, [], []),
  (632, .invokevirtual 66, [358, 284, 5, 1], [0, 0, 13]),
  (635, .if_icmp .eq 1369, [1498], []),
  (638, .iconst 0, [], []),
  (639, .ireturn, [4], []),
  (640, .aload_n 1, [], []),
  (641, .aload_n 0, [], []),
  (642, .iload_n 3, [], []),
  (643, .iconst 1, [], []),
  (644, .iadd, [], []),
  (645, .iaload, [], []),
  (646, .aload_n 0, [], []),
  (647, .iload_n 3, [], []),
  (648, .iconst 2, [], []),
  (649, .iadd, [], []),
  (650, .iaload, [], []),
  (651, .aload_n 0, [], []),
  (652, .iload_n 3, [], []),
  (653, .iconst 3, [], []),
  (654, .iadd, [], []),
  (655, .iaload, [], []),
  (656, .aload_n 0, [], []),
  (657, .iload_n 3, [], []),
  (658, .iconst 4, [], []),
  (659, .iadd, [], []),
  (660, .iaload, [], []),
  (661, .aload_n 0, [], []),
  (662, .iload_n 3, [], []),
  (663, .iconst 5, [], []),
  (664, .iadd, [], []),
  (665, .iaload, [], []),
  (666, .aload_n 0, [], []),
  (667, .iload_n 3, [], []),
  (668, .bipush 6, [], []),
  (670, .iadd, [], []),
  (671, .iaload, [], []),
  (672, .invokevirtual 67, [359, 151, 7, 1], [0, 0, 12]),
  (675, .aload_n 2, [], []),
  (676, .aload_n 0, [], []),
  (677, .iload_n 3, [], []),
  (678, .iconst 1, [], []),
  (679, .iadd, [], []),
  (680, .iaload, [], []),
  (681, .aload_n 0, [], []),
  (682, .iload_n 3, [], []),
  (683, .iconst 2, [], []),
  (684, .iadd, [], []),
  (685, .iaload, [], []),
  (686, .aload_n 0, [], []),
  (687, .iload_n 3, [], []),
  (688, .iconst 3, [], []),
  (689, .iadd, [], []),
  (690, .iaload, [], []),
  (691, .aload_n 0, [], []),
  (692, .iload_n 3, [], []),
  (693, .iconst 4, [], []),
  (694, .iadd, [], []),
  (695, .iaload, [], []),
  (696, .aload_n 0, [], []),
  (697, .iload_n 3, [], []),
  (698, .iconst 5, [], []),
  (699, .iadd, [], []),
  (700, .iaload, [], []),
  (701, .aload_n 0, [], []),
  (702, .iload_n 3, [], []),
  (703, .bipush 6, [], []),
  (705, .iadd, [], []),
  (706, .iaload, [], []),
  (707, .invokevirtual 71, [360, 285, 7, 1], [0, 0, 13]),
  (710, .if_icmp .eq 1294, [1498], []),
  (713, .iconst 0, [], []),
  (714, .ireturn, [4], []),
  (715, .aload_n 1, [], []),
  (716, .aload_n 0, [], []),
  (717, .iload_n 3, [], []),
  (718, .iconst 1, [], []),
  (719, .iadd, [], []),
  (720, .iaload, [], []),
  (721, .aload_n 0, [], []),
  (722, .iload_n 3, [], []),
  (723, .iconst 2, [], []),
  (724, .iadd, [], []),
  (725, .iaload, [], []),
  (726, .aload_n 0, [], []),
  (727, .iload_n 3, [], []),
  (728, .iconst 3, [], []),
  (729, .iadd, [], []),
  (730, .iaload, [], []),
  (731, .aload_n 0, [], []),
  (732, .iload_n 3, [], []),
  (733, .iconst 4, [], []),
  (734, .iadd, [], []),
  (735, .iaload, [], []),
  (736, .invokevirtual 72, [361, 152, 5, 1], [0, 0, 12]),
  (739, .aload_n 2, [], []),
  (740, .aload_n 0, [], []),
  (741, .iload_n 3, [], []),
  (742, .iconst 1, [], []),
  (743, .iadd, [], []),
  (744, .iaload, [], []),
  (745, .aload_n 0, [], []),
  (746, .iload_n 3, [], []),
  (747, .iconst 2, [], []),
  (748, .iadd, [], []),
  (749, .iaload, [], []),
  (750, .aload_n 0, [], []),
  (751, .iload_n 3, [], []),
  (752, .iconst 3, [], []),
  (753, .iadd, [], []),
  (754, .iaload, [], []),
  (755, .aload_n 0, [], []),
  (756, .iload_n 3, [], []),
  (757, .iconst 4, [], []),
  (758, .iadd, [], []),
  (759, .iaload, [], []),
  (760, .invokevirtual 75, [362, 286, 5, 1], [0, 0, 13]),
  (763, .if_icmp .eq 1241, [1498], []),
  (766, .iconst 0, [], []),
  (767, .ireturn, [4], []),
  (768, .aload_n 1, [], []),
  (769, .aload_n 0, [], []),
  (770, .iload_n 3, [], []),
  (771, .iconst 1, [], []),
  (772, .iadd, [], []),
  (773, .iaload, [], []),
  (774, .aload_n 0, [], []),
  (775, .iload_n 3, [], []),
  (776, .iconst 2, [], []),
  (777, .iadd, [], []),
  (778, .iaload, [], []),
  (779, .aload_n 0, [], []),
  (780, .iload_n 3, [], []),
  (781, .iconst 3, [], []),
  (782, .iadd, [], []),
  (783, .iaload, [], []),
  (784, .invokevirtual 76, [363, 153, 4, 1], [0, 0, 12]),
  (787, .aload_n 2, [], []),
  (788, .aload_n 0, [], []),
  (789, .iload_n 3, [], []),
  (790, .iconst 1, [], []),
  (791, .iadd, [], []),
  (792, .iaload, [], []),
  (793, .aload_n 0, [], []),
  (794, .iload_n 3, [], []),
  (795, .iconst 2, [], []),
  (796, .iadd, [], []),
  (797, .iaload, [], []),
  (798, .aload_n 0, [], []),
  (799, .iload_n 3, [], []),
  (800, .iconst 3, [], []),
  (801, .iadd, [], []),
  (802, .iaload, [], []),
  (803, .invokevirtual 79, [364, 287, 4, 1], [0, 0, 13]),
  (806, .if_icmp .eq 1198, [1498], []),
  (809, .iconst 0, [], []),
  (810, .ireturn, [4], []),
  (811, .aload_n 1, [], []),
  (812, .aload_n 0, [], []),
  (813, .iload_n 3, [], []),
  (814, .iconst 1, [], []),
  (815, .iadd, [], []),
  (816, .iaload, [], []),
  (817, .aload_n 0, [], []),
  (818, .iload_n 3, [], []),
  (819, .iconst 2, [], []),
  (820, .iadd, [], []),
  (821, .iaload, [], []),
  (822, .aload_n 0, [], []),
  (823, .iload_n 3, [], []),
  (824, .iconst 3, [], []),
  (825, .iadd, [], []),
  (826, .iaload, [], []),
  (827, .aload_n 0, [], []),
  (828, .iload_n 3, [], []),
  (829, .iconst 4, [], []),
  (830, .iadd, [], []),
  (831, .iaload, [], []),
  (832, .invokevirtual 80, [365, 154, 5, 1], [0, 0, 12]),
  (835, .aload_n 2, [], []),
  (836, .aload_n 0, [], []),
  (837, .iload_n 3, [], []),
  (838, .iconst 1, [], []),
  (839, .iadd, [], []),
  (840, .iaload, [], []),
  (841, .aload_n 0, [], []),
  (842, .iload_n 3, [], []),
  (843, .iconst 2, [], []),
  (844, .iadd, [], []),
  (845, .iaload, [], []),
  (846, .aload_n 0, [], []),
  (847, .iload_n 3, [], []),
  (848, .iconst 3, [], []),
  (849, .iadd, [], []),
  (850, .iaload, [], []),
  (851, .aload_n 0, [], []),
  (852, .iload_n 3, [], []),
  (853, .iconst 4, [], []),
  (854, .iadd, [], []),
  (855, .iaload, [], []),
  (856, .invokevirtual 83, [366, 288, 5, 1], [0, 0, 13]),
  (859, .if_icmp .eq 1145, [1498], []),
  (862, .iconst 0, [], []),
  (863, .ireturn, [4], []),
  (864, .aload_n 1, [], []),
  (865, .aload_n 0, [], []),
  (866, .iload_n 3, [], []),
  (867, .iconst 1, [], []),
  (868, .iadd, [], []),
  (869, .iaload, [], []),
  (870, .aload_n 0, [], []),
  (871, .iload_n 3, [], []),
  (872, .iconst 2, [], []),
  (873, .iadd, [], []),
  (874, .iaload, [], []),
  (875, .aload_n 0, [], []),
  (876, .iload_n 3, [], []),
  (877, .iconst 3, [], []),
  (878, .iadd, [], []),
  (879, .iaload, [], []),
  (880, .aload_n 0, [], []),
  (881, .iload_n 3, [], []),
  (882, .iconst 4, [], []),
  (883, .iadd, [], []),
  (884, .iaload, [], []),
  (885, .invokevirtual 84, [367, 155, 5, 1], [0, 0, 12]),
  (888, .aload_n 2, [], []),
  (889, .aload_n 0, [], []),
  (890, .iload_n 3, [], []),
  (891, .iconst 1, [], []),
  (892, .iadd, [], []),
  (893, .iaload, [], []),
  (894, .aload_n 0, [], []),
  (895, .iload_n 3, [], []),
  (896, .iconst 2, [], []),
  (897, .iadd, [], []),
  (898, .iaload, [], []),
  (899, .aload_n 0, [], []),
  (900, .iload_n 3, [], []),
  (901, .iconst 3, [], []),
  (902, .iadd, [], []),
  (903, .iaload, [], []),
  (904, .aload_n 0, [], []),
  (905, .iload_n 3, [], []),
  (906, .iconst 4, [], []),
  (907, .iadd, [], []),
  (908, .iaload, [], []),
  (909, .invokevirtual 87, [368, 289, 5, 1], [0, 0, 13]),
  (912, .if_icmp .eq 1092, [1498], []),
  (915, .iconst 0, [], []),
  (916, .ireturn, [4], []),
  (917, .aload_n 1, [], []),
  (918, .aload_n 0, [], []),
  (919, .iload_n 3, [], []),
  (920, .iconst 1, [], []),
  (921, .iadd, [], []),
  (922, .iaload, [], []),
  (923, .aload_n 0, [], []),
  (924, .iload_n 3, [], []),
  (925, .iconst 2, [], []),
  (926, .iadd, [], []),
  (927, .iaload, [], []),
  (928, .aload_n 0, [], []),
  (929, .iload_n 3, [], []),
  (930, .iconst 3, [], []),
  (931, .iadd, [], []),
  (932, .iaload, [], []),
  (933, .aload_n 0, [], []),
  (934, .iload_n 3, [], []),
  (935, .iconst 4, [], []),
  (936, .iadd, [], []),
  (937, .iaload, [], []),
  (938, .invokevirtual 88, [369, 156, 5, 1], [0, 0, 12]),
  (941, .aload_n 2, [], []),
  (942, .aload_n 0, [], []),
  (943, .iload_n 3, [], []),
  (944, .iconst 1, [], []),
  (945, .iadd, [], []),
  (946, .iaload, [], []),
  (947, .aload_n 0, [], []),
  (948, .iload_n 3, [], []),
  (949, .iconst 2, [], []),
  (950, .iadd, [], []),
  (951, .iaload, [], []),
  (952, .aload_n 0, [], []),
  (953, .iload_n 3, [], []),
  (954, .iconst 3, [], []),
  (955, .iadd, [], []),
  (956, .iaload, [], []),
  (957, .aload_n 0, [], []),
  (958, .iload_n 3, [], []),
  (959, .iconst 4, [], []),
  (960, .iadd, [], []),
  (961, .iaload, [], []),
  (962, .invokevirtual 91, [370, 290, 5, 1], [0, 0, 13]),
  (965, .if_icmp .eq 1039, [1498], []),
  (968, .iconst 0, [], []),
  (969, .ireturn, [4], []),
  (970, .aload_n 1, [], []),
  (971, .aload_n 0, [], []),
  (972, .iload_n 3, [], []),
  (973, .iconst 1, [], []),
  (974, .iadd, [], []),
  (975, .iaload, [], []),
  (976, .aload_n 0, [], []),
  (977, .iload_n 3, [], []),
  (978, .iconst 2, [], []),
  (979, .iadd, [], []),
  (980, .iaload, [], []),
  (981, .aload_n 0, [], []),
  (982, .iload_n 3, [], []),
  (983, .iconst 3, [], []),
  (984, .iadd, [], []),
  (985, .iaload, [], []),
  (986, .aload_n 0, [], []),
  (987, .iload_n 3, [], []),
  (988, .iconst 4, [], []),
  (989, .iadd, [], []),
  (990, .iaload, [], []),
  (991, .invokevirtual 92, [371, 157, 5, 1], [0, 0, 12]),
  (994, .aload_n 2, [], []),
  (995, .aload_n 0, [], []),
  (996, .iload_n 3, [], []),
  (997, .iconst 1, [], []),
  (998, .iadd, [], []),
  (999, .iaload, [], []),
  (1000, .aload_n 0, [], []),
  (1001, .iload_n 3, [], []),
  (1002, .iconst 2, [], []),
  (1003, .iadd, [], []),
  (1004, .iaload, [], []),
  (1005, .aload_n 0, [], []),
  (1006, .iload_n 3, [], []),
  (1007, .iconst 3, [], []),
  (1008, .iadd, [], []),
  (1009, .iaload, [], []),
  (1010, .aload_n 0, [], []),
  (1011, .iload_n 3, [], []),
  (1012, .iconst 4, [], []),
  (1013, .iadd, [], []),
  (1014, .iaload, [], []),
  (1015, .invokevirtual 95, [372, 291, 5, 1], [0, 0, 13]),
  (1018, .if_icmp .eq 986, [1498], []),
  (1021, .iconst 0, [], []),
  (1022, .ireturn, [4], []),
  (1023, .aload_n 1, [], []),
  (1024, .invokevirtual 96, [373, 161, 1, 1], [0, 0, 12]),
  (1027, .aload_n 2, [], []),
  (1028, .invokevirtual 99, [374, 293, 1, 1], [0, 0, 13]),
  (1031, .if_icmp .eq 973, [1498], []),
  (1034, .iconst 0, [], []),
  (1035, .ireturn, [4], []),
  (1036, .aload_n 1, [], []),
  (1037, .aload_n 0, [], []),
  (1038, .iload_n 3, [], []),
  (1039, .iconst 1, [], []),
  (1040, .iadd, [], []),
  (1041, .iaload, [], []),
  (1042, .aload_n 0, [], []),
  (1043, .iload_n 3, [], []),
  (1044, .iconst 2, [], []),
  (1045, .iadd, [], []),
  (1046, .iaload, [], []),
  (1047, .invokevirtual 100, [375, 162, 3, 1], [0, 0, 12]),
  (1050, .aload_n 2, [], []),
  (1051, .aload_n 0, [], []),
  (1052, .iload_n 3, [], []),
  (1053, .iconst 1, [], []),
  (1054, .iadd, [], []),
  (1055, .iaload, [], []),
  (1056, .aload_n 0, [], []),
  (1057, .iload_n 3, [], []),
  (1058, .iconst 2, [], []),
  (1059, .iadd, [], []),
  (1060, .iaload, [], []),
  (1061, .invokevirtual 103, [376, 295, 3, 1], [0, 0, 13]),
  (1064, .if_icmp .eq 940, [1498], []),
  (1067, .iconst 0, [], []),
  (1068, .ireturn, [4], []),
  (1069, .aload_n 1, [], []),
  (1070, .aload_n 0, [], []),
  (1071, .iload_n 3, [], []),
  (1072, .iconst 1, [], []),
  (1073, .iadd, [], []),
  (1074, .iaload, [], []),
  (1075, .aload_n 0, [], []),
  (1076, .iload_n 3, [], []),
  (1077, .iconst 2, [], []),
  (1078, .iadd, [], []),
  (1079, .iaload, [], []),
  (1080, .aload_n 0, [], []),
  (1081, .iload_n 3, [], []),
  (1082, .iconst 3, [], []),
  (1083, .iadd, [], []),
  (1084, .iaload, [], []),
  (1085, .aload_n 0, [], []),
  (1086, .iload_n 3, [], []),
  (1087, .iconst 4, [], []),
  (1088, .iadd, [], []),
  (1089, .iaload, [], []),
  (1090, .aload_n 0, [], []),
  (1091, .iload_n 3, [], []),
  (1092, .iconst 5, [], []),
  (1093, .iadd, [], []),
  (1094, .iaload, [], []),
  (1095, .invokevirtual 104, [377, 163, 6, 2], [0, 0, 12]),
  (1098, .aload_n 2, [], []),
  (1099, .aload_n 0, [], []),
  (1100, .iload_n 3, [], []),
  (1101, .iconst 1, [], []),
  (1102, .iadd, [], []),
  (1103, .iaload, [], []),
  (1104, .aload_n 0, [], []),
  (1105, .iload_n 3, [], []),
  (1106, .iconst 2, [], []),
  (1107, .iadd, [], []),
  (1108, .iaload, [], []),
  (1109, .aload_n 0, [], []),
  (1110, .iload_n 3, [], []),
  (1111, .iconst 3, [], []),
  (1112, .iadd, [], []),
  (1113, .iaload, [], []),
  (1114, .aload_n 0, [], []),
  (1115, .iload_n 3, [], []),
  (1116, .iconst 4, [], []),
  (1117, .iadd, [], []),
  (1118, .iaload, [], []),
  (1119, .aload_n 0, [], []),
  (1120, .iload_n 3, [], []),
  (1121, .iconst 5, [], []),
  (1122, .iadd, [], []),
  (1123, .iaload, [], []),
  (1124, .invokevirtual 108, [378, 227, 6, 2], [0, 0, 13]),
  (1127, .lcmp, [], []),
  (1128, .ifCond .eq 876, [1498], []),
  (1131, .iconst 0, [], []),
  (1132, .ireturn, [4], []),
  (1133, .aload_n 1, [], []),
  (1134, .aload_n 0, [], []),
  (1135, .iload_n 3, [], []),
  (1136, .iconst 1, [], []),
  (1137, .iadd, [], []),
  (1138, .iaload, [], []),
  (1139, .aload_n 0, [], []),
  (1140, .iload_n 3, [], []),
  (1141, .iconst 2, [], []),
  (1142, .iadd, [], []),
  (1143, .iaload, [], []),
  (1144, .aload_n 0, [], []),
  (1145, .iload_n 3, [], []),
  (1146, .iconst 3, [], []),
  (1147, .iadd, [], []),
  (1148, .iaload, [], []),
  (1149, .aload_n 0, [], []),
  (1150, .iload_n 3, [], []),
  (1151, .iconst 4, [], []),
  (1152, .iadd, [], []),
  (1153, .iaload, [], []),
  (1154, .invokevirtual 109, [379, 164, 5, 2], [0, 0, 12]),
  (1157, .aload_n 2, [], []),
  (1158, .aload_n 0, [], []),
  (1159, .iload_n 3, [], []),
  (1160, .iconst 1, [], []),
  (1161, .iadd, [], []),
  (1162, .iaload, [], []),
  (1163, .aload_n 0, [], []),
  (1164, .iload_n 3, [], []),
  (1165, .iconst 2, [], []),
  (1166, .iadd, [], []),
  (1167, .iaload, [], []),
  (1168, .aload_n 0, [], []),
  (1169, .iload_n 3, [], []),
  (1170, .iconst 3, [], []),
  (1171, .iadd, [], []),
  (1172, .iaload, [], []),
  (1173, .aload_n 0, [], []),
  (1174, .iload_n 3, [], []),
  (1175, .iconst 4, [], []),
  (1176, .iadd, [], []),
  (1177, .iaload, [], []),
  (1178, .invokevirtual 113, [380, 247, 5, 2], [0, 0, 13]),
  (1181, .lcmp, [], []),
  (1182, .ifCond .eq 822, [1498], []),
  (1185, .iconst 0, [], []),
  (1186, .ireturn, [4], []),
  (1187, .aload_n 1, [], []),
  (1188, .aload_n 0, [], []),
  (1189, .iload_n 3, [], []),
  (1190, .iconst 1, [], []),
  (1191, .iadd, [], []),
  (1192, .iaload, [], []),
  (1193, .aload_n 0, [], []),
  (1194, .iload_n 3, [], []),
  (1195, .iconst 2, [], []),
  (1196, .iadd, [], []),
  (1197, .iaload, [], []),
  (1198, .invokevirtual 114, [381, 165, 3, 1], [0, 0, 12]),
  (1201, .aload_n 2, [], []),
  (1202, .aload_n 0, [], []),
  (1203, .iload_n 3, [], []),
  (1204, .iconst 1, [], []),
  (1205, .iadd, [], []),
  (1206, .iaload, [], []),
  (1207, .aload_n 0, [], []),
  (1208, .iload_n 3, [], []),
  (1209, .iconst 2, [], []),
  (1210, .iadd, [], []),
  (1211, .iaload, [], []),
  (1212, .invokevirtual 117, [382, 250, 3, 1], [0, 0, 13]),
  (1215, .if_icmp .eq 789, [1498], []),
  (1218, .iconst 0, [], []),
  (1219, .ireturn, [4], []),
  (1220, .aload_n 1, [], []),
  (1221, .aload_n 0, [], []),
  (1222, .iload_n 3, [], []),
  (1223, .iconst 1, [], []),
  (1224, .iadd, [], []),
  (1225, .iaload, [], []),
  (1226, .aload_n 0, [], []),
  (1227, .iload_n 3, [], []),
  (1228, .iconst 2, [], []),
  (1229, .iadd, [], []),
  (1230, .iaload, [], []),
  (1231, .invokevirtual 118, [383, 166, 3, 1], [0, 0, 12]),
  (1234, .aload_n 2, [], []),
  (1235, .aload_n 0, [], []),
  (1236, .iload_n 3, [], []),
  (1237, .iconst 1, [], []),
  (1238, .iadd, [], []),
  (1239, .iaload, [], []),
  (1240, .aload_n 0, [], []),
  (1241, .iload_n 3, [], []),
  (1242, .iconst 2, [], []),
  (1243, .iadd, [], []),
  (1244, .iaload, [], []),
  (1245, .invokevirtual 121, [384, 252, 3, 1], [0, 0, 13]),
  (1248, .if_icmp .eq 756, [1498], []),
  (1251, .iconst 0, [], []),
  (1252, .ireturn, [4], []),
  (1253, .aload_n 1, [], []),
  (1254, .aload_n 0, [], []),
  (1255, .iload_n 3, [], []),
  (1256, .iconst 1, [], []),
  (1257, .iadd, [], []),
  (1258, .iaload, [], []),
  (1259, .aload_n 0, [], []),
  (1260, .iload_n 3, [], []),
  (1261, .iconst 2, [], []),
  (1262, .iadd, [], []),
  (1263, .iaload, [], []),
  (1264, .invokevirtual 122, [385, 167, 3, 1], [0, 0, 12]),
  (1267, .aload_n 2, [], []),
  (1268, .aload_n 0, [], []),
  (1269, .iload_n 3, [], []),
  (1270, .iconst 1, [], []),
  (1271, .iadd, [], []),
  (1272, .iaload, [], []),
  (1273, .aload_n 0, [], []),
  (1274, .iload_n 3, [], []),
  (1275, .iconst 2, [], []),
  (1276, .iadd, [], []),
  (1277, .iaload, [], []),
  (1278, .invokevirtual 125, [386, 253, 3, 1], [0, 0, 13]),
  (1281, .if_icmp .eq 723, [1498], []),
  (1284, .iconst 0, [], []),
  (1285, .ireturn, [4], []),
  (1286, .aload_n 1, [], []),
  (1287, .aload_n 0, [], []),
  (1288, .iload_n 3, [], []),
  (1289, .iconst 1, [], []),
  (1290, .iadd, [], []),
  (1291, .iaload, [], []),
  (1292, .aload_n 0, [], []),
  (1293, .iload_n 3, [], []),
  (1294, .iconst 2, [], []),
  (1295, .iadd, [], []),
  (1296, .iaload, [], []),
  (1297, .aload_n 0, [], []),
  (1298, .iload_n 3, [], []),
  (1299, .iconst 3, [], []),
  (1300, .iadd, [], []),
  (1301, .iaload, [], []),
  (1302, .invokevirtual 126, [387, 168, 4, 1], [0, 0, 12]),
  (1305, .aload_n 2, [], []),
  (1306, .aload_n 0, [], []),
  (1307, .iload_n 3, [], []),
  (1308, .iconst 1, [], []),
  (1309, .iadd, [], []),
  (1310, .iaload, [], []),
  (1311, .aload_n 0, [], []),
  (1312, .iload_n 3, [], []),
  (1313, .iconst 2, [], []),
  (1314, .iadd, [], []),
  (1315, .iaload, [], []),
  (1316, .aload_n 0, [], []),
  (1317, .iload_n 3, [], []),
  (1318, .iconst 3, [], []),
  (1319, .iadd, [], []),
  (1320, .iaload, [], []),
  (1321, .invokevirtual 129, [388, 255, 4, 1], [0, 0, 13]),
  (1324, .if_icmp .eq 680, [1498], []),
  (1327, .iconst 0, [], []),
  (1328, .ireturn, [4], []),
  (1329, .aload_n 1, [], []),
  (1330, .aload_n 0, [], []),
  (1331, .iload_n 3, [], []),
  (1332, .iconst 1, [], []),
  (1333, .iadd, [], []),
  (1334, .iaload, [], []),
  (1335, .aload_n 0, [], []),
  (1336, .iload_n 3, [], []),
  (1337, .iconst 2, [], []),
  (1338, .iadd, [], []),
  (1339, .iaload, [], []),
  (1340, .aload_n 0, [], []),
  (1341, .iload_n 3, [], []),
  (1342, .iconst 3, [], []),
  (1343, .iadd, [], []),
  (1344, .iaload, [], []),
  (1345, .invokevirtual 130, [389, 169, 4, 1], [0, 0, 12]),
  (1348, .aload_n 2, [], []),
  (1349, .aload_n 0, [], []),
  (1350, .iload_n 3, [], []),
  (1351, .iconst 1, [], []),
  (1352, .iadd, [], []),
  (1353, .iaload, [], []),
  (1354, .aload_n 0, [], []),
  (1355, .iload_n 3, [], []),
  (1356, .iconst 2, [], []),
  (1357, .iadd, [], []),
  (1358, .iaload, [], []),
  (1359, .aload_n 0, [], []),
  (1360, .iload_n 3, [], []),
  (1361, .iconst 3, [], []),
  (1362, .iadd, [], []),
  (1363, .iaload, [], []),
  (1364, .invokevirtual 133, [390, 256, 4, 1], [0, 0, 13]),
  (1367, .if_icmp .eq 637, [1498], []),
  (1370, .iconst 0, [], []),
  (1371, .ireturn, [4], []),
  (1372, .aload_n 1, [], []),
  (1373, .aload_n 0, [], []),
  (1374, .iload_n 3, [], []),
  (1375, .iconst 1, [], []),
  (1376, .iadd, [], []),
  (1377, .iaload, [], []),
  (1378, .aload_n 0, [], []),
  (1379, .iload_n 3, [], []),
  (1380, .iconst 2, [], []),
  (1381, .iadd, [], []),
  (1382, .iaload, [], []),
  (1383, .aload_n 0, [], []),
  (1384, .iload_n 3, [], []),
  (1385, .iconst 3, [], []),
  (1386, .iadd, [], []),
  (1387, .iaload, [], []),
  (1388, .aload_n 0, [], []),
  (1389, .iload_n 3, [], []),
  (1390, .iconst 4, [], []),
  (1391, .iadd, [], []),
  (1392, .iaload, [], []),
  (1393, .aload_n 0, [], []),
  (1394, .iload_n 3, [], []),
  (1395, .iconst 5, [], []),
  (1396, .iadd, [], []),
  (1397, .iaload, [], []),
  (1398, .aload_n 0, [], []),
  (1399, .iload_n 3, [], []),
  (1400, .bipush 6, [], []),
  (1402, .iadd, [], []),
  (1403, .iaload, [], []),
  (1404, .invokevirtual 134, [391, 170, 7, 1], [0, 0, 12]),
  (1407, .aload_n 2, [], []),
  (1408, .aload_n 0, [], []),
  (1409, .iload_n 3, [], []),
  (1410, .iconst 1, [], []),
  (1411, .iadd, [], []),
  (1412, .iaload, [], []),
  (1413, .aload_n 0, [], []),
  (1414, .iload_n 3, [], []),
  (1415, .iconst 2, [], []),
  (1416, .iadd, [], []),
  (1417, .iaload, [], []),
  (1418, .aload_n 0, [], []),
  (1419, .iload_n 3, [], []),
  (1420, .iconst 3, [], []),
  (1421, .iadd, [], []),
  (1422, .iaload, [], []),
  (1423, .aload_n 0, [], []),
  (1424, .iload_n 3, [], []),
  (1425, .iconst 4, [], []),
  (1426, .iadd, [], []),
  (1427, .iaload, [], []),
  (1428, .aload_n 0, [], []),
  (1429, .iload_n 3, [], []),
  (1430, .iconst 5, [], []),
  (1431, .iadd, [], []),
  (1432, .iaload, [], []),
  (1433, .aload_n 0, [], []),
  (1434, .iload_n 3, [], []),
  (1435, .bipush 6, [], []),
  (1437, .iadd, [], []),
  (1438, .iaload, [], []),
  (1439, .invokevirtual 137, [392, 257, 7, 1], [0, 0, 13]),
  (1442, .if_icmp .eq 562, [1498], []),
  (1445, .iconst 0, [], []),
  (1446, .ireturn, [4], []),
  (1447, .aload_n 1, [], []),
  (1448, .aload_n 0, [], []),
  (1449, .iload_n 3, [], []),
  (1450, .iconst 1, [], []),
  (1451, .iadd, [], []),
  (1452, .iaload, [], []),
  (1453, .invokevirtual 138, [393, 171, 2, 1], [0, 0, 12]),
  (1456, .aload_n 2, [], []),
  (1457, .aload_n 0, [], []),
  (1458, .iload_n 3, [], []),
  (1459, .iconst 1, [], []),
  (1460, .iadd, [], []),
  (1461, .iaload, [], []),
  (1462, .invokevirtual 141, [394, 262, 2, 1], [0, 0, 13]),
  (1465, .if_icmp .eq 539, [1498], []),
  (1468, .iconst 0, [], []),
  (1469, .ireturn, [4], []),
  (1470, .aload_n 1, [], []),
  (1471, .aload_n 0, [], []),
  (1472, .iload_n 3, [], []),
  (1473, .iconst 1, [], []),
  (1474, .iadd, [], []),
  (1475, .iaload, [], []),
  (1476, .aload_n 0, [], []),
  (1477, .iload_n 3, [], []),
  (1478, .iconst 2, [], []),
  (1479, .iadd, [], []),
  (1480, .iaload, [], []),
  (1481, .invokevirtual 142, [395, 172, 3, 1], [0, 0, 12]),
  (1484, .aload_n 2, [], []),
  (1485, .aload_n 0, [], []),
  (1486, .iload_n 3, [], []),
  (1487, .iconst 1, [], []),
  (1488, .iadd, [], []),
  (1489, .iaload, [], []),
  (1490, .aload_n 0, [], []),
  (1491, .iload_n 3, [], []),
  (1492, .iconst 2, [], []),
  (1493, .iadd, [], []),
  (1494, .iaload, [], []),
  (1495, .invokevirtual 145, [396, 263, 3, 1], [0, 0, 13]),
  (1498, .if_icmp .eq 506, [1498], []),
  (1501, .iconst 0, [], []),
  (1502, .ireturn, [4], []),
  (1503, .aload_n 1, [], []),
  (1504, .aload_n 0, [], []),
  (1505, .iload_n 3, [], []),
  (1506, .iconst 1, [], []),
  (1507, .iadd, [], []),
  (1508, .iaload, [], []),
  (1509, .aload_n 0, [], []),
  (1510, .iload_n 3, [], []),
  (1511, .iconst 2, [], []),
  (1512, .iadd, [], []),
  (1513, .iaload, [], []),
  (1514, .invokevirtual 146, [397, 174, 3, 1], [0, 0, 12]),
  (1517, .aload_n 2, [], []),
  (1518, .aload_n 0, [], []),
  (1519, .iload_n 3, [], []),
  (1520, .iconst 1, [], []),
  (1521, .iadd, [], []),
  (1522, .iaload, [], []),
  (1523, .aload_n 0, [], []),
  (1524, .iload_n 3, [], []),
  (1525, .iconst 2, [], []),
  (1526, .iadd, [], []),
  (1527, .iaload, [], []),
  (1528, .invokevirtual 149, [398, 265, 3, 1], [0, 0, 13]),
  (1531, .if_icmp .eq 473, [1498], []),
  (1534, .iconst 0, [], []),
  (1535, .ireturn, [4], []),
  (1536, .aload_n 1, [], []),
  (1537, .aload_n 0, [], []),
  (1538, .iload_n 3, [], []),
  (1539, .iconst 1, [], []),
  (1540, .iadd, [], []),
  (1541, .iaload, [], []),
  (1542, .aload_n 0, [], []),
  (1543, .iload_n 3, [], []),
  (1544, .iconst 2, [], []),
  (1545, .iadd, [], []),
  (1546, .iaload, [], []),
  (1547, .invokevirtual 150, [399, 175, 3, 1], [0, 0, 12]),
  (1550, .aload_n 2, [], []),
  (1551, .aload_n 0, [], []),
  (1552, .iload_n 3, [], []),
  (1553, .iconst 1, [], []),
  (1554, .iadd, [], []),
  (1555, .iaload, [], []),
  (1556, .aload_n 0, [], []),
  (1557, .iload_n 3, [], []),
  (1558, .iconst 2, [], []),
  (1559, .iadd, [], []),
  (1560, .iaload, [], []),
  (1561, .invokevirtual 153, [400, 266, 3, 1], [0, 0, 13]),
  (1564, .if_icmp .eq 440, [1498], []),
  (1567, .iconst 0, [], []),
  (1568, .ireturn, [4], []),
  (1569, .aload_n 1, [], []),
  (1570, .aload_n 0, [], []),
  (1571, .iload_n 3, [], []),
  (1572, .iconst 1, [], []),
  (1573, .iadd, [], []),
  (1574, .iaload, [], []),
  (1575, .aload_n 0, [], []),
  (1576, .iload_n 3, [], []),
  (1577, .iconst 2, [], []),
  (1578, .iadd, [], []),
  (1579, .iaload, [], []),
  (1580, .invokevirtual 154, [401, 173, 3, 1], [0, 0, 12]),
  (1583, .aload_n 2, [], []),
  (1584, .aload_n 0, [], []),
  (1585, .iload_n 3, [], []),
  (1586, .iconst 1, [], []),
  (1587, .iadd, [], []),
  (1588, .iaload, [], []),
  (1589, .aload_n 0, [], []),
  (1590, .iload_n 3, [], []),
  (1591, .iconst 2, [], []),
  (1592, .iadd, [], []),
  (1593, .iaload, [], []),
  (1594, .invokevirtual 157, [402, 268, 3, 1], [0, 0, 13]),
  (1597, .if_icmp .eq 407, [1498], []),
  (1600, .iconst 0, [], []),
  (1601, .ireturn, [4], []),
  (1602, .aload_n 1, [], []),
  (1603, .aload_n 0, [], []),
  (1604, .iload_n 3, [], []),
  (1605, .iconst 1, [], []),
  (1606, .iadd, [], []),
  (1607, .iaload, [], []),
  (1608, .aload_n 0, [], []),
  (1609, .iload_n 3, [], []),
  (1610, .iconst 2, [], []),
  (1611, .iadd, [], []),
  (1612, .iaload, [], []),
  (1613, .aload_n 0, [], []),
  (1614, .iload_n 3, [], []),
  (1615, .iconst 3, [], []),
  (1616, .iadd, [], []),
  (1617, .iaload, [], []),
  (1618, .invokevirtual 158, [403, 176, 4, 1], [0, 0, 12]),
  (1621, .aload_n 2, [], []),
  (1622, .aload_n 0, [], []),
  (1623, .iload_n 3, [], []),
  (1624, .iconst 1, [], []),
  (1625, .iadd, [], []),
  (1626, .iaload, [], []),
  (1627, .aload_n 0, [], []),
  (1628, .iload_n 3, [], []),
  (1629, .iconst 2, [], []),
  (1630, .iadd, [], []),
  (1631, .iaload, [], []),
  (1632, .aload_n 0, [], []),
  (1633, .iload_n 3, [], []),
  (1634, .iconst 3, [], []),
  (1635, .iadd, [], []),
  (1636, .iaload, [], []),
  (1637, .invokevirtual 161, [404, 270, 4, 1], [0, 0, 13]),
  (1640, .if_icmp .eq 364, [1498], []),
  (1643, .iconst 0, [], []),
  (1644, .ireturn, [4], []),
  (1645, .aload_n 1, [], []),
  (1646, .aload_n 0, [], []),
  (1647, .iload_n 3, [], []),
  (1648, .iconst 1, [], []),
  (1649, .iadd, [], []),
  (1650, .iaload, [], []),
  (1651, .aload_n 0, [], []),
  (1652, .iload_n 3, [], []),
  (1653, .iconst 2, [], []),
  (1654, .iadd, [], []),
  (1655, .iaload, [], []),
  (1656, .aload_n 0, [], []),
  (1657, .iload_n 3, [], []),
  (1658, .iconst 3, [], []),
  (1659, .iadd, [], []),
  (1660, .iaload, [], []),
  (1661, .aload_n 0, [], []),
  (1662, .iload_n 3, [], []),
  (1663, .iconst 4, [], []),
  (1664, .iadd, [], []),
  (1665, .iaload, [], []),
  (1666, .invokevirtual 162, [405, 178, 5, 1], [0, 0, 12]),
  (1669, .aload_n 2, [], []),
  (1670, .aload_n 0, [], []),
  (1671, .iload_n 3, [], []),
  (1672, .iconst 1, [], []),
  (1673, .iadd, [], []),
  (1674, .iaload, [], []),
  (1675, .aload_n 0, [], []),
  (1676, .iload_n 3, [], []),
  (1677, .iconst 2, [], []),
  (1678, .iadd, [], []),
  (1679, .iaload, [], []),
  (1680, .aload_n 0, [], []),
  (1681, .iload_n 3, [], []),
  (1682, .iconst 3, [], []),
  (1683, .iadd, [], []),
  (1684, .iaload, [], []),
  (1685, .aload_n 0, [], []),
  (1686, .iload_n 3, [], []),
  (1687, .iconst 4, [], []),
  (1688, .iadd, [], []),
  (1689, .iaload, [], []),
  (1690, .invokevirtual 165, [406, 273, 5, 1], [0, 0, 13]),
  (1693, .if_icmp .eq 311, [1498], []),
  (1696, .iconst 0, [], []),
  (1697, .ireturn, [4], []),
  (1698, .aload_n 1, [], []),
  (1699, .aload_n 0, [], []),
  (1700, .iload_n 3, [], []),
  (1701, .iconst 1, [], []),
  (1702, .iadd, [], []),
  (1703, .iaload, [], []),
  (1704, .aload_n 0, [], []),
  (1705, .iload_n 3, [], []),
  (1706, .iconst 2, [], []),
  (1707, .iadd, [], []),
  (1708, .iaload, [], []),
  (1709, .aload_n 0, [], []),
  (1710, .iload_n 3, [], []),
  (1711, .iconst 3, [], []),
  (1712, .iadd, [], []),
  (1713, .iaload, [], []),
  (1714, .aload_n 0, [], []),
  (1715, .iload_n 3, [], []),
  (1716, .iconst 4, [], []),
  (1717, .iadd, [], []),
  (1718, .iaload, [], []),
  (1719, .invokevirtual 166, [407, 180, 5, 1], [0, 0, 12]),
  (1722, .aload_n 2, [], []),
  (1723, .aload_n 0, [], []),
  (1724, .iload_n 3, [], []),
  (1725, .iconst 1, [], []),
  (1726, .iadd, [], []),
  (1727, .iaload, [], []),
  (1728, .aload_n 0, [], []),
  (1729, .iload_n 3, [], []),
  (1730, .iconst 2, [], []),
  (1731, .iadd, [], []),
  (1732, .iaload, [], []),
  (1733, .aload_n 0, [], []),
  (1734, .iload_n 3, [], []),
  (1735, .iconst 3, [], []),
  (1736, .iadd, [], []),
  (1737, .iaload, [], []),
  (1738, .aload_n 0, [], []),
  (1739, .iload_n 3, [], []),
  (1740, .iconst 4, [], []),
  (1741, .iadd, [], []),
  (1742, .iaload, [], []),
  (1743, .invokevirtual 169, [408, 321, 5, 1], [0, 0, 13]),
  (1746, .if_icmp .eq 258, [1498], []),
  (1749, .iconst 0, [], []),
  (1750, .ireturn, [4], []),
  (1751, .aload_n 1, [], []),
  (1752, .aload_n 0, [], []),
  (1753, .iload_n 3, [], []),
  (1754, .iconst 1, [], []),
  (1755, .iadd, [], []),
  (1756, .iaload, [], []),
  (1757, .aload_n 0, [], []),
  (1758, .iload_n 3, [], []),
  (1759, .iconst 2, [], []),
  (1760, .iadd, [], []),
  (1761, .iaload, [], []),
  (1762, .aload_n 0, [], []),
  (1763, .iload_n 3, [], []),
  (1764, .iconst 3, [], []),
  (1765, .iadd, [], []),
  (1766, .iaload, [], []),
  (1767, .invokevirtual 170, [409, 183, 4, 1], [0, 0, 12]),
  (1770, .aload_n 2, [], []),
  (1771, .aload_n 0, [], []),
  (1772, .iload_n 3, [], []),
  (1773, .iconst 1, [], []),
  (1774, .iadd, [], []),
  (1775, .iaload, [], []),
  (1776, .aload_n 0, [], []),
  (1777, .iload_n 3, [], []),
  (1778, .iconst 2, [], []),
  (1779, .iadd, [], []),
  (1780, .iaload, [], []),
  (1781, .aload_n 0, [], []),
  (1782, .iload_n 3, [], []),
  (1783, .iconst 3, [], []),
  (1784, .iadd, [], []),
  (1785, .iaload, [], []),
  (1786, .invokevirtual 173, [410, 322, 4, 1], [0, 0, 13]),
  (1789, .if_icmp .eq 215, [1498], []),
  (1792, .iconst 0, [], []),
  (1793, .ireturn, [4], []),
  (1794, .aload_n 1, [], []),
  (1795, .aload_n 0, [], []),
  (1796, .iload_n 3, [], []),
  (1797, .iconst 1, [], []),
  (1798, .iadd, [], []),
  (1799, .iaload, [], []),
  (1800, .aload_n 0, [], []),
  (1801, .iload_n 3, [], []),
  (1802, .iconst 2, [], []),
  (1803, .iadd, [], []),
  (1804, .iaload, [], []),
  (1805, .invokevirtual 174, [411, 184, 3, 1], [0, 0, 12]),
  (1808, .aload_n 2, [], []),
  (1809, .aload_n 0, [], []),
  (1810, .iload_n 3, [], []),
  (1811, .iconst 1, [], []),
  (1812, .iadd, [], []),
  (1813, .iaload, [], []),
  (1814, .aload_n 0, [], []),
  (1815, .iload_n 3, [], []),
  (1816, .iconst 2, [], []),
  (1817, .iadd, [], []),
  (1818, .iaload, [], []),
  (1819, .invokevirtual 177, [412, 324, 3, 1], [0, 0, 13]),
  (1822, .if_icmp .eq 182, [1498], []),
  (1825, .iconst 0, [], []),
  (1826, .ireturn, [4], []),
  (1827, .aload_n 1, [], []),
  (1828, .invokevirtual 178, [413, 185, 1, 1], [0, 0, 12]),
  (1831, .aload_n 2, [], []),
  (1832, .invokevirtual 181, [414, 325, 1, 1], [0, 0, 13]),
  (1835, .if_icmp .eq 169, [1498], []),
  (1838, .iconst 0, [], []),
  (1839, .ireturn, [4], []),
  (1840, .aload_n 1, [], []),
  (1841, .aload_n 0, [], []),
  (1842, .iload_n 3, [], []),
  (1843, .iconst 1, [], []),
  (1844, .iadd, [], []),
  (1845, .iaload, [], []),
  (1846, .invokevirtual 182, [415, 186, 2, 1], [0, 0, 12]),
  (1849, .aload_n 2, [], []),
  (1850, .aload_n 0, [], []),
  (1851, .iload_n 3, [], []),
  (1852, .iconst 1, [], []),
  (1853, .iadd, [], []),
  (1854, .iaload, [], []),
  (1855, .invokevirtual 185, [416, 327, 2, 1], [0, 0, 13]),
  (1858, .if_icmp .eq 146, [1498], []),
  (1861, .iconst 0, [], []),
  (1862, .ireturn, [4], []),
  (1863, .aload_n 1, [], []),
  (1864, .aload_n 0, [], []),
  (1865, .iload_n 3, [], []),
  (1866, .iconst 1, [], []),
  (1867, .iadd, [], []),
  (1868, .iaload, [], []),
  (1869, .invokevirtual 186, [417, 187, 2, 1], [0, 0, 12]),
  (1872, .aload_n 2, [], []),
  (1873, .aload_n 0, [], []),
  (1874, .iload_n 3, [], []),
  (1875, .iconst 1, [], []),
  (1876, .iadd, [], []),
  (1877, .iaload, [], []),
  (1878, .invokevirtual 189, [418, 328, 2, 1], [0, 0, 13]),
  (1881, .if_icmp .eq 123, [1498], []),
  (1884, .iconst 0, [], []),
  (1885, .ireturn, [4], []),
  (1886, .aload_n 1, [], []),
  (1887, .aload_n 0, [], []),
  (1888, .iload_n 3, [], []),
  (1889, .iconst 1, [], []),
  (1890, .iadd, [], []),
  (1891, .iaload, [], []),
  (1892, .invokevirtual 190, [419, 188, 2, 1], [0, 0, 12]),
  (1895, .aload_n 2, [], []),
  (1896, .aload_n 0, [], []),
  (1897, .iload_n 3, [], []),
  (1898, .iconst 1, [], []),
  (1899, .iadd, [], []),
  (1900, .iaload, [], []),
  (1901, .invokevirtual 193, [420, 329, 2, 1], [0, 0, 13]),
  (1904, .if_icmp .eq 100, [1498], []),
  (1907, .iconst 0, [], []),
  (1908, .ireturn, [4], []),
  (1909, .aload_n 1, [], []),
  (1910, .aload_n 0, [], []),
  (1911, .iload_n 3, [], []),
  (1912, .iconst 1, [], []),
  (1913, .iadd, [], []),
  (1914, .iaload, [], []),
  (1915, .invokevirtual 194, [421, 189, 2, 1], [0, 0, 12]),
  (1918, .aload_n 2, [], []),
  (1919, .aload_n 0, [], []),
  (1920, .iload_n 3, [], []),
  (1921, .iconst 1, [], []),
  (1922, .iadd, [], []),
  (1923, .iaload, [], []),
  (1924, .invokevirtual 197, [422, 331, 2, 1], [0, 0, 13]),
  (1927, .if_icmp .eq 77, [1498], []),
  (1930, .iconst 0, [], []),
  (1931, .ireturn, [4], []),
  (1932, .aload_n 1, [], []),
  (1933, .aload_n 0, [], []),
  (1934, .iload_n 3, [], []),
  (1935, .iconst 1, [], []),
  (1936, .iadd, [], []),
  (1937, .iaload, [], []),
  (1938, .invokevirtual 198, [423, 190, 2, 1], [0, 0, 12]),
  (1941, .aload_n 2, [], []),
  (1942, .aload_n 0, [], []),
  (1943, .iload_n 3, [], []),
  (1944, .iconst 1, [], []),
  (1945, .iadd, [], []),
  (1946, .iaload, [], []),
  (1947, .invokevirtual 201, [424, 332, 2, 1], [0, 0, 13]),
  (1950, .if_icmp .eq 54, [1498], []),
  (1953, .iconst 0, [], []),
  (1954, .ireturn, [4], []),
  (1955, .aload_n 1, [], []),
  (1956, .invokevirtual 202, [425, 191, 1, 1], [0, 0, 12]),
  (1959, .aload_n 2, [], []),
  (1960, .invokevirtual 205, [426, 334, 1, 1], [0, 0, 13]),
  (1963, .if_icmp .eq 41, [1498], []),
  (1966, .iconst 0, [], []),
  (1967, .ireturn, [4], []),
  (1968, .aload_n 1, [], []),
  (1969, .invokevirtual 206, [427, 192, 1, 1], [0, 0, 12]),
  (1972, .aload_n 2, [], []),
  (1973, .invokevirtual 209, [428, 335, 1, 1], [0, 0, 13]),
  (1976, .if_icmp .eq 28, [1498], []),
  (1979, .iconst 0, [], []),
  (1980, .ireturn, [4], []),
  (1981, .aload_n 1, [], []),
  (1982, .aload_n 0, [], []),
  (1983, .iload_n 3, [], []),
  (1984, .iconst 1, [], []),
  (1985, .iadd, [], []),
  (1986, .iaload, [], []),
  (1987, .invokevirtual 210, [429, 193, 2, 1], [0, 0, 12]),
  (1990, .aload_n 2, [], []),
  (1991, .aload_n 0, [], []),
  (1992, .iload_n 3, [], []),
  (1993, .iconst 1, [], []),
  (1994, .iadd, [], []),
  (1995, .iaload, [], []),
  (1996, .invokevirtual 213, [430, 337, 2, 1], [0, 0, 13]),
  (1999, .if_icmp .eq 5, [1498], []),
  (2002, .iconst 0, [], []),
  (2003, .ireturn, [4], []),
  (2004, .iinc 3 7, [], []),
  (2007, .goto (-1989), [10], []),
  (2010, .iconst 1, [], []),
  (2011, .ireturn, [4], [])]
noncomputable def zcode : List (List (Nat × Jvm.ClassFile.Instr × List Nat × List Int)) := [zc_X0_init, zc_X0_places, zc_X0_left, zc_X0_inAll, zc_X0_drawnFrom, zc_X0_drawFrom, zc_X0_draw, zc_X0_carveBy, zc_X0_tellBack, zc_X0_takeFrom, zc_X1_init, zc_X1_numerator, zc_X1_denominator, zc_X1_isAboveZero, zc_X1_isBelowZero, zc_X1_isAbove, zc_X1_putWhole, zc_X1_put, zc_X1_take, zc_X1_takeLesser, zc_X1_takeGreater, zc_X1_changeWith, zc_X1_turnSign, zc_X1_becomeAmount, zc_X1_lessen, zc_X1_mix, zc_X2_isUnder, zc_X2_isSolid, zc_X2_isPair, zc_X2_numbersOf, zc_X2_allMayBe, zc_X2_mayBe, zc_X2_isSpot, zc_X2_mayHaveMinus, zc_X2_wordOf, zc_X3_init, zc_X3_forgetFrom, zc_X3_placesOf, zc_X3_lookedAt, zc_X3_look, zc_X3_lookAtEighths, zc_X4_init, zc_X4_worthAt, zc_X4_find, zc_X4_ofSolid, zc_X4_ofPair, zc_X4_ofChange, zc_X4_move, zc_X5_init, zc_X5_contains, zc_X5_add, zc_X5_addCube, zc_X5_clear, zc_X5_takeFrom, zc_X5_becomeBall, zc_X5_becomeCarving, zc_X5_flip, zc_X5_size, zc_X5_sizeOfBoth, zc_X5_sizeOfOne, zc_X5_sizeAt, zc_X5_ofThem, zc_X6_init, zc_X6_size, zc_X6_made, zc_X6_isFull, zc_X6_put, zc_X6_empty, zc_X6_read, zc_X6_begin, zc_X6_begun, zc_X6_end, zc_X6_write, zc_X6_isFault, zc_X6_byteAt, zc_X6_skipBlanks, zc_X6_readSign, zc_X6_readWord, zc_X6_isWord, zc_X6_readNumber, zc_X7_init, zc_X7_heldBy, zc_X7_sizeOf, zc_X7_full, zc_X7_putRow, zc_X7_putShape, zc_X7_keepShapesBelow, zc_X7_isElement, zc_X7_elementOf, zc_X7_putElement, zc_X7_narrowed, zc_X7_moveElements, zc_X8_init, zc_X8_putFrom, zc_X8_putTo, zc_X8_lowest, zc_X8_highest, zc_X8_findFor, zc_X8_find, zc_X8_ofBall, zc_X8_ofBox, zc_X8_ofHalf, zc_X8_ofPair, zc_X8_ofChange, zc_X8_becomeAmounts, zc_X8_move, zc_X8_repeat, zc_X8_mirror, zc_X8_turn, zc_X9_init, zc_X9_size, zc_X9_resize, zc_X9_kindOf, zc_X9_firstOf, zc_X9_secondOf, zc_X9_deepOf, zc_X9_solidsOf, zc_X9_blendsOf, zc_X9_numberOf, zc_X9_isTooDeep, zc_X9_deepOver, zc_X9_blendsOver, zc_X9_write, zc_X9_takeFrom, zc_X10_init, zc_X10_stepsTillIn, zc_X10_placesIn, zc_X10_timesOver, zc_X10_parts, zc_X10_greatest, zc_X10_leastOfGreatest, zc_X10_walk, zc_X10_skinOf, zc_X10_isBare, zc_X10_neighbour, zc_X10_part, zc_X10_sizeOfPiece, zc_X11_init, zc_X11_row, zc_X11_set, zc_X11_copy, zc_X11_element, zc_X11_holds, zc_X11_show, zc_X11_says, zc_X11_saysRefusal, zc_X11_saidOfNumbers, zc_X11_feed, zc_X11_wipe, zc_X11_shape, zc_X11_ball, zc_X11_box, zc_X11_half, zc_X11_pair, zc_X11_blend, zc_X11_shift, zc_X11_change, zc_X11_grown, zc_X11_putNumbers, zc_X11_built, zc_X11_added, zc_X11_drop, zc_X11_shapeOf, zc_X11_worth, zc_X11_bounds, zc_X11_in, zc_X11_count, zc_X11_placeOf, zc_X11_slice, zc_X11_reach, zc_X11_ray, zc_X11_skin, zc_X11_pieces, zc_X11_even, zc_X11_both, zc_X11_differ, zc_X11_apart, zc_X11_meets, zc_X11_enough, zc_X11_countBlends, zc_X11_kinds, zc_X11_isSoOfPair, zc_X11_isInPair, zc_X11_judge, zc_X11_carve, zc_X11_undo, zc_X11_block, zc_X11_has, zc_X11_off, zc_X11_days, zc_X11_seed, zc_X11_image, zc_X11_back, zc_X11_status, zc_X11_refused, zc_X11_rowRefusal, zc_X11_toldRefusal, zc_X11_isShape, zc_X11_placesOf, zc_X11_worthIn, zc_X11_isBetween, zc_X11_isShelf, zc_X11_isPlace, zc_X11_isAxis, zc_X11_isNear, zc_X11_isStep, zc_X11_isRun, zc_X11_isRegion, zc_X11_placeAt, zc_X11_numberOn, zc_X11_shiftOf, zc_X11_moved, zc_X12_init, zc_X12_is, zc_X12_refused, zc_X12_refusedLong, zc_X12_of, zc_X12_number, zc_X12_isShape, zc_X12_worthAt, zc_X12_beyond, zc_X12_blended, zc_X12_grownBy, zc_X12_pick, zc_X12_changed, zc_X12_common, zc_X12_lowest, zc_X12_worth, zc_X12_leastSquare, zc_X12_greatestSquare, zc_X12_bound, zc_X12_lowBeyond, zc_X12_highBeyond, zc_X12_lesser, zc_X12_boundPair, zc_X12_isWithin, zc_X12_repeatFrom, zc_X12_repeatTo, zc_X12_mirrorFrom, zc_X12_mirrorTo, zc_X12_boundChange, zc_X12_boundTurn, zc_X12_boundGrown, zc_X12_xOf, zc_X12_yOf, zc_X12_zOf, zc_X12_isPlace, zc_X12_bounds, zc_X12_isInside, zc_X12_fills, zc_X12_in, zc_X12_looked, zc_X12_count, zc_X12_placeOf, zc_X12_axisOf, zc_X12_slice, zc_X12_reach, zc_X12_ray, zc_X12_neighbour, zc_X12_skinOf, zc_X12_piece, zc_X12_piecesOf, zc_X12_skin, zc_X12_pieces, zc_X12_fillsBoth, zc_X12_both, zc_X12_differ, zc_X12_turned, zc_X12_even, zc_X12_meets, zc_X12_apart, zc_X12_blendsOver, zc_X12_deepOver, zc_X12_enough, zc_X12_isNumber, zc_X12_aheadOf, zc_X12_numbersOf, zc_X12_areNumbers, zc_X12_deepBy, zc_X12_blendsBy, zc_X12_isTooDeep, zc_X12_comes, zc_X12_made, zc_X12_tells, zc_X12_ball, zc_X12_box, zc_X12_half, zc_X12_pair, zc_X12_blend, zc_X12_shift, zc_X12_change, zc_X12_grown, zc_X12_looseShelves, zc_X12_drop, zc_X12_solids, zc_X12_shapeOf, zc_X12_feed, zc_X12_wipe, zc_X12_byteAt, zc_X12_wordOf, zc_X12_next, zc_X12_isSign, zc_X12_isBelow, zc_X12_areRead, zc_X12_shapeRead, zc_X12_isClosed, zc_X12_shape, zc_X12_isShelf, zc_X12_row, zc_X12_lowest_, zc_X12_set, zc_X12_copy, zc_X12_element, zc_X12_holds, zc_X12_show, zc_X12_isUnder, zc_X12_wholePlaces, zc_X12_says, zc_X12_saysOf, zc_X12_isTold, zc_X12_isPaired, zc_X12_kinds, zc_X12_judge, zc_X12_carves, zc_X12_carve, zc_X12_undo, zc_X12_blockMany, zc_X12_block, zc_X12_has, zc_X12_off, zc_X12_draw, zc_X12_days, zc_X12_seed, zc_X12_copies, zc_X12_image, zc_X12_back, zc_X12_held, zc_X12_status, zc_J13_bitCount_95d88, zc_J9_floorMod_7cf53, zc_J9_abs_067f4, zc_J9_max_7cf53, zc_J9_max_f86c9, zc_J9_min_7cf53, zc_J9_min_f86c9, zc_J0_length_8abf5, zc_J0_charAt_5068e, zc_J0_coder_7d493, zc_J0_isLatin1_aae02, zc_J0_checkIndex_df160, zc_J1_charAt_3b067, zc_J3_checkIndex_8e157, zc_L_law]
def zmls : List Nat := [2, 1, 1, 1, 1, 2, 2, 4, 1, 3, 1, 1, 1, 1, 1, 2, 3, 12, 2, 2, 2, 6, 1, 1, 3, 4, 4, 1, 1, 1, 3, 4, 1, 2, 1, 2, 3, 3, 3, 8, 6, 2, 6, 6, 10, 9, 6, 10, 1, 2, 2, 8, 2, 3, 8, 9, 3, 3, 4, 4, 7, 4, 1, 1, 1, 1, 2, 1, 4, 5, 3, 8, 6, 2, 2, 2, 2, 3, 4, 7, 2, 2, 2, 3, 5, 3, 3, 3, 3, 5, 3, 6, 2, 4, 4, 1, 1, 3, 5, 13, 12, 12, 9, 6, 3, 8, 6, 5, 4, 1, 1, 2, 2, 2, 2, 2, 2, 2, 3, 4, 4, 4, 7, 2, 1, 1, 1, 1, 1, 1, 1, 10, 4, 3, 2, 4, 7, 1, 4, 6, 8, 3, 2, 3, 7, 5, 7, 2, 2, 3, 5, 7, 5, 4, 5, 5, 5, 5, 4, 4, 2, 1, 3, 7, 6, 3, 3, 4, 4, 7, 7, 2, 3, 6, 3, 6, 7, 5, 6, 13, 8, 8, 7, 7, 3, 1, 2, 2, 2, 7, 3, 1, 1, 2, 3, 3, 9, 2, 2, 3, 3, 1, 1, 1, 1, 1, 3, 3, 3, 2, 1, 3, 1, 6, 2, 2, 3, 3, 2, 13, 4, 8, 2, 4, 10, 10, 5, 6, 4, 4, 17, 5, 5, 6, 15, 3, 3, 3, 3, 3, 13, 15, 7, 1, 1, 1, 1, 5, 3, 5, 3, 9, 3, 5, 2, 6, 7, 16, 4, 7, 7, 8, 3, 4, 7, 3, 4, 3, 5, 5, 6, 3, 3, 12, 4, 3, 1, 3, 4, 5, 4, 11, 4, 5, 5, 7, 5, 4, 5, 5, 5, 5, 2, 1, 2, 3, 2, 2, 2, 6, 2, 2, 2, 7, 11, 1, 7, 1, 5, 3, 5, 8, 3, 2, 3, 2, 4, 4, 5, 4, 9, 10, 6, 6, 4, 2, 3, 3, 2, 4, 2, 11, 3, 3, 2, 2, 3, 2, 2, 3, 2, 2, 4, 2, 4, 1, 2, 1, 1, 2, 2, 3, 4]
end
section
/-! A small machine: words are tagged Int, memory is (object number, slot) ↦ Int. 'zstp' is one instruction, in continuation form. -/
abbrev zV : Type := Int ⊕ (Int ⊕ ((Int × Int × Int) ⊕ Unit))
abbrev zI (x : Int) : zV := .inl x
abbrev zJ (x : Int) : zV := .inr (.inl x)
abbrev zA (c n a : Int) : zV := .inr (.inr (.inl (c, n, a)))
abbrev zU : zV := .inr (.inr (.inr ()))
abbrev zMem : Type := Int → Int → Int
def zw8 (z : Int) : Int := Int.bmod z 256
def zw16 (z : Int) : Int := Int.bmod z 65536
def zw32 (z : Int) : Int := Int.bmod z 4294967296
def zw64 (z : Int) : Int := Int.bmod z 18446744073709551616
def zu32 (z : Int) : Nat := (z % 4294967296).toNat
def zu64 (z : Int) : Nat := (z % 18446744073709551616).toNat
def zand (x y : Int) : Int := zw32 ((zu32 x &&& zu32 y : Nat) : Int)
def zor (x y : Int) : Int := zw32 ((zu32 x ||| zu32 y : Nat) : Int)
def zxor (x y : Int) : Int := zw32 ((zu32 x ^^^ zu32 y : Nat) : Int)
def zandL (x y : Int) : Int := zw64 ((zu64 x &&& zu64 y : Nat) : Int)
def zorL (x y : Int) : Int := zw64 ((zu64 x ||| zu64 y : Nat) : Int)
def zxorL (x y : Int) : Int := zw64 ((zu64 x ^^^ zu64 y : Nat) : Int)
def zshl (x s : Int) : Int := zw32 (x * 2 ^ (zu32 s % 32))
def zshr (x s : Int) : Int := x / 2 ^ (zu32 s % 32)
def zushr (x s : Int) : Int := zw32 ((zu32 x / 2 ^ (zu32 s % 32) : Nat) : Int)
def zshlL (x s : Int) : Int := zw64 (x * 2 ^ (zu32 s % 64))
def zushrL (x s : Int) : Int := zw64 ((zu64 x / 2 ^ (zu32 s % 64) : Nat) : Int)
def zcmp (x y : Int) : Int := if x < y then -1 else if x = y then 0 else 1
/-- the arithmetic, by numbers -/
def zarR (o : Nat) (x y : Int) : Int := match o with
  | 0 => zw32 (x + y)
  | 1 => zw32 (x - y)
  | 2 => zw32 (x * y)
  | 3 => zw32 (x.tdiv y)
  | 4 => x.tmod y
  | 5 => zw32 (-x)
  | 6 => zand x y
  | 7 => zor x y
  | 8 => zxor x y
  | 9 => zshl x y
  | 10 => zshr x y
  | 11 => zushr x y
  | 12 => zw64 (x + y)
  | 13 => zw64 (x - y)
  | 14 => zw64 (x * y)
  | 15 => zw64 (x.tdiv y)
  | 16 => zw64 (-x)
  | 17 => zandL x y
  | 18 => zorL x y
  | 19 => zxorL x y
  | 20 => zshlL x y
  | 21 => zushrL x y
  | 22 => zcmp x y
  | 23 => zw32 x
  | 24 => zw8 x
  | 25 => zw16 x
  | 26 => x % 65536
  | _ => 0
noncomputable def zhide {α : Type} (a : α) : {x : α // x = a} := Classical.choice ⟨⟨a, rfl⟩⟩
/-- the same, but nothing opens it -/
noncomputable def zar : Nat → Int → Int → Int := (zhide zarR).val
theorem zar_eq : zar = zarR := (zhide zarR).property
def znth {β : Type} : List β → Nat → Option β
  | [], _ => none
  | a :: _, 0 => some a
  | _ :: l, n + 1 => znth l n
def zlng : Nat → zV → zV
  | 0, .inr (.inl _) => zU
  | _, a => a
def zst1 : List zV → Nat → zV → List zV
  | [], _, _ => []
  | _ :: l, 0, v => v :: l
  | a :: l, n + 1, v => zlng n a :: zst1 l n v
def zst2 : List zV → Nat → zV → List zV
  | [], _, _ => []
  | _ :: [], 0, v => [v]
  | _ :: _ :: l, 0, v => v :: zU :: l
  | a :: l, n + 1, v => zlng n a :: zst2 l n v
def zcat : zV → Nat
  | .inr (.inl _) => 2
  | _ => 1
def zcats : List zV → Nat
  | [] => 0
  | a :: l => zcat a + zcats l
def zspread : List zV → List zV
  | [] => []
  | .inr (.inl x) :: r => zJ x :: zU :: zspread r
  | .inl x :: r => zI x :: zspread r
  | .inr (.inr x) :: r => .inr (.inr x) :: zspread r
def zent (n : Nat) (as : List zV) : List zV := zspread as ++ List.replicate (n - (zspread as).length) zU
/-- a number whose definition is high: what is above it is opened before 'ite' -/
def zT0 : Nat := 0
def zT1 : Nat := zT0
def zT2 : Nat := zT1
def zT3 : Nat := zT2
def zT4 : Nat := zT3
def zT5 : Nat := zT4
def zT6 : Nat := zT5
def zT7 : Nat := zT6
def zT8 : Nat := zT7
/-- what a call's answer is on the stack: kind 0 nothing, 2 a long, 3 a reference with its tag, else an int -/
def zpush (k : Nat) (c n : Int) (r : Int) (st : List zV) : List zV := match k with
  | 0 => st
  | 2 => zJ r :: st
  | 3 => zA c n r :: st
  | _ => zI r :: st
section
variable {α : Type}
def zi1 (kf : α) (st : List zV) (f : Int → List zV → α) : α := match st, zT8 with
  | .inl x :: st , _ => f x st
  | _, _ => kf
def zi2 (kf : α) (st : List zV) (f : Int → Int → List zV → α) : α := match st, zT8 with
  | .inl y :: .inl x :: st , _ => f x y st
  | _, _ => kf
def zj1 (kf : α) (st : List zV) (f : Int → List zV → α) : α := match st, zT8 with
  | .inr (.inl x) :: st , _ => f x st
  | _, _ => kf
def zj2 (kf : α) (st : List zV) (f : Int → Int → List zV → α) : α := match st, zT8 with
  | .inr (.inl y) :: .inr (.inl x) :: st , _ => f x y st
  | _, _ => kf
def zji (kf : α) (st : List zV) (f : Int → Int → List zV → α) : α := match st, zT8 with
  | .inl y :: .inr (.inl x) :: st , _ => f x y st
  | _, _ => kf
def zr1 (kf : α) (st : List zV) (f : Int → Int → Int → List zV → α) : α := match st, zT8 with
  | .inr (.inr (.inl (c, n, a))) :: st , _ => f c n a st
  | _, _ => kf
def zri (kf : α) (st : List zV) (f : Int → Int → Int → Int → List zV → α) : α := match st, zT8 with
  | .inl i :: .inr (.inr (.inl (c, n, a))) :: st , _ => f c n a i st
  | _, _ => kf
def zrii (kf : α) (st : List zV) (f : Int → Int → Int → Int → Int → List zV → α) : α := match st, zT8 with
  | .inl x :: .inl i :: .inr (.inr (.inl (c, n, a))) :: st , _ => f c n a i x st
  | _, _ => kf
def zrij (kf : α) (st : List zV) (f : Int → Int → Int → Int → Int → List zV → α) : α := match st, zT8 with
  | .inr (.inl x) :: .inl i :: .inr (.inr (.inl (c, n, a))) :: st , _ => f c n a i x st
  | _, _ => kf
def zrir (kf : α) (st : List zV) (f : Int → Int → Int → Int → Int → Int → Int → List zV → α) : α := match st, zT8 with
  | .inr (.inr (.inl (c2, n2, x))) :: .inl i :: .inr (.inr (.inl (c, n, a))) :: st , _ => f c n a i c2 n2 x st
  | _, _ => kf
def zsw (x : Int) (kn : Nat → α) (d : Nat) : Int → List Nat → α
  | _, [] => kn d
  | v, t :: r => if x = v then kn t else zsw x kn d (v + 1) r
def zlk (x : Int) (kn : Nat → α) (d : Nat) : List Int → List Nat → α
  | v :: vs, t :: r => if x = v then kn t else zlk x kn d vs r
  | _, _ => kn d
def zcond (c : Jvm.ClassFile.Cond) (x y : Int) (a b : α) : α := match c with
  | .eq => if x = y then a else b
  | .ne => if x = y then b else a
  | .lt => if x < y then a else b
  | .ge => if x < y then b else a
  | .gt => if y < x then a else b
  | .le => if y < x then b else a
def zfill {M : Type} (wr : M → Int → Int → Int → M) (m : M) (a : Int) (f : Int → Int) : Nat → M
  | 0 => m
  | n + 1 => wr (zfill wr m a f n) a n (f n)
end
/-- the tag of an element of an array of references, by the array's code -/
def zet (c : Int) : Int × Int := if c = 30 then (2, 2) else if c = 31 then (6, 1) else if c = 34 then (40, 0) else (22, 4096)
section
variable {α M : Type} (ar : Nat → Int → Int → Int) (ph : Bool) (K : Int → Int × Int) (R : Int → Int → Int) (rd : M → Int → Int → Int) (wr : M → Int → Int → Int → M) (cp : M → Int → Int → Int → Int → Int → Option M)
  (kn : Nat → List zV → List zV → M → α) (kc : Nat → List zV → M → Nat → Int → Int → Nat → List zV → List zV → α) (kr : Int → M → α) (kf : α)
def zretI (k : Nat) (x : Int) (m : M) : α := match k with
  | 1 => kr x m
  | 4 => if 0 ≤ x ∧ x ≤ 1 then kr x m else kf
  | 5 => if 0 ≤ x ∧ x ≤ 65535 then kr x m else kf
  | _ => if -128 ≤ x ∧ x ≤ 127 then kr x m else kf
def zgetf (k : Int) (ty : Nat) (c2 n2 : Int) (a : Int) (m : M) (f : zV → α) : α := match ty with
  | 1 => f (zI (rd m a k))
  | 2 => f (zJ (rd m a k))
  | 3 => match ph with
    | true => f (zA c2 n2 (R a k))
    | false => if rd m a k = 1 then f (zA c2 n2 (R a k)) else kf
  | 4 => f (zI (R a k))
  | _ => f (zA c2 n2 (R a k))
def zputf (c : Nat) (k : Int) (ty : Nat) (c2 n2 : Int) (st : List zV) (m : M) (f : List zV → M → α) : α := match ty with
  | 1 => match st with
    | .inl x :: .inr (.inr (.inl (c', _, a))) :: st => if c' = c then f st (wr m a k x) else kf
    | _ => kf
  | 2 => match st with
    | .inr (.inl x) :: .inr (.inr (.inl (c', _, a))) :: st => if c' = c then f st (wr m a k x) else kf
    | _ => kf
  | 6 => match st with
    | .inl x :: .inr (.inr (.inl (c', _, a))) :: st => if c' = c ∧ 0 ≤ x ∧ x ≤ 1 then f st (wr m a k x) else kf
    | _ => kf
  | _ => match ph with
    | true => kf
    | false => match st with
      | .inr (.inr (.inl (c3, n3, b))) :: .inr (.inr (.inl (c', _, a))) :: st => if c' = c ∧ c3 = c2 ∧ n3 = n2 ∧ b = R a k then f st (wr m a k 1) else kf
      | _ => kf
def zinvoke (an : List Nat) (az : List Int) (pc : Nat) (ls st : List zV) (m : M) : α := match an with
  | [_, y, n, k] => match az with
    | [c2, n2] => if zcats (st.drop n) ≤ 8 ∧ n ≤ st.length then kc y (st.take n).reverse m k c2 n2 (pc + 1) ls (st.drop n) else kf
    | _ => kf
  | _ => kf
/-- the receiver of a call has the class that the entry names -/
def zrecv (c : Int) (n : Nat) (st : List zV) (a : α) : α := match znth st (n - 1) with
  | some (.inr (.inr (.inl (c', _, _)))) => if c' = c then a else kf
  | _ => kf
def zstp (pc : Nat) (ls st : List zV) (m : M) (i : Jvm.ClassFile.Instr) (an : List Nat) (az : List Int) : α := match i with
  | .iconst n => kn (pc + 1) ls (zI n :: st) m
  | .bipush n => kn (pc + 1) ls (zI n :: st) m
  | .sipush n => kn (pc + 1) ls (zI n :: st) m
  | .lconst n => match n with
    | 0 => kn (pc + 1) ls (zJ 0 :: st) m
    | 1 => kn (pc + 1) ls (zJ 1 :: st) m
  | .ldc _ => match an, az with
    | [_, 0], [v] => kn (pc + 1) ls (zI v :: st) m
    | [_, 1], [a] => kn (pc + 1) ls (zA 40 0 a :: st) m
    | _, _ => kf
  | .ldc_w _ => match an, az with
    | [_, 0], [v] => kn (pc + 1) ls (zI v :: st) m
    | _, _ => kf
  | .ldc2_w _ => match az with
    | [v] => kn (pc + 1) ls (zJ v :: st) m
    | _ => kf
  | .iload n => match znth ls n with
    | some (.inl x) => kn (pc + 1) ls (zI x :: st) m
    | _ => kf
  | .iload_n n => match znth ls n.val with
    | some (.inl x) => kn (pc + 1) ls (zI x :: st) m
    | _ => kf
  | .lload n => match znth ls n with
    | some (.inr (.inl x)) => kn (pc + 1) ls (zJ x :: st) m
    | _ => kf
  | .lload_n n => match znth ls n.val with
    | some (.inr (.inl x)) => kn (pc + 1) ls (zJ x :: st) m
    | _ => kf
  | .aload n => match znth ls n with
    | some (.inr (.inr (.inl q))) => kn (pc + 1) ls (.inr (.inr (.inl q)) :: st) m
    | _ => kf
  | .aload_n n => match znth ls n.val with
    | some (.inr (.inr (.inl q))) => kn (pc + 1) ls (.inr (.inr (.inl q)) :: st) m
    | _ => kf
  | .istore n => zi1 kf st fun x st => if n < ls.length then kn (pc + 1) (zst1 ls n (zI x)) st m else kf
  | .istore_n n => zi1 kf st fun x st => if n.val < ls.length then kn (pc + 1) (zst1 ls n.val (zI x)) st m else kf
  | .lstore n => zj1 kf st fun x st => if n + 1 < ls.length then kn (pc + 1) (zst2 ls n (zJ x)) st m else kf
  | .lstore_n n => zj1 kf st fun x st => if n.val + 1 < ls.length then kn (pc + 1) (zst2 ls n.val (zJ x)) st m else kf
  | .astore n => zr1 kf st fun c k a st => if n < ls.length then kn (pc + 1) (zst1 ls n (zA c k a)) st m else kf
  | .astore_n n => zr1 kf st fun c k a st => if n.val < ls.length then kn (pc + 1) (zst1 ls n.val (zA c k a)) st m else kf
  | .iinc n v => match znth ls n with
    | some (.inl x) => kn (pc + 1) (zst1 ls n (zI (ar 0 x v))) st m
    | _ => kf
  | .iadd => zi2 kf st fun x y st => kn (pc + 1) ls (zI (ar 0 x y) :: st) m
  | .isub => zi2 kf st fun x y st => kn (pc + 1) ls (zI (ar 1 x y) :: st) m
  | .imul => zi2 kf st fun x y st => kn (pc + 1) ls (zI (ar 2 x y) :: st) m
  | .idiv => zi2 kf st fun x y st => if y = 0 then kf else kn (pc + 1) ls (zI (ar 3 x y) :: st) m
  | .irem => zi2 kf st fun x y st => if y = 0 then kf else kn (pc + 1) ls (zI (ar 4 x y) :: st) m
  | .ineg => zi1 kf st fun x st => kn (pc + 1) ls (zI (ar 5 x 0) :: st) m
  | .iand => zi2 kf st fun x y st => kn (pc + 1) ls (zI (ar 6 x y) :: st) m
  | .ior => zi2 kf st fun x y st => kn (pc + 1) ls (zI (ar 7 x y) :: st) m
  | .ixor => zi2 kf st fun x y st => kn (pc + 1) ls (zI (ar 8 x y) :: st) m
  | .ishl => zi2 kf st fun x y st => kn (pc + 1) ls (zI (ar 9 x y) :: st) m
  | .ishr => zi2 kf st fun x y st => kn (pc + 1) ls (zI (ar 10 x y) :: st) m
  | .iushr => zi2 kf st fun x y st => kn (pc + 1) ls (zI (ar 11 x y) :: st) m
  | .ladd => zj2 kf st fun x y st => kn (pc + 1) ls (zJ (ar 12 x y) :: st) m
  | .lsub => zj2 kf st fun x y st => kn (pc + 1) ls (zJ (ar 13 x y) :: st) m
  | .lmul => zj2 kf st fun x y st => kn (pc + 1) ls (zJ (ar 14 x y) :: st) m
  | .ldiv => zj2 kf st fun x y st => if y = 0 then kf else kn (pc + 1) ls (zJ (ar 15 x y) :: st) m
  | .lrem => zj2 kf st fun x y st => if y = 0 then kf else kn (pc + 1) ls (zJ (ar 4 x y) :: st) m
  | .lneg => zj1 kf st fun x st => kn (pc + 1) ls (zJ (ar 16 x 0) :: st) m
  | .land => zj2 kf st fun x y st => kn (pc + 1) ls (zJ (ar 17 x y) :: st) m
  | .lor => zj2 kf st fun x y st => kn (pc + 1) ls (zJ (ar 18 x y) :: st) m
  | .lxor => zj2 kf st fun x y st => kn (pc + 1) ls (zJ (ar 19 x y) :: st) m
  | .lshl => zji kf st fun x y st => kn (pc + 1) ls (zJ (ar 20 x y) :: st) m
  | .lushr => zji kf st fun x y st => kn (pc + 1) ls (zJ (ar 21 x y) :: st) m
  | .lcmp => zj2 kf st fun x y st => kn (pc + 1) ls (zI (ar 22 x y) :: st) m
  | .i2l => zi1 kf st fun x st => kn (pc + 1) ls (zJ x :: st) m
  | .l2i => zj1 kf st fun x st => kn (pc + 1) ls (zI (ar 23 x 0) :: st) m
  | .i2b => zi1 kf st fun x st => kn (pc + 1) ls (zI (ar 24 x 0) :: st) m
  | .i2s => zi1 kf st fun x st => kn (pc + 1) ls (zI (ar 25 x 0) :: st) m
  | .i2c => zi1 kf st fun x st => kn (pc + 1) ls (zI (ar 26 x 0) :: st) m
  | .dup => match st with
    | .inl x :: st => kn (pc + 1) ls (zI x :: zI x :: st) m
    | .inr (.inr x) :: st => kn (pc + 1) ls (.inr (.inr x) :: .inr (.inr x) :: st) m
    | _ => kf
  | .dup2 => match st with
    | .inl x :: .inr (.inr (.inl q)) :: st => kn (pc + 1) ls (zI x :: .inr (.inr (.inl q)) :: zI x :: .inr (.inr (.inl q)) :: st) m
    | .inr (.inl x) :: st => kn (pc + 1) ls (zJ x :: zJ x :: st) m
    | _ => kf
  | .pop => match st with
    | .inl _ :: st => kn (pc + 1) ls st m
    | .inr (.inr _) :: st => kn (pc + 1) ls st m
    | _ => kf
  | .goto _ => match an with
    | [t] => kn t ls st m
    | _ => kf
  | .ifCond c _ => match an with
    | [t] => zi1 kf st fun x st => zcond c x 0 (kn t ls st m) (kn (pc + 1) ls st m)
    | _ => kf
  | .if_icmp c _ => match an with
    | [t] => zi2 kf st fun x y st => zcond c x y (kn t ls st m) (kn (pc + 1) ls st m)
    | _ => kf
  | .tableswitch _ lo _ _ => match an with
    | d :: ts => zi1 kf st fun x st => zsw x (fun t => kn t ls st m) d lo ts
    | _ => kf
  | .lookupswitch _ _ => match an with
    | d :: ts => zi1 kf st fun x st => zlk x (fun t => kn t ls st m) d az ts
    | _ => kf
  | .getfield _ => match an with
    | [_, c, ty] => match az with
      | [c2, n2, k] => zr1 kf st fun c' _ a st => if c' = c then zgetf ph R rd kf k ty c2 n2 a m (fun v => kn (pc + 1) ls (v :: st) m) else kf
      | _ => kf
    | _ => kf
  | .putfield _ => match an with
    | [_, c, ty] => match az with
      | [c2, n2, k] => zputf ph R wr kf c k ty c2 n2 st m (fun st m => kn (pc + 1) ls st m)
      | _ => kf
    | _ => kf
  | .getstatic _ => match an, az with
    | [_, 0], [c, n, a] => kn (pc + 1) ls (zA c n a :: st) m
    | [_, 1], [v] => kn (pc + 1) ls (zI v :: st) m
    | [_, 2], _ => kn (pc + 1) ls (zU :: st) m
    | _, _ => kf
  | .iaload => zri kf st fun c n a i st => if 0 ≤ i ∧ i < n then if c = 20 then kn (pc + 1) ls (zI (rd m a i) :: st) m else if c = 23 then kn (pc + 1) ls (zI (R a i) :: st) m else kf else kf
  | .baload => zri kf st fun c n a i st => if c = 22 then if 0 ≤ i ∧ i < n then kn (pc + 1) ls (zI (rd m a i) :: st) m else kf else if c = 24 then if 0 ≤ i ∧ i < R a (-1) then kn (pc + 1) ls (zI (R a i) :: st) m else kf else kf
  | .laload => zri kf st fun c n a i st => if 0 ≤ i ∧ i < n then if c = 21 then kn (pc + 1) ls (zJ (rd m a i) :: st) m else kf else kf
  | .aaload => zri kf st fun c n a i st => if 0 ≤ i ∧ i < n then if c = 33 then kn (pc + 1) ls (zA 22 4096 (rd m a i) :: st) m else if 30 ≤ c ∧ c ≤ 34 then match ph with
      | true => kn (pc + 1) ls (zA (zet c).1 (zet c).2 (R a i) :: st) m
      | false => if rd m a i = 1 then kn (pc + 1) ls (zA (zet c).1 (zet c).2 (R a i) :: st) m else kf
    else kf else kf
  | .iastore => zrii kf st fun c n a i x st => if 0 ≤ i ∧ i < n then if c = 20 then kn (pc + 1) ls st (wr m a i x) else kf else kf
  | .bastore => zrii kf st fun c n a i x st => if 0 ≤ i ∧ i < n then if c = 22 then kn (pc + 1) ls st (wr m a i (x % 2)) else kf else kf
  | .lastore => zrij kf st fun c n a i x st => if 0 ≤ i ∧ i < n then if c = 21 then kn (pc + 1) ls st (wr m a i x) else kf else kf
  | .aastore => zrir kf st fun c n a i c2 n2 x st => if 0 ≤ i ∧ i < n then if c = 33 then if c2 = 22 ∧ n2 = 4096 then kn (pc + 1) ls st (wr m a i x) else kf else match ph with
      | true => kf
      | false => if (c = 30 ∨ c = 31 ∨ c = 34) ∧ c2 = (zet c).1 ∧ n2 = (zet c).2 ∧ x = R a i then kn (pc + 1) ls st (wr m a i 1) else kf
    else kf
  | .arraylength => zr1 kf st fun c n a st => if c = 24 then kn (pc + 1) ls (zI (R a (-1)) :: st) m else if 20 ≤ c ∧ c ≤ 34 then kn (pc + 1) ls (zI n :: st) m else kf
  | .new _ => match ph, an with
    | false, [_, c, n] => if K (rd m 0 0) = ((c : Int), (n : Int)) then kn (pc + 1) ls (zA c n (rd m 0 0) :: st) (wr m 0 0 (rd m 0 0 + 1)) else kf
    | _, _ => kf
  | .newarray _ => match ph, an with
    | false, [c] => zi1 kf st fun x st => if K (rd m 0 0) = ((c : Int), x) then kn (pc + 1) ls (zA c x (rd m 0 0) :: st) (wr m 0 0 (rd m 0 0 + 1)) else kf
    | _, _ => kf
  | .anewarray _ => match ph, an with
    | false, [_, c] => zi1 kf st fun x st => if K (rd m 0 0) = ((c : Int), x) then kn (pc + 1) ls (zA c x (rd m 0 0) :: st) (wr m 0 0 (rd m 0 0 + 1)) else kf
    | _, _ => kf
  | .multianewarray _ _ => match ph, an with
    | false, [_, c] => zi2 kf st fun x y st => if K (rd m 0 0) = ((c : Int), x) ∧ (List.range x.toNat).all (fun j => decide (K (rd m 0 0 + 1 + (j : Nat)) = (22, y)) && (c == 33 || decide (R (rd m 0 0) (j : Nat) = rd m 0 0 + 1 + (j : Nat)))) = true then
        kn (pc + 1) ls (zA c x (rd m 0 0) :: st) (wr (zfill wr m (rd m 0 0) (fun j => if c = 33 then rd m 0 0 + 1 + j else 1) x.toNat) 0 0 (rd m 0 0 + 1 + x)) else kf
    | _, _ => kf
  | .invokevirtual _ => match an, az with
    | [e, y, n, k], [c2, n2, c] => zrecv kf c n st (zinvoke kc kf [e, y, n, k] [c2, n2] pc ls st m)
    | _, _ => kf
  | .invokespecial _ => match an, az with
    | [9999], _ => zr1 kf st fun _ _ _ st => if zcats st ≤ 8 then kn (pc + 1) ls st m else kf
    | [e, y, n, 0], [c2, n2, c] => zrecv kf c n st (zinvoke kc kf [e, y, n, 0] [c2, n2] pc ls st m)
    | _, _ => kf
  | .invokestatic _ => match an, az with
    | [9998], _ => match st with
      | .inl n :: .inl dp :: .inr (.inr (.inl (c2, n2, b))) :: .inl sp :: .inr (.inr (.inl (c1, n1, a))) :: st =>
        if c1 = c2 ∧ (c1 = 20 ∨ c1 = 21) ∧ 0 ≤ n ∧ 0 ≤ sp ∧ 0 ≤ dp ∧ sp + n ≤ n1 ∧ dp + n ≤ n2 ∧ zcats st ≤ 8 then match cp m a sp b dp n with
          | some m => kn (pc + 1) ls st m
          | none => kf
        else kf
      | _ => kf
    | [e, y, n, k], [c2, n2] => zinvoke kc kf [e, y, n, k] [c2, n2] pc ls st m
    | _, _ => kf
  | .ireturn => match an with
    | [k] => zi1 kf st fun x st => match st with
      | [] => zretI kr kf k x m
      | _ => kf
    | _ => kf
  | .lreturn => zj1 kf st fun x st => match st with
      | [] => kr x m
      | _ => kf
  | .areturn => match az with
    | [c2, n2] => zr1 kf st fun c n a st => match st with
      | [] => if c = c2 ∧ n = n2 then kr a m else kf
      | _ => kf
    | _ => kf
  | .return_ => match st with
    | [] => kr 0 m
    | _ => kf
  | _ => kf
end
end
section
/-! Runs: fuel function zex, its limit zden, the unfolding equation, and 'zunr' (many instructions at once, up to cut points) -/
abbrev zKN (M : Type) (α : Type) : Type := Nat → List zV → List zV → M → α
abbrev zKC (M : Type) (α : Type) : Type := Nat → List zV → M → Nat → Int → Int → Nat → List zV → List zV → α
abbrev zAct (M : Type) : Type := (Nat × List zV × List zV × M) ⊕ ((Nat × List zV × M × Nat × Int × Int × Nat × List zV × List zV) ⊕ ((Int × M) ⊕ Unit))
def zint {M α : Type} (act : zAct M) (kn : zKN M α) (kc : zKC M α) (kr : Int → M → α) (kf : α) : α := match act with
  | .inl (pc, ls, st, m) => kn pc ls st m
  | .inr (.inl (y, as, m, k, c2, n2, pc, ls, st)) => kc y as m k c2 n2 pc ls st
  | .inr (.inr (.inl (x, m))) => kr x m
  | .inr (.inr (.inr _)) => kf
/-- what is one of the four ends, and the same one for all continuations -/
def zGood {M : Type} (F : ∀ α : Type, zKN M α → zKC M α → (Int → M → α) → α → α) : Prop := ∃ act : zAct M, ∀ (α : Type) (kn : zKN M α) (kc : zKC M α) (kr : Int → M → α) (kf : α), F α kn kc kr kf = zint act kn kc kr kf
theorem zg_kn {M : Type} (pc : Nat) (ls st : List zV) (m : M) : zGood (fun α kn (_ : zKC M α) _ _ => kn pc ls st m) := ⟨.inl (pc, ls, st, m), fun _ _ _ _ _ => rfl⟩
theorem zg_kc {M : Type} (y : Nat) (as : List zV) (m : M) (k : Nat) (c2 n2 : Int) (pc : Nat) (ls st : List zV) : zGood (fun α (_ : zKN M α) kc _ _ => kc y as m k c2 n2 pc ls st) := ⟨.inr (.inl (y, as, m, k, c2, n2, pc, ls, st)), fun _ _ _ _ _ => rfl⟩
theorem zg_kr {M : Type} (x : Int) (m : M) : zGood (fun α (_ : zKN M α) (_ : zKC M α) kr _ => kr x m) := ⟨.inr (.inr (.inl (x, m))), fun _ _ _ _ _ => rfl⟩
theorem zg_kf {M : Type} : zGood (fun α (_ : zKN M α) (_ : zKC M α) (_ : Int → M → α) kf => kf) := ⟨.inr (.inr (.inr ())), fun _ _ _ _ _ => rfl⟩
theorem zg_ite {M : Type} {F G : ∀ α : Type, zKN M α → zKC M α → (Int → M → α) → α → α} (c : Prop) {h : Decidable c} (hF : zGood F) (hG : zGood G) : zGood (fun α kn kc kr kf => @ite α c h (F α kn kc kr kf) (G α kn kc kr kf)) := by
  by_cases q : c
  · obtain ⟨act, ha⟩ := hF
    exact ⟨act, fun α kn kc kr kf => (if_pos q).trans (ha α kn kc kr kf)⟩
  · obtain ⟨act, ha⟩ := hG
    exact ⟨act, fun α kn kc kr kf => (if_neg q).trans (ha α kn kc kr kf)⟩
section
variable {M : Type} (F1 : ∀ α : Type, zKN M α → zKC M α → (Int → M → α) → α → Int → List zV → α)
theorem zg_i1 (st : List zV) (h : ∀ x s, zGood (fun α kn kc kr kf => F1 α kn kc kr kf x s)) : zGood (fun α kn kc kr kf => zi1 kf st (F1 α kn kc kr kf)) := by
  rcases st with _ | ⟨(x | x), s⟩
  · exact zg_kf
  · exact h x s
  · exact zg_kf
theorem zg_j1 (st : List zV) (h : ∀ x s, zGood (fun α kn kc kr kf => F1 α kn kc kr kf x s)) : zGood (fun α kn kc kr kf => zj1 kf st (F1 α kn kc kr kf)) := by
  rcases st with _ | ⟨(x | (x | x)), s⟩
  · exact zg_kf
  · exact zg_kf
  · exact h x s
  · exact zg_kf
variable (F2 : ∀ α : Type, zKN M α → zKC M α → (Int → M → α) → α → Int → Int → List zV → α)
theorem zg_i2 (st : List zV) (h : ∀ x y s, zGood (fun α kn kc kr kf => F2 α kn kc kr kf x y s)) : zGood (fun α kn kc kr kf => zi2 kf st (F2 α kn kc kr kf)) := by
  rcases st with _ | ⟨(x | x), _ | ⟨(y | y), s⟩⟩
  · exact zg_kf
  · exact zg_kf
  · exact h y x s
  · exact zg_kf
  · exact zg_kf
  · exact zg_kf
  · exact zg_kf
theorem zg_j2 (st : List zV) (h : ∀ x y s, zGood (fun α kn kc kr kf => F2 α kn kc kr kf x y s)) : zGood (fun α kn kc kr kf => zj2 kf st (F2 α kn kc kr kf)) := by
  rcases st with _ | ⟨(x | (x | x)), _ | ⟨(y | (y | y)), s⟩⟩
  all_goals first | exact h y x s | exact zg_kf
theorem zg_ji (st : List zV) (h : ∀ x y s, zGood (fun α kn kc kr kf => F2 α kn kc kr kf x y s)) : zGood (fun α kn kc kr kf => zji kf st (F2 α kn kc kr kf)) := by
  rcases st with _ | ⟨(x | (x | x)), _ | ⟨(y | (y | y)), s⟩⟩
  all_goals first | exact h y x s | exact zg_kf
variable (F3 : ∀ α : Type, zKN M α → zKC M α → (Int → M → α) → α → Int → Int → Int → List zV → α)
theorem zg_r1 (st : List zV) (h : ∀ x y z s, zGood (fun α kn kc kr kf => F3 α kn kc kr kf x y z s)) : zGood (fun α kn kc kr kf => zr1 kf st (F3 α kn kc kr kf)) := by
  rcases st with _ | ⟨(x | (x | (⟨x, y, z⟩ | x))), s⟩
  all_goals first | exact h x y z s | exact zg_kf
variable (F4 : ∀ α : Type, zKN M α → zKC M α → (Int → M → α) → α → Int → Int → Int → Int → List zV → α)
theorem zg_ri (st : List zV) (h : ∀ x y z i s, zGood (fun α kn kc kr kf => F4 α kn kc kr kf x y z i s)) : zGood (fun α kn kc kr kf => zri kf st (F4 α kn kc kr kf)) := by
  rcases st with _ | ⟨(i | i), _ | ⟨(x | (x | (⟨x, y, z⟩ | x))), s⟩⟩
  all_goals first | exact h x y z i s | exact zg_kf
variable (F5 : ∀ α : Type, zKN M α → zKC M α → (Int → M → α) → α → Int → Int → Int → Int → Int → List zV → α)
theorem zg_rii (st : List zV) (h : ∀ x y z i v s, zGood (fun α kn kc kr kf => F5 α kn kc kr kf x y z i v s)) : zGood (fun α kn kc kr kf => zrii kf st (F5 α kn kc kr kf)) := by
  rcases st with _ | ⟨(v | v), _ | ⟨(i | i), _ | ⟨(x | (x | (⟨x, y, z⟩ | x))), s⟩⟩⟩
  all_goals first | exact h x y z i v s | exact zg_kf
theorem zg_rij (st : List zV) (h : ∀ x y z i v s, zGood (fun α kn kc kr kf => F5 α kn kc kr kf x y z i v s)) : zGood (fun α kn kc kr kf => zrij kf st (F5 α kn kc kr kf)) := by
  rcases st with _ | ⟨(v | (v | v)), _ | ⟨(i | i), _ | ⟨(x | (x | (⟨x, y, z⟩ | x))), s⟩⟩⟩
  all_goals first | exact h x y z i v s | exact zg_kf
variable (F7 : ∀ α : Type, zKN M α → zKC M α → (Int → M → α) → α → Int → Int → Int → Int → Int → Int → Int → List zV → α)
theorem zg_rir (st : List zV) (h : ∀ x y z i c n v s, zGood (fun α kn kc kr kf => F7 α kn kc kr kf x y z i c n v s)) : zGood (fun α kn kc kr kf => zrir kf st (F7 α kn kc kr kf)) := by
  rcases st with _ | ⟨(v | (v | (⟨c, n, v⟩ | v))), _ | ⟨(i | i), _ | ⟨(x | (x | (⟨x, y, z⟩ | x))), s⟩⟩⟩
  all_goals first | exact h x y z i c n v s | exact zg_kf
variable (G1 : ∀ α : Type, zKN M α → zKC M α → (Int → M → α) → α → Nat → α)
theorem zg_sw (x : Int) (d : Nat) (h : ∀ t, zGood (fun α kn kc kr kf => G1 α kn kc kr kf t)) : ∀ (ts : List Nat) (v : Int), zGood (fun α kn kc kr kf => zsw x (G1 α kn kc kr kf) d v ts)
  | [], _ => h d
  | t :: r, v => zg_ite (x = v) (h t) (zg_sw x d h r (v + 1))
theorem zg_lk (x : Int) (d : Nat) (h : ∀ t, zGood (fun α kn kc kr kf => G1 α kn kc kr kf t)) : ∀ (ts : List Nat) (vs : List Int), zGood (fun α kn kc kr kf => zlk x (G1 α kn kc kr kf) d vs ts)
  | _, [] => h d
  | [], _ :: _ => h d
  | t :: r, v :: vs => zg_ite (x = v) (h t) (zg_lk x d h r vs)
theorem zg_cond (c : Jvm.ClassFile.Cond) (x y : Int) {F G : ∀ α : Type, zKN M α → zKC M α → (Int → M → α) → α → α} (hF : zGood F) (hG : zGood G) : zGood (fun α kn kc kr kf => zcond c x y (F α kn kc kr kf) (G α kn kc kr kf)) := by
  cases c <;> first | exact zg_ite _ hF hG | exact zg_ite _ hG hF
end
section
variable {M : Type} (ar : Nat → Int → Int → Int) (ph : Bool) (K : Int → Int × Int) (R : Int → Int → Int) (rd : M → Int → Int → Int) (wr : M → Int → Int → Int → M) (cp : M → Int → Int → Int → Int → Int → Option M)
theorem zg_retI (k : Nat) (x : Int) (m : M) : zGood (fun α (_ : zKN M α) (_ : zKC M α) kr kf => zretI kr kf k x m) := by
  unfold zretI
  split <;> (repeat' first | with_reducible exact zg_kn _ _ _ _ | with_reducible exact zg_kf | with_reducible exact zg_kr _ _ | with_reducible exact zg_kc _ _ _ _ _ _ _ _ _ | with_reducible refine zg_ite _ ?_ ?_)
theorem zg_getf (k : Int) (ty : Nat) (c2 n2 a : Int) (m : M) (pc : Nat) (ls st : List zV) : zGood (fun α kn (_ : zKC M α) _ kf => zgetf ph R rd kf k ty c2 n2 a m (fun v => kn (pc + 1) ls (v :: st) m)) := by
  rcases ty with _ | _ | _ | _ | _ | ty <;> cases ph <;> first | exact zg_kn _ _ _ _ | exact zg_ite _ (zg_kn _ _ _ _) zg_kf
theorem zg_putf (c : Nat) (k : Int) (ty : Nat) (c2 n2 : Int) (m : M) (pc : Nat) (ls st : List zV) : zGood (fun α kn (_ : zKC M α) _ kf => zputf ph R wr kf c k ty c2 n2 st m (fun st m => kn (pc + 1) ls st m)) := by
  rcases ty with _ | _ | _ | _ | _ | _ | _ | ty <;> rcases st with _ | ⟨(v | (v | (⟨c3, n3, v⟩ | v))), _ | ⟨(x | (x | (⟨x, y, z⟩ | x))), s⟩⟩ <;> cases ph <;> first | exact zg_kf | exact zg_ite _ (zg_kn _ _ _ _) zg_kf
theorem zg_invoke (an : List Nat) (az : List Int) (pc : Nat) (ls st : List zV) (m : M) : zGood (fun α (_ : zKN M α) kc _ kf => zinvoke kc kf an az pc ls st m) := by
  unfold zinvoke
  rcases an with _ | ⟨a1, _ | ⟨a2, _ | ⟨a3, _ | ⟨a4, _ | ⟨a5, an⟩⟩⟩⟩⟩ <;> rcases az with _ | ⟨b1, _ | ⟨b2, _ | ⟨b3, az⟩⟩⟩ <;> dsimp only <;> (repeat' first | with_reducible exact zg_kn _ _ _ _ | with_reducible exact zg_kf | with_reducible exact zg_kr _ _ | with_reducible exact zg_kc _ _ _ _ _ _ _ _ _ | with_reducible refine zg_ite _ ?_ ?_)
theorem zg_recv (c : Int) (n : Nat) (st : List zV) {F : ∀ α : Type, zKN M α → zKC M α → (Int → M → α) → α → α} (h : zGood F) : zGood (fun α kn kc kr kf => zrecv kf c n st (F α kn kc kr kf)) := by
  unfold zrecv
  generalize znth st (n - 1) = o
  rcases o with _ | (x | (x | (⟨c', n', a⟩ | x))) <;> dsimp only
  · exact zg_kf
  · exact zg_kf
  · exact zg_kf
  · exact zg_ite _ h zg_kf
  · exact zg_kf
set_option maxHeartbeats 4000000 in
theorem zstp_good (pc : Nat) (ls st : List zV) (m : M) (i : Jvm.ClassFile.Instr) (an : List Nat) (az : List Int) : zGood (fun α kn kc kr kf => zstp ar ph K R rd wr cp kn kc kr kf pc ls st m i an az) := by
  cases i
  case iconst n => exact zg_kn _ _ _ _
  case bipush n => exact zg_kn _ _ _ _
  case sipush n => exact zg_kn _ _ _ _
  case lconst n =>
    dsimp only [zstp]
    split <;> exact zg_kn _ _ _ _
  case iload n =>
    dsimp only [zstp]
    generalize znth ls n = o
    rcases o with _ | (x | (x | (q | x))) <;> dsimp only <;> first | exact zg_kn _ _ _ _ | exact zg_kf
  case iload_n n =>
    dsimp only [zstp]
    generalize znth ls n.val = o
    rcases o with _ | (x | (x | (q | x))) <;> dsimp only <;> first | exact zg_kn _ _ _ _ | exact zg_kf
  case lload n =>
    dsimp only [zstp]
    generalize znth ls n = o
    rcases o with _ | (x | (x | (q | x))) <;> dsimp only <;> first | exact zg_kn _ _ _ _ | exact zg_kf
  case lload_n n =>
    dsimp only [zstp]
    generalize znth ls n.val = o
    rcases o with _ | (x | (x | (q | x))) <;> dsimp only <;> first | exact zg_kn _ _ _ _ | exact zg_kf
  case aload n =>
    dsimp only [zstp]
    generalize znth ls n = o
    rcases o with _ | (x | (x | (q | x))) <;> dsimp only <;> first | exact zg_kn _ _ _ _ | exact zg_kf
  case aload_n n =>
    dsimp only [zstp]
    generalize znth ls n.val = o
    rcases o with _ | (x | (x | (q | x))) <;> dsimp only <;> first | exact zg_kn _ _ _ _ | exact zg_kf
  case iinc n v =>
    dsimp only [zstp]
    generalize znth ls n = o
    rcases o with _ | (x | (x | (q | x))) <;> dsimp only <;> first | exact zg_kn _ _ _ _ | exact zg_kf
  case istore n => exact zg_i1 _ _ fun x s => zg_ite _ (zg_kn _ _ _ _) zg_kf
  case istore_n n => exact zg_i1 _ _ fun x s => zg_ite _ (zg_kn _ _ _ _) zg_kf
  case lstore n => exact zg_j1 _ _ fun x s => zg_ite _ (zg_kn _ _ _ _) zg_kf
  case lstore_n n => exact zg_j1 _ _ fun x s => zg_ite _ (zg_kn _ _ _ _) zg_kf
  case astore n => exact zg_r1 _ _ fun x y z s => zg_ite _ (zg_kn _ _ _ _) zg_kf
  case astore_n n => exact zg_r1 _ _ fun x y z s => zg_ite _ (zg_kn _ _ _ _) zg_kf
  case iadd => exact zg_i2 _ _ fun x y s => zg_kn _ _ _ _
  case isub => exact zg_i2 _ _ fun x y s => zg_kn _ _ _ _
  case imul => exact zg_i2 _ _ fun x y s => zg_kn _ _ _ _
  case iand => exact zg_i2 _ _ fun x y s => zg_kn _ _ _ _
  case ior => exact zg_i2 _ _ fun x y s => zg_kn _ _ _ _
  case ixor => exact zg_i2 _ _ fun x y s => zg_kn _ _ _ _
  case ishl => exact zg_i2 _ _ fun x y s => zg_kn _ _ _ _
  case ishr => exact zg_i2 _ _ fun x y s => zg_kn _ _ _ _
  case iushr => exact zg_i2 _ _ fun x y s => zg_kn _ _ _ _
  case idiv => exact zg_i2 _ _ fun x y s => zg_ite _ zg_kf (zg_kn _ _ _ _)
  case irem => exact zg_i2 _ _ fun x y s => zg_ite _ zg_kf (zg_kn _ _ _ _)
  case ladd => exact zg_j2 _ _ fun x y s => zg_kn _ _ _ _
  case lsub => exact zg_j2 _ _ fun x y s => zg_kn _ _ _ _
  case lmul => exact zg_j2 _ _ fun x y s => zg_kn _ _ _ _
  case land => exact zg_j2 _ _ fun x y s => zg_kn _ _ _ _
  case lor => exact zg_j2 _ _ fun x y s => zg_kn _ _ _ _
  case lxor => exact zg_j2 _ _ fun x y s => zg_kn _ _ _ _
  case lcmp => exact zg_j2 _ _ fun x y s => zg_kn _ _ _ _
  case ldiv => exact zg_j2 _ _ fun x y s => zg_ite _ zg_kf (zg_kn _ _ _ _)
  case lrem => exact zg_j2 _ _ fun x y s => zg_ite _ zg_kf (zg_kn _ _ _ _)
  case ineg => exact zg_i1 _ _ fun x s => zg_kn _ _ _ _
  case i2l => exact zg_i1 _ _ fun x s => zg_kn _ _ _ _
  case i2b => exact zg_i1 _ _ fun x s => zg_kn _ _ _ _
  case i2s => exact zg_i1 _ _ fun x s => zg_kn _ _ _ _
  case i2c => exact zg_i1 _ _ fun x s => zg_kn _ _ _ _
  case lneg => exact zg_j1 _ _ fun x s => zg_kn _ _ _ _
  case l2i => exact zg_j1 _ _ fun x s => zg_kn _ _ _ _
  case lshl => exact zg_ji _ _ fun x y s => zg_kn _ _ _ _
  case lushr => exact zg_ji _ _ fun x y s => zg_kn _ _ _ _
  case dup => rcases st with _ | ⟨(x | (x | x)), s⟩ <;> first | exact zg_kn _ _ _ _ | exact zg_kf
  case pop => rcases st with _ | ⟨(x | (x | x)), s⟩ <;> first | exact zg_kn _ _ _ _ | exact zg_kf
  case dup2 => rcases st with _ | ⟨(x | (x | x)), _ | ⟨(y | (y | (q | y))), s⟩⟩ <;> first | exact zg_kn _ _ _ _ | exact zg_kf
  case goto o => rcases an with _ | ⟨a1, _ | ⟨a2, an⟩⟩ <;> first | exact zg_kn _ _ _ _ | exact zg_kf
  case ifCond c o => rcases an with _ | ⟨a1, _ | ⟨a2, an⟩⟩ <;> first | exact zg_kf | exact zg_i1 _ _ fun x s => zg_cond c x 0 (zg_kn _ _ _ _) (zg_kn _ _ _ _)
  case if_icmp c o => rcases an with _ | ⟨a1, _ | ⟨a2, an⟩⟩ <;> first | exact zg_kf | exact zg_i2 _ _ fun x y s => zg_cond c x y (zg_kn _ _ _ _) (zg_kn _ _ _ _)
  case tableswitch a lo b c => rcases an with _ | ⟨a1, an⟩ <;> first | exact zg_kf | exact zg_i1 _ _ fun x s => zg_sw _ x a1 (fun t => zg_kn _ _ _ _) an lo
  case lookupswitch a b => rcases an with _ | ⟨a1, an⟩ <;> first | exact zg_kf | exact zg_i1 _ _ fun x s => zg_lk _ x a1 (fun t => zg_kn _ _ _ _) an az
  case getfield o => rcases an with _ | ⟨a1, _ | ⟨a2, _ | ⟨a3, _ | ⟨a4, an⟩⟩⟩⟩ <;> first | exact zg_kf | (rcases az with _ | ⟨b1, _ | ⟨b2, _ | ⟨b3, _ | ⟨b4, az⟩⟩⟩⟩ <;> first | exact zg_kf | exact zg_r1 _ _ fun x y z s => zg_ite _ (zg_getf ph R rd _ _ _ _ _ _ _ _ _) zg_kf)
  case putfield o => rcases an with _ | ⟨a1, _ | ⟨a2, _ | ⟨a3, _ | ⟨a4, an⟩⟩⟩⟩ <;> first | exact zg_kf | (rcases az with _ | ⟨b1, _ | ⟨b2, _ | ⟨b3, _ | ⟨b4, az⟩⟩⟩⟩ <;> first | exact zg_kf | exact zg_putf ph R wr _ _ _ _ _ _ _ _ _)
  case getstatic o => rcases an with _ | ⟨a1, _ | ⟨(_ | _ | _ | a2), _ | ⟨a3, an⟩⟩⟩ <;> rcases az with _ | ⟨b1, _ | ⟨b2, _ | ⟨b3, _ | ⟨b4, az⟩⟩⟩⟩ <;> first | exact zg_kf | exact zg_kn _ _ _ _
  case ldc o => rcases an with _ | ⟨a1, _ | ⟨(_ | _ | a2), _ | ⟨a3, an⟩⟩⟩ <;> rcases az with _ | ⟨b1, _ | ⟨b2, az⟩⟩ <;> first | exact zg_kf | exact zg_kn _ _ _ _
  case ldc_w o => rcases an with _ | ⟨a1, _ | ⟨(_ | a2), _ | ⟨a3, an⟩⟩⟩ <;> rcases az with _ | ⟨b1, _ | ⟨b2, az⟩⟩ <;> first | exact zg_kf | exact zg_kn _ _ _ _
  case ldc2_w o => rcases az with _ | ⟨b1, _ | ⟨b2, az⟩⟩ <;> first | exact zg_kf | exact zg_kn _ _ _ _
  case iaload => exact zg_ri _ _ fun c n a i s => zg_ite _ (zg_ite _ (zg_kn _ _ _ _) (zg_ite _ (zg_kn _ _ _ _) zg_kf)) zg_kf
  case baload => exact zg_ri _ _ fun c n a i s => zg_ite _ (zg_ite _ (zg_kn _ _ _ _) zg_kf) (zg_ite _ (zg_ite _ (zg_kn _ _ _ _) zg_kf) zg_kf)
  case laload => exact zg_ri _ _ fun c n a i s => zg_ite _ (zg_ite _ (zg_kn _ _ _ _) zg_kf) zg_kf
  case aaload => cases ph <;> first | exact zg_ri _ _ fun c n a i s => zg_ite _ (zg_ite _ (zg_kn _ _ _ _) (zg_ite _ (zg_kn _ _ _ _) zg_kf)) zg_kf | exact zg_ri _ _ fun c n a i s => zg_ite _ (zg_ite _ (zg_kn _ _ _ _) (zg_ite _ (zg_ite _ (zg_kn _ _ _ _) zg_kf) zg_kf)) zg_kf
  case iastore => exact zg_rii _ _ fun c n a i x s => zg_ite _ (zg_ite _ (zg_kn _ _ _ _) zg_kf) zg_kf
  case bastore => exact zg_rii _ _ fun c n a i x s => zg_ite _ (zg_ite _ (zg_kn _ _ _ _) zg_kf) zg_kf
  case lastore => exact zg_rij _ _ fun c n a i x s => zg_ite _ (zg_ite _ (zg_kn _ _ _ _) zg_kf) zg_kf
  case aastore => cases ph <;> first | exact zg_rir _ _ fun c n a i c2 n2 x s => zg_ite _ (zg_ite _ (zg_ite _ (zg_kn _ _ _ _) zg_kf) zg_kf) zg_kf | exact zg_rir _ _ fun c n a i c2 n2 x s => zg_ite _ (zg_ite _ (zg_ite _ (zg_kn _ _ _ _) zg_kf) (zg_ite _ (zg_kn _ _ _ _) zg_kf)) zg_kf
  case arraylength => exact zg_r1 _ _ fun c n a s => zg_ite _ (zg_kn _ _ _ _) (zg_ite _ (zg_kn _ _ _ _) zg_kf)
  case new o => cases ph <;> rcases an with _ | ⟨a1, _ | ⟨a2, _ | ⟨a3, _ | ⟨a4, an⟩⟩⟩⟩ <;> first | exact zg_kf | exact zg_ite _ (zg_kn _ _ _ _) zg_kf
  case newarray o => cases ph <;> rcases an with _ | ⟨a1, _ | ⟨a2, an⟩⟩ <;> first | exact zg_kf | exact zg_i1 _ _ fun x s => zg_ite _ (zg_kn _ _ _ _) zg_kf
  case anewarray o => cases ph <;> rcases an with _ | ⟨a1, _ | ⟨a2, _ | ⟨a3, an⟩⟩⟩ <;> first | exact zg_kf | exact zg_i1 _ _ fun x s => zg_ite _ (zg_kn _ _ _ _) zg_kf
  case multianewarray o q => cases ph <;> rcases an with _ | ⟨a1, _ | ⟨a2, _ | ⟨a3, an⟩⟩⟩ <;> first | exact zg_kf | exact zg_i2 _ _ fun x y s => zg_ite _ (zg_kn _ _ _ _) zg_kf
  case invokevirtual o => rcases an with _ | ⟨a1, _ | ⟨a2, _ | ⟨a3, _ | ⟨a4, _ | ⟨a5, an⟩⟩⟩⟩⟩ <;> first | exact zg_kf | (rcases az with _ | ⟨b1, _ | ⟨b2, _ | ⟨b3, _ | ⟨b4, az⟩⟩⟩⟩ <;> first | exact zg_kf | exact zg_recv _ _ _ (zg_invoke _ _ _ _ _ _))
  case invokespecial o =>
    dsimp only [zstp]
    split
    · exact zg_r1 _ _ fun x y z s => zg_ite _ (zg_kn _ _ _ _) zg_kf
    · exact zg_recv _ _ _ (zg_invoke _ _ _ _ _ _)
    · exact zg_kf
  case invokestatic o =>
    dsimp only [zstp]
    split
    · rcases st with _ | ⟨(n | n), _ | ⟨(dp | dp), _ | ⟨(b | (b | (⟨c2, n2, b⟩ | b))), _ | ⟨(sp | sp), _ | ⟨(a | (a | (⟨c1, n1, a⟩ | a))), s⟩⟩⟩⟩⟩ <;> first
        | exact zg_kf
        | (dsimp only
           refine zg_ite _ ?_ zg_kf
           generalize cp m a sp b dp n = o
           rcases o with _ | m
           · exact zg_kf
           · exact zg_kn _ _ _ _)
    · exact zg_invoke _ _ _ _ _ _
    · exact zg_kf
  case ireturn =>
    rcases an with _ | ⟨a1, _ | ⟨a2, an⟩⟩ <;> first | exact zg_kf | (refine zg_i1 _ _ fun x s => ?_; rcases s with _ | ⟨b, s⟩ <;> first | exact zg_retI _ _ _ | exact zg_kf)
  case lreturn => exact zg_j1 _ _ fun x s => by rcases s with _ | ⟨b, s⟩ <;> first | exact zg_kr _ _ | exact zg_kf
  case areturn => rcases az with _ | ⟨b1, _ | ⟨b2, _ | ⟨b3, az⟩⟩⟩ <;> first | exact zg_kf | (refine zg_r1 _ _ fun x y z s => ?_; rcases s with _ | ⟨b, s⟩ <;> first | exact zg_ite _ (zg_kr _ _) zg_kf | exact zg_kf)
  case return_ => rcases st with _ | ⟨b, s⟩ <;> first | exact zg_kr _ _ | exact zg_kf
  all_goals exact zg_kf
theorem zstp_act (pc : Nat) (ls st : List zV) (m : M) (i : Jvm.ClassFile.Instr) (an : List Nat) (az : List Int) : ∃ act : zAct M, ∀ (α : Type) (kn : zKN M α) (kc : zKC M α) (kr : Int → M → α) (kf : α), zstp ar ph K R rd wr cp kn kc kr kf pc ls st m i an az = zint act kn kc kr kf := zstp_good ar ph K R rd wr cp pc ls st m i an az
end
def zex {M : Type} (ar : Nat → Int → Int → Int) (ph : Bool) (K : Int → Int × Int) (R : Int → Int → Int) (P : Nat → Nat → Option (Jvm.ClassFile.Instr × List Nat × List Int)) (ml : Nat → Nat) (rd : M → Int → Int → Int) (wr : M → Int → Int → Int → M) (cp : M → Int → Int → Int → Int → Int → Option M) : Nat → Nat → Nat → Nat → List zV → List zV → M → Option (Int × M)
  | 0, _, _, _, _, _, _ => none
  | n + 1, d, y, pc, ls, st, m => match P y pc with
    | none => none
    | some q => zstp ar ph K R rd wr cp (fun pc ls st m => zex ar ph K R P ml rd wr cp n d y pc ls st m)
        (fun y' as m k c2 n2 pc ls st => match d with
          | 0 => none
          | d + 1 => (zex ar ph K R P ml rd wr cp n d y' 0 (zent (ml y') as) [] m).bind fun r => zex ar ph K R P ml rd wr cp n (d + 1) y pc ls (zpush k c2 n2 r.1 st) r.2)
        (fun x m => some (x, m)) none pc ls st m q.1 q.2.1 q.2.2
section
variable {M : Type} (ar : Nat → Int → Int → Int) (ph : Bool) (K : Int → Int × Int) (R : Int → Int → Int) (P : Nat → Nat → Option (Jvm.ClassFile.Instr × List Nat × List Int)) (ml : Nat → Nat) (rd : M → Int → Int → Int) (wr : M → Int → Int → Int → M) (cp : M → Int → Int → Int → Int → Int → Option M)
theorem zex_mono1 : ∀ (n d y pc : Nat) (ls st : List zV) (m : M) (r : Int × M), zex ar ph K R P ml rd wr cp n d y pc ls st m = some r → zex ar ph K R P ml rd wr cp (n + 1) d y pc ls st m = some r := by
  intro n
  induction n with
  | zero => intro d y pc ls st m r h; cases h
  | succ n ih =>
    intro d y pc ls st m r h
    rw [zex] at h ⊢
    cases hq : P y pc with
    | none => rw [hq] at h; cases h
    | some q =>
      rw [hq] at h
      dsimp only at h ⊢
      obtain ⟨act, ha⟩ := zstp_act ar ph K R rd wr cp pc ls st m q.1 q.2.1 q.2.2
      rw [ha] at h ⊢
      rcases act with ⟨pc', ls', st', m'⟩ | ⟨y', as, m', k, c2, n2, pc', ls', st'⟩ | ⟨x, m'⟩ | u
      · exact ih _ _ _ _ _ _ _ h
      · dsimp only [zint] at h ⊢
        cases d with
        | zero => cases h
        | succ d =>
          dsimp only at h ⊢
          cases hc : zex ar ph K R P ml rd wr cp n d y' 0 (zent (ml y') as) [] m' with
          | none => rw [hc] at h; cases h
          | some v =>
            rw [hc] at h
            rw [ih _ _ _ _ _ _ _ hc]
            exact ih _ _ _ _ _ _ _ h
      · exact h
      · exact h
theorem zex_mono {n n' d y pc : Nat} {ls st : List zV} {m : M} {r : Int × M} (hn : n ≤ n') (h : zex ar ph K R P ml rd wr cp n d y pc ls st m = some r) : zex ar ph K R P ml rd wr cp n' d y pc ls st m = some r := by
  induction hn with
  | refl => exact h
  | step _ ih => exact zex_mono1 ar ph K R P ml rd wr cp _ _ _ _ _ _ _ _ ih
theorem zex_det {n n' d y pc : Nat} {ls st : List zV} {m : M} {r r' : Int × M} (h : zex ar ph K R P ml rd wr cp n d y pc ls st m = some r) (h' : zex ar ph K R P ml rd wr cp n' d y pc ls st m = some r') : r = r' := by
  have h1 := zex_mono ar ph K R P ml rd wr cp (Nat.le_max_left n n') h
  have h2 := zex_mono ar ph K R P ml rd wr cp (Nat.le_max_right n n') h'
  rw [h1] at h2
  exact Option.some.inj h2
noncomputable def zlim (d y pc : Nat) (ls st : List zV) (m : M) : Option (Int × M) :=
  @dite _ (∃ n r, zex ar ph K R P ml rd wr cp n d y pc ls st m = some r) (Classical.propDecidable _) (fun h => some (Classical.choose (Classical.choose_spec h))) (fun _ => none)
theorem zlim_of {n d y pc : Nat} {ls st : List zV} {m : M} {r : Int × M} (h : zex ar ph K R P ml rd wr cp n d y pc ls st m = some r) : zlim ar ph K R P ml rd wr cp d y pc ls st m = some r := by
  have hx : ∃ n r, zex ar ph K R P ml rd wr cp n d y pc ls st m = some r := ⟨n, r, h⟩
  unfold zlim
  rw [dif_pos hx]
  exact congrArg some (zex_det ar ph K R P ml rd wr cp (Classical.choose_spec (Classical.choose_spec hx)) h)
theorem zlim_ex {d y pc : Nat} {ls st : List zV} {m : M} {r : Int × M} (h : zlim ar ph K R P ml rd wr cp d y pc ls st m = some r) : ∃ n, zex ar ph K R P ml rd wr cp n d y pc ls st m = some r := by
  unfold zlim at h
  by_cases hx : ∃ n r, zex ar ph K R P ml rd wr cp n d y pc ls st m = some r
  · rw [dif_pos hx] at h
    have := Option.some.inj h
    exact ⟨Classical.choose hx, by rw [← this]; exact Classical.choose_spec (Classical.choose_spec hx)⟩
  · rw [dif_neg hx] at h
    cases h
theorem zopt_ext {β : Type} {a b : Option β} (h : ∀ r, a = some r ↔ b = some r) : a = b := by
  cases a with
  | none => cases b with
    | none => rfl
    | some y => exact absurd ((h y).mpr rfl) (by simp)
  | some x => exact ((h x).mp rfl).symm
theorem zlim_eq (d y pc : Nat) (ls st : List zV) (m : M) : zlim ar ph K R P ml rd wr cp d y pc ls st m = match P y pc with
    | none => none
    | some q => zstp ar ph K R rd wr cp (fun pc ls st m => zlim ar ph K R P ml rd wr cp d y pc ls st m)
        (fun y' as m k c2 n2 pc ls st => match d with
          | 0 => none
          | d + 1 => (zlim ar ph K R P ml rd wr cp d y' 0 (zent (ml y') as) [] m).bind fun r => zlim ar ph K R P ml rd wr cp (d + 1) y pc ls (zpush k c2 n2 r.1 st) r.2)
        (fun x m => some (x, m)) none pc ls st m q.1 q.2.1 q.2.2 := by
  apply zopt_ext
  intro r
  cases hq : P y pc with
  | none =>
    dsimp only
    refine ⟨fun h => ?_, fun h => by cases h⟩
    obtain ⟨n, h⟩ := zlim_ex ar ph K R P ml rd wr cp h
    cases n with
    | zero => cases h
    | succ n => rw [zex, hq] at h; cases h
  | some q =>
    dsimp only
    obtain ⟨act, ha⟩ := zstp_act ar ph K R rd wr cp pc ls st m q.1 q.2.1 q.2.2
    rw [ha]
    constructor
    · intro h
      obtain ⟨n, h⟩ := zlim_ex ar ph K R P ml rd wr cp h
      cases n with
      | zero => cases h
      | succ n =>
        rw [zex, hq] at h
        dsimp only at h
        rw [ha] at h
        rcases act with ⟨pc', ls', st', m'⟩ | ⟨y', as, m', k, c2, n2, pc', ls', st'⟩ | ⟨x, m'⟩ | u
        · exact zlim_of ar ph K R P ml rd wr cp h
        · dsimp only [zint] at h ⊢
          cases d with
          | zero => cases h
          | succ d =>
            dsimp only at h ⊢
            cases hc : zex ar ph K R P ml rd wr cp n d y' 0 (zent (ml y') as) [] m' with
            | none => rw [hc] at h; cases h
            | some v =>
              rw [hc] at h
              rw [zlim_of ar ph K R P ml rd wr cp hc]
              exact zlim_of ar ph K R P ml rd wr cp h
        · exact h
        · cases h
    · intro h
      rcases act with ⟨pc', ls', st', m'⟩ | ⟨y', as, m', k, c2, n2, pc', ls', st'⟩ | ⟨x, m'⟩ | u
      · obtain ⟨n, h⟩ := zlim_ex ar ph K R P ml rd wr cp h
        refine zlim_of ar ph K R P ml rd wr cp (n := n + 1) ?_
        rw [zex, hq]
        dsimp only
        rw [ha]
        exact h
      · dsimp only [zint] at h
        cases d with
        | zero => cases h
        | succ d =>
          dsimp only at h
          cases hc : zlim ar ph K R P ml rd wr cp d y' 0 (zent (ml y') as) [] m' with
          | none => rw [hc] at h; cases h
          | some v =>
            rw [hc] at h
            obtain ⟨n1, h1⟩ := zlim_ex ar ph K R P ml rd wr cp hc
            obtain ⟨n2, h2⟩ := zlim_ex ar ph K R P ml rd wr cp (show zlim ar ph K R P ml rd wr cp _ _ _ _ _ _ = some r from h)
            refine zlim_of ar ph K R P ml rd wr cp (n := max n1 n2 + 1) ?_
            rw [zex, hq]
            dsimp only
            rw [ha]
            dsimp only [zint]
            rw [zex_mono ar ph K R P ml rd wr cp (Nat.le_max_left n1 n2) h1]
            exact zex_mono ar ph K R P ml rd wr cp (Nat.le_max_right n1 n2) h2
      · refine zlim_of ar ph K R P ml rd wr cp (n := 1) ?_
        rw [zex, hq]
        dsimp only
        rw [ha]
        exact h
      · cases h
end
end
section
abbrev zW : Type := Int × (Int → Int)
/-- code and length of object number i: those that are made -/
def zKt : List (Int × Int) := [(0, 0), (12, 16), (10, 8), (20, 88), (20, 88), (20, 88), (20, 88), (20, 88), (20, 88), (20, 528), (10, 8), (20, 88), (20, 88), (20, 88), (20, 88), (20, 88), (20, 88), (20, 528), (1, 6), (6, 1), (21, 64), (31, 12), (6, 1), (21, 64), (6, 1), (21, 64), (6, 1), (21, 64), (6, 1), (21, 64), (6, 1), (21, 64), (6, 1), (21, 64), (6, 1), (21, 64), (6, 1), (21, 64), (6, 1), (21, 64), (6, 1), (21, 64), (6, 1), (21, 64), (6, 1), (21, 64), (1, 6), (6, 1), (21, 64), (31, 12), (6, 1), (21, 64), (6, 1), (21, 64), (6, 1), (21, 64), (6, 1), (21, 64), (6, 1), (21, 64), (6, 1), (21, 64), (6, 1), (21, 64), (6, 1), (21, 64), (6, 1), (21, 64), (6, 1), (21, 64), (6, 1), (21, 64), (6, 1), (21, 64), (8, 3), (20, 8), (20, 8), (21, 320), (7, 11), (20, 250), (20, 64), (20, 64), (20, 64), (20, 384), (20, 6), (4, 5), (31, 24), (20, 24), (6, 1), (21, 64), (5, 2), (20, 24), (30, 8), (2, 2), (2, 2), (2, 2), (2, 2), (2, 2), (2, 2), (2, 2), (2, 2), (9, 3), (20, 48), (30, 8), (30, 8), (2, 2), (2, 2), (2, 2), (2, 2), (2, 2), (2, 2), (2, 2), (2, 2), (2, 2), (2, 2), (2, 2), (2, 2), (2, 2), (2, 2), (2, 2), (2, 2), (6, 1), (21, 64), (6, 1), (21, 64), (6, 1), (21, 64), (6, 1), (21, 64), (6, 1), (21, 64), (6, 1), (21, 64), (6, 1), (21, 64), (6, 1), (21, 64), (6, 1), (21, 64), (6, 1), (21, 64), (6, 1), (21, 64), (6, 1), (21, 64), (6, 1), (21, 64), (6, 1), (21, 64), (6, 1), (21, 64), (6, 1), (21, 64), (6, 1), (21, 64), (6, 1), (21, 64), (6, 1), (21, 64), (6, 1), (21, 64), (6, 1), (21, 64), (6, 1), (21, 64), (6, 1), (21, 64), (6, 1), (21, 64), (11, 8), (6, 1), (21, 64), (20, 4096), (5, 2), (20, 24), (30, 8), (2, 2), (2, 2), (2, 2), (2, 2), (2, 2), (2, 2), (2, 2), (2, 2), (9, 3), (20, 48), (30, 8), (30, 8), (2, 2), (2, 2), (2, 2), (2, 2), (2, 2), (2, 2), (2, 2), (2, 2), (2, 2), (2, 2), (2, 2), (2, 2), (2, 2), (2, 2), (2, 2), (2, 2), (6, 1), (21, 64), (20, 6), (20, 10), (20, 5), (13, 32), (20, 264), (20, 5), (21, 9), (21, 9), (32, 4), (22, 4096), (22, 4096), (22, 4096), (22, 4096), (22, 4096), (20, 4096), (20, 6), (34, 13), (20, 250), (20, 770), (20, 420), (20, 8), (20, 8), (21, 320), (22, 4096), (33, 12), (22, 4096), (22, 4096), (22, 4096), (22, 4096), (22, 4096), (22, 4096), (22, 4096), (22, 4096), (22, 4096), (22, 4096), (22, 4096), (22, 4096), (20, 264), (22, 4096), (32, 12), (22, 4096), (22, 4096), (22, 4096), (22, 4096), (22, 4096), (22, 4096), (22, 4096), (22, 4096), (22, 4096), (22, 4096), (22, 4096), (22, 4096), (20, 4)]
/-- .. and of those that were there (number -1 - i) -/
def zKn (w : zW) : List (Int × Int) := [(23, w.1), (23, 18), (23, 18), (0, 0), (0, 0), (0, 0), (0, 0), (0, 0), (0, 0), (40, 0), (40, 0), (40, 0), (40, 0), (40, 0), (40, 0), (40, 0), (40, 0), (40, 0), (40, 0), (40, 0), (40, 0), (40, 0), (40, 0), (0, 0), (0, 0), (0, 0), (0, 0), (0, 0), (0, 0), (0, 0), (0, 0), (0, 0), (0, 0), (0, 0), (0, 0), (0, 0), (0, 0), (0, 0), (0, 0), (24, 0), (24, 0), (24, 0), (24, 0), (24, 0), (24, 0), (24, 0), (24, 0), (24, 0), (24, 0), (24, 0), (24, 0), (24, 0), (24, 0)]
/-- what never changes: references in fields and in rows of references -/
def zRt : List (List Int) := [[], [2, 10, 18, 46, 74, 78, 85, 169, 173, 184, 204, 206, 207, 208], [3, 4, 5, 6, 7, 8, 9], [], [], [], [], [], [], [], [11, 12, 13, 14, 15, 16, 17], [], [], [], [], [], [], [], [19, 21], [20], [], [22, 24, 26, 28, 30, 32, 34, 36, 38, 40, 42, 44], [23], [], [25], [], [27], [], [29], [], [31], [], [33], [], [35], [], [37], [], [39], [], [41], [], [43], [], [45], [], [47, 49], [48], [], [50, 52, 54, 56, 58, 60, 62, 64, 66, 68, 70, 72], [51], [], [53], [], [55], [], [57], [], [59], [], [61], [], [63], [], [65], [], [67], [], [69], [], [71], [], [73], [], [75, 76, 77], [], [], [], [79, 0, 0, 0, 0, 0, 80, 81, 82, 83, 84], [], [], [], [], [], [], [86, 87, 88, 90, 101], [121, 123, 125, 127, 129, 131, 133, 135, 137, 139, 141, 143, 145, 147, 149, 151, 153, 155, 157, 159, 161, 163, 165, 167], [], [89], [], [91, 92], [], [93, 94, 95, 96, 97, 98, 99, 100], [], [], [], [], [], [], [], [], [102, 103, 104], [], [105, 107, 109, 111, 113, 115, 117, 119], [106, 108, 110, 112, 114, 116, 118, 120], [], [], [], [], [], [], [], [], [], [], [], [], [], [], [], [], [122], [], [124], [], [126], [], [128], [], [130], [], [132], [], [134], [], [136], [], [138], [], [140], [], [142], [], [144], [], [146], [], [148], [], [150], [], [152], [], [154], [], [156], [], [158], [], [160], [], [162], [], [164], [], [166], [], [168], [], [170, 172], [171], [], [], [174, 175], [], [176, 177, 178, 179, 180, 181, 182, 183], [], [], [], [], [], [], [], [], [185, 186, 187], [], [188, 190, 192, 194, 196, 198, 200, 202], [189, 191, 193, 195, 197, 199, 201, 203], [], [], [], [], [], [], [], [], [], [], [], [], [], [], [], [], [205], [], [], [], [], [210, 0, 211, 212, 213, 214, 219, 220, 221, 222, 223, 0, 0, 0, 0, 0, 224, 0, 225, 226, 227, 228, 229, 230, 0, 0, 0, 243, 244, 245, 258], [], [], [], [], [215, 216, 217, 218], [], [], [], [], [], [], [], [-11, -13, -17, -23, -14, -15, -12, -21, -19, -18, -22, -16, -20], [], [], [], [], [], [], [], [], [], [], [], [], [], [], [], [], [], [], [], [], [], [], [246, 247, 248, 249, 250, 251, 252, 253, 254, 255, 256, 257], [], [], [], [], [], [], [], [], [], [], [], [], []]
def zRn : List (List Int) := [[], [(-1), 0, 0, 1, 1, 1, 2, 2, 6, 6, 6, 6, 7, 7, 7, 7, 7, 16], [0, 0, 0, 4, 6, 4, 0, 0, 0, 0, 0, 2, 3, 2, 2, 2, 2, 2], [], [], [], [], [], [], [(-40), 0], [(-41), 0], [(-42), 0], [(-43), 0], [(-44), 0], [(-45), 0], [(-46), 0], [(-47), 0], [(-48), 0], [(-49), 0], [(-50), 0], [(-51), 0], [(-52), 0], [(-53), 0], [], [], [], [], [], [], [], [], [], [], [], [], [], [], [], [], [], [98, 97, 108, 108], [98, 108, 101, 110, 100], [98, 111, 120], [99, 111, 109, 109, 111, 110], [99, 117, 116], [103, 114, 111, 119, 110], [104, 97, 108, 102], [109, 105, 114, 114, 111, 114], [114, 101, 112, 101, 97, 116], [115, 104, 101, 108, 108], [115, 104, 105, 102, 116], [116, 117, 114, 110], [117, 110, 105, 111, 110]]
def zlook (t : List (List Int)) (n : Nat) (k : Int) : Int := match znth t n with
  | none => 0
  | some l => match k with
    | .ofNat k => (znth l k).getD 0
    | .negSucc _ => l.length
def zR (w : zW) (a k : Int) : Int := match a with
  | .ofNat n => zlook zRt n k
  | .negSucc 0 => w.2 k
  | .negSucc (n + 1) => zlook zRn (n + 1) k
def zK (w : zW) (a : Int) : Int × Int := match a with
  | .ofNat n => (znth zKt n).getD (0, 0)
  | .negSucc n => (znth (zKn w) n).getD (0, 0)
noncomputable def zP (y pc : Nat) : Option (Jvm.ClassFile.Instr × List Nat × List Int) := match znth zcode y with
  | none => none
  | some l => match znth l pc with
    | none => none
    | some q => some q.2
def zml (y : Nat) : Nat := (znth zmls y).getD 0
def zrd (m : zMem) (a k : Int) : Int := m a k
def zup (m : zMem) (a k v : Int) : zMem := fun a' k' => if a' = a ∧ k' = k then v else m a' k'
def zfc (m : zMem) (a sp b dp n : Int) : zMem := fun a' k' => if a' = b ∧ dp ≤ k' ∧ k' < dp + n then m a (sp + (k' - dp)) else m a' k'
def zcp (m : zMem) (a sp b dp n : Int) : Option zMem := some (zfc m a sp b dp n)
noncomputable def zden (w : zW) (d y pc : Nat) (ls st : List zV) (m : zMem) : Option (Int × zMem) := zlim zar true (zK w) (zR w) zP zml zrd zup zcp d y pc ls st m
noncomputable def zcall (w : zW) (d y : Nat) (as : List zV) (m : zMem) : Option (Int × zMem) := zden w d y 0 (zent (zml y) as) [] m
def zmem : List Nat → Nat → Bool
  | [], _ => false
  | a :: l, x => match Nat.beq a x with
    | true => true
    | false => zmem l x
def zgo {α : Type} (b : Bool) (x y : α) : α := match b, zT8 with
  | true, _ => x
  | false, _ => y
/-- many instructions at once, up to the places 'stop' -/
noncomputable def zunr (w : zW) (c : List (Nat × Jvm.ClassFile.Instr × List Nat × List Int)) (stop : List Nat) (d y : Nat) : Nat → Nat → List zV → List zV → zMem → Option (Int × zMem)
  | 0, pc, ls, st, m => zden w d y pc ls st m
  | n + 1, pc, ls, st, m => match znth c pc with
    | none => none
    | some q => zstp zar true (zK w) (zR w) zrd zup zcp (fun pc ls st m => zgo (zmem stop pc) (zden w d y pc ls st m) (zunr w c stop d y n pc ls st m))
        (fun y' as m k c2 n2 pc ls st => match d with
          | 0 => none
          | d' + 1 => (zcall w d' y' as m).bind fun r => zgo (zmem stop pc) (zden w (d' + 1) y pc ls (zpush k c2 n2 r.1 st) r.2) (zunr w c stop d y n pc ls (zpush k c2 n2 r.1 st) r.2))
        (fun x m => some (x, m)) none pc ls st m q.2.1 q.2.2.1 q.2.2.2
theorem zgo_eq {α : Type} {b : Bool} {x y : α} (h : y = x) : zgo b x y = x := by
  cases b
  · exact h
  · rfl
theorem zunr_eq (w : zW) (c : List (Nat × Jvm.ClassFile.Instr × List Nat × List Int)) (stop : List Nat) (d y : Nat) (hc : znth zcode y = some c) : ∀ (n pc : Nat) (ls st : List zV) (m : zMem), zunr w c stop d y n pc ls st m = zden w d y pc ls st m := by
  intro n
  induction n with
  | zero => intro pc ls st m; rfl
  | succ n ih =>
    intro pc ls st m
    rw [zden, zlim_eq]
    have hP : zP y pc = match znth c pc with | none => none | some q => some q.2 := by rw [zP, hc]
    rw [hP, zunr]
    cases hq : znth c pc with
    | none => rfl
    | some q =>
      dsimp only
      obtain ⟨act, ha⟩ := zstp_act zar true (zK w) (zR w) zrd zup zcp pc ls st m q.2.1 q.2.2.1 q.2.2.2
      rw [ha, ha]
      rcases act with ⟨pc', ls', st', m'⟩ | ⟨y', as, m', k, c2, n2, pc', ls', st'⟩ | ⟨x, m'⟩ | u
      · exact zgo_eq (ih _ _ _ _)
      · dsimp only [zint]
        cases d with
        | zero => rfl
        | succ d' =>
          dsimp only
          refine congrArg _ (funext fun r => ?_)
          exact zgo_eq (ih _ _ _ _)
      · rfl
      · rfl
end
section
/-! Numbers: the machine's Int against the JVM's words -/
def zc32 (x : Int) : Prop := -2147483648 ≤ x ∧ x < 2147483648
def zc64 (x : Int) : Prop := -9223372036854775808 ≤ x ∧ x < 9223372036854775808
theorem zc_i (u : Int32) : zc32 u.toInt := ⟨by have := u.le_toInt; omega, by have := u.toInt_lt; omega⟩
theorem zc_l (u : Int64) : zc64 u.toInt := ⟨by have := u.le_toInt; omega, by have := u.toInt_lt; omega⟩
theorem zt_i {x : Int} (h : zc32 x) : (Int32.ofInt x).toInt = x := Int32.toInt_ofInt_of_le (by have := h.1; omega) (by have := h.2; omega)
theorem zt_l {x : Int} (h : zc64 x) : (Int64.ofInt x).toInt = x := Int64.toInt_ofInt_of_le (by have := h.1; omega) (by have := h.2; omega)
theorem zw32_c (z : Int) : zc32 (zw32 z) := by
  have h1 := Int.le_bmod (x := z) (m := 4294967296) (by decide)
  have h2 := Int.bmod_lt (x := z) (m := 4294967296) (by decide)
  exact ⟨by unfold zw32; omega, by unfold zw32; omega⟩
theorem zw64_c (z : Int) : zc64 (zw64 z) := by
  have h1 := Int.le_bmod (x := z) (m := 18446744073709551616) (by decide)
  have h2 := Int.bmod_lt (x := z) (m := 18446744073709551616) (by decide)
  exact ⟨by unfold zw64; omega, by unfold zw64; omega⟩
theorem zw32_id {z : Int} (h : zc32 z) : zw32 z = z := Int.bmod_eq_of_le (by have := h.1; omega) (by have := h.2; omega)
theorem zw64_id {z : Int} (h : zc64 z) : zw64 z = z := Int.bmod_eq_of_le (by have := h.1; omega) (by have := h.2; omega)
theorem zo_w (z : Int) : Int32.ofInt (zw32 z) = Int32.ofInt z := by
  rw [← Int32.toInt_inj, Int32.toInt_ofInt, Int32.toInt_ofInt]
  exact Int.bmod_bmod ..
theorem zo_wl (z : Int) : Int64.ofInt (zw64 z) = Int64.ofInt z := by
  rw [← Int64.toInt_inj, Int64.toInt_ofInt, Int64.toInt_ofInt]
  exact Int.bmod_bmod ..
theorem zo_of {u : Int32} {z : Int} (h : u.toInt = Int.bmod z (2 ^ 32)) : u = Int32.ofInt (zw32 z) := by
  rw [zo_w, ← Int32.toInt_inj, Int32.toInt_ofInt, h]
theorem zo_ofl {u : Int64} {z : Int} (h : u.toInt = Int.bmod z (2 ^ 64)) : u = Int64.ofInt (zw64 z) := by
  rw [zo_wl, ← Int64.toInt_inj, Int64.toInt_ofInt, h]
section
variable {x y : Int}
theorem zo_add (hx : zc32 x) (hy : zc32 y) : Int32.ofInt x + Int32.ofInt y = Int32.ofInt (zw32 (x + y)) := zo_of (by rw [Int32.toInt_add, zt_i hx, zt_i hy])
theorem zo_sub (hx : zc32 x) (hy : zc32 y) : Int32.ofInt x - Int32.ofInt y = Int32.ofInt (zw32 (x - y)) := zo_of (by rw [Int32.toInt_sub, zt_i hx, zt_i hy])
theorem zo_mul (hx : zc32 x) (hy : zc32 y) : Int32.ofInt x * Int32.ofInt y = Int32.ofInt (zw32 (x * y)) := zo_of (by rw [Int32.toInt_mul, zt_i hx, zt_i hy])
theorem zo_div (hx : zc32 x) (hy : zc32 y) : Int32.ofInt x / Int32.ofInt y = Int32.ofInt (zw32 (x.tdiv y)) := zo_of (by rw [Int32.toInt_div, zt_i hx, zt_i hy])
theorem zo_neg (hx : zc32 x) : -Int32.ofInt x = Int32.ofInt (zw32 (-x)) := zo_of (by rw [Int32.toInt_neg, zt_i hx])
theorem ztm32 (hx : zc32 x) (hy : zc32 y) (h0 : y ≠ 0) : zc32 (x.tmod y) := by
  have h1 := Int.tmod_lt_of_pos
  obtain ⟨a, b⟩ := hy
  obtain ⟨c, d⟩ := hx
  have e := Int.natAbs_tmod x y
  have f : (x.tmod y).natAbs < y.natAbs := by rw [e]; exact Nat.mod_lt _ (by omega)
  have g : (x.tmod y).natAbs ≤ x.natAbs := by rw [e]; exact Nat.mod_le _ _
  exact ⟨by omega, by omega⟩
theorem zo_rem (hx : zc32 x) (hy : zc32 y) (h0 : y ≠ 0) : Int32.ofInt x - Int32.ofInt x / Int32.ofInt y * Int32.ofInt y = Int32.ofInt (x.tmod y) := by
  have h : Int32.ofInt x - Int32.ofInt x / Int32.ofInt y * Int32.ofInt y = Int32.ofInt (zw32 (x.tmod y)) := by
    apply zo_of
    rw [Int32.toInt_sub, Int32.toInt_mul, Int32.toInt_div, zt_i hx, zt_i hy, Int.bmod_mul_bmod, Int.sub_bmod_bmod]
    congr 1
    have := Int.tmod_add_tdiv_mul x y
    have e : x.tdiv y * y = y * x.tdiv y := Int.mul_comm ..
    omega
  rw [h, zw32_id (ztm32 hx hy h0)]
end
section
variable {x y : Int}
theorem zo_addl (hx : zc64 x) (hy : zc64 y) : Int64.ofInt x + Int64.ofInt y = Int64.ofInt (zw64 (x + y)) := zo_ofl (by rw [Int64.toInt_add, zt_l hx, zt_l hy])
theorem zo_subl (hx : zc64 x) (hy : zc64 y) : Int64.ofInt x - Int64.ofInt y = Int64.ofInt (zw64 (x - y)) := zo_ofl (by rw [Int64.toInt_sub, zt_l hx, zt_l hy])
theorem zo_mull (hx : zc64 x) (hy : zc64 y) : Int64.ofInt x * Int64.ofInt y = Int64.ofInt (zw64 (x * y)) := zo_ofl (by rw [Int64.toInt_mul, zt_l hx, zt_l hy])
theorem zo_divl (hx : zc64 x) (hy : zc64 y) : Int64.ofInt x / Int64.ofInt y = Int64.ofInt (zw64 (x.tdiv y)) := zo_ofl (by rw [Int64.toInt_div, zt_l hx, zt_l hy])
theorem zo_negl (hx : zc64 x) : -Int64.ofInt x = Int64.ofInt (zw64 (-x)) := zo_ofl (by rw [Int64.toInt_neg, zt_l hx])
theorem ztm64 (hx : zc64 x) (hy : zc64 y) (h0 : y ≠ 0) : zc64 (x.tmod y) := by
  obtain ⟨a, b⟩ := hy
  obtain ⟨c, d⟩ := hx
  have e := Int.natAbs_tmod x y
  have f : (x.tmod y).natAbs < y.natAbs := by rw [e]; exact Nat.mod_lt _ (by omega)
  have g : (x.tmod y).natAbs ≤ x.natAbs := by rw [e]; exact Nat.mod_le _ _
  exact ⟨by omega, by omega⟩
theorem zo_reml (hx : zc64 x) (hy : zc64 y) (h0 : y ≠ 0) : Int64.ofInt x - Int64.ofInt x / Int64.ofInt y * Int64.ofInt y = Int64.ofInt (x.tmod y) := by
  have h : Int64.ofInt x - Int64.ofInt x / Int64.ofInt y * Int64.ofInt y = Int64.ofInt (zw64 (x.tmod y)) := by
    apply zo_ofl
    rw [Int64.toInt_sub, Int64.toInt_mul, Int64.toInt_div, zt_l hx, zt_l hy, Int.bmod_mul_bmod, Int.sub_bmod_bmod]
    congr 1
    have := Int.tmod_add_tdiv_mul x y
    have e : x.tdiv y * y = y * x.tdiv y := Int.mul_comm ..
    omega
  rw [h, zw64_id (ztm64 hx hy h0)]
end
theorem zb_i (x : Int) : (Int32.ofInt x).toBitVec.toNat = zu32 x := by
  rw [Int32.toBitVec_ofInt, BitVec.toNat_ofInt]
  rfl
theorem zb_l (x : Int) : (Int64.ofInt x).toBitVec.toNat = zu64 x := by
  rw [Int64.toBitVec_ofInt, BitVec.toNat_ofInt]
  rfl
theorem zu32_lt (x : Int) : zu32 x < 4294967296 := by unfold zu32; omega
theorem zu64_lt (x : Int) : zu64 x < 18446744073709551616 := by unfold zu64; omega
theorem zu32_n {n : Nat} (h : n < 4294967296) : zu32 (n : Int) = n := by unfold zu32; omega
theorem zu64_n {n : Nat} (h : n < 18446744073709551616) : zu64 (n : Int) = n := by unfold zu64; omega
theorem zo_bits {u : Int32} {n : Nat} (hn : n < 4294967296) (h : u.toBitVec.toNat = n) : u = Int32.ofInt (zw32 (n : Int)) := by
  rw [zo_w, ← Int32.toBitVec_inj]
  apply BitVec.eq_of_toNat_eq
  rw [h, zb_i, zu32_n hn]
theorem zo_bitsl {u : Int64} {n : Nat} (hn : n < 18446744073709551616) (h : u.toBitVec.toNat = n) : u = Int64.ofInt (zw64 (n : Int)) := by
  rw [zo_wl, ← Int64.toBitVec_inj]
  apply BitVec.eq_of_toNat_eq
  rw [h, zb_l, zu64_n hn]
theorem zo_and (x y : Int) : Int32.ofInt x &&& Int32.ofInt y = Int32.ofInt (zand x y) := zo_bits (Nat.and_lt_two_pow _ (n := 32) (zu32_lt y)) (by rw [Int32.toBitVec_and, BitVec.toNat_and, zb_i, zb_i])
theorem zo_or (x y : Int) : Int32.ofInt x ||| Int32.ofInt y = Int32.ofInt (zor x y) := zo_bits (Nat.or_lt_two_pow (n := 32) (zu32_lt x) (zu32_lt y)) (by rw [Int32.toBitVec_or, BitVec.toNat_or, zb_i, zb_i])
theorem zo_xor (x y : Int) : Int32.ofInt x ^^^ Int32.ofInt y = Int32.ofInt (zxor x y) := zo_bits (Nat.xor_lt_two_pow (n := 32) (zu32_lt x) (zu32_lt y)) (by rw [Int32.toBitVec_xor, BitVec.toNat_xor, zb_i, zb_i])
theorem zo_andl (x y : Int) : Int64.ofInt x &&& Int64.ofInt y = Int64.ofInt (zandL x y) := zo_bitsl (Nat.and_lt_two_pow _ (n := 64) (zu64_lt y)) (by rw [Int64.toBitVec_and, BitVec.toNat_and, zb_l, zb_l])
theorem zo_orl (x y : Int) : Int64.ofInt x ||| Int64.ofInt y = Int64.ofInt (zorL x y) := zo_bitsl (Nat.or_lt_two_pow (n := 64) (zu64_lt x) (zu64_lt y)) (by rw [Int64.toBitVec_or, BitVec.toNat_or, zb_l, zb_l])
theorem zo_xorl (x y : Int) : Int64.ofInt x ^^^ Int64.ofInt y = Int64.ofInt (zxorL x y) := zo_bitsl (Nat.xor_lt_two_pow (n := 64) (zu64_lt x) (zu64_lt y)) (by rw [Int64.toBitVec_xor, BitVec.toNat_xor, zb_l, zb_l])
theorem zs_k (y : Int) : ((Int32.ofInt y &&& 31).toBitVec.smod 32).toNat = zu32 y % 32 := by
  have e : (Int32.ofInt y &&& 31).toBitVec.toNat = zu32 y % 32 := by
    rw [Int32.toBitVec_and, BitVec.toNat_and, zb_i]
    exact Nat.and_two_pow_sub_one_eq_mod (zu32 y) 5
  have hm : (Int32.ofInt y &&& 31).toBitVec.msb = false := by
    rw [BitVec.msb_eq_false_iff_two_mul_lt, e]
    omega
  rw [BitVec.smod_eq, hm]
  show ((Int32.ofInt y &&& 31).toBitVec % 32#32).toNat = _
  rw [BitVec.toNat_umod, e]
  exact Nat.mod_mod _ _
theorem zo_shl (x y : Int) : Int32.ofInt x <<< (Int32.ofInt y &&& 31) = Int32.ofInt (zshl x y) := by
  have h := pk_shl (Int32.ofInt x) (Int32.ofInt y &&& 31) _ (zs_k y)
  rw [zb_i] at h
  have h2 := zo_bits (Nat.mod_lt _ (by decide)) h
  rw [h2, zshl, zo_w, zo_w, ← Int32.toInt_inj, Int32.toInt_ofInt, Int32.toInt_ofInt]
  have : ((zu32 x * 2 ^ (zu32 y % 32) % 2 ^ 32 : Nat) : Int) = (x * 2 ^ (zu32 y % 32)) % (4294967296 : Int) := by
    have hz : (zu32 x : Int) = x % 4294967296 := by unfold zu32; omega
    rw [Int.natCast_emod, Int.natCast_mul, hz, Int.natCast_pow]
    show x % 4294967296 * 2 ^ (zu32 y % 32) % 4294967296 = _
    rw [Int.mul_emod (x % 4294967296), Int.emod_emod, ← Int.mul_emod]
  rw [this]
  exact Int.emod_bmod _ 4294967296
theorem zo_shr {x : Int} (hx : zc32 x) (y : Int) : Int32.ofInt x >>> (Int32.ofInt y &&& 31) = Int32.ofInt (zshr x y) := by
  have h := pk_shr (Int32.ofInt x) (Int32.ofInt y &&& 31) _ (zs_k y)
  rw [zt_i hx] at h
  rw [← Int32.ofInt_toInt (Int32.ofInt x >>> (Int32.ofInt y &&& 31)), h, Int.shiftRight_eq_div_pow]
  rfl
theorem zo_ushr (x y : Int) : ((Int32.ofInt x).toUInt32 >>> ((Int32.ofInt y).toUInt32 &&& Int32.toUInt32 31)).toInt32 = Int32.ofInt (zushr x y) := by
  have e : (((Int32.ofInt y).toUInt32 &&& Int32.toUInt32 31).toBitVec % 32).toNat = zu32 y % 32 := by
    rw [BitVec.toNat_umod, UInt32.toBitVec_and, BitVec.toNat_and]
    show ((Int32.ofInt y).toBitVec.toNat &&& 31) % 32 = _
    rw [zb_i, Nat.and_two_pow_sub_one_eq_mod (zu32 y) 5]
    exact Nat.mod_mod _ _
  have h := pk_ushr (Int32.ofInt x) (Int32.ofInt y) _ e
  rw [zb_i] at h
  exact zo_bits (Nat.lt_of_le_of_lt (Nat.div_le_self _ _) (zu32_lt x)) h
theorem zb_il {y : Int} (hy : zc32 y) : (Int32.ofInt y).toInt64 = Int64.ofInt y := by
  rw [← Int64.toInt_inj, Int32.toInt_toInt64, zt_i hy, zt_l ⟨by have := hy.1; omega, by have := hy.2; omega⟩]
theorem zu_il (y : Int) : zu64 y % 64 = zu32 y % 64 := by unfold zu64 zu32; omega
theorem zs_kl (y : Int) : ((Int64.ofInt y &&& 63).toBitVec.smod 64).toNat = zu64 y % 64 := by
  have e : (Int64.ofInt y &&& 63).toBitVec.toNat = zu64 y % 64 := by
    rw [Int64.toBitVec_and, BitVec.toNat_and, zb_l]
    exact Nat.and_two_pow_sub_one_eq_mod (zu64 y) 6
  have hm : (Int64.ofInt y &&& 63).toBitVec.msb = false := by
    rw [BitVec.msb_eq_false_iff_two_mul_lt, e]
    omega
  rw [BitVec.smod_eq, hm]
  show ((Int64.ofInt y &&& 63).toBitVec % 64#64).toNat = _
  rw [BitVec.toNat_umod, e]
  exact Nat.mod_mod _ _
theorem zo_shll (x : Int) {y : Int} (hy : zc32 y) : Int64.ofInt x <<< ((Int32.ofInt y).toInt64 &&& 63) = Int64.ofInt (zshlL x y) := by
  rw [zb_il hy, zshlL, zo_wl, ← Int64.toBitVec_inj, Int64.toBitVec_shiftLeft]
  apply BitVec.eq_of_toNat_eq
  rw [BitVec.shiftLeft_eq', zs_kl, zu_il, BitVec.toNat_shiftLeft, zb_l, zb_l, Nat.shiftLeft_eq]
  have hz : (zu64 x : Int) = x % 18446744073709551616 := by unfold zu64; omega
  have : ((zu64 x * 2 ^ (zu32 y % 64) % 2 ^ 64 : Nat) : Int) = (x * 2 ^ (zu32 y % 64)) % (18446744073709551616 : Int) := by
    rw [Int.natCast_emod, Int.natCast_mul, hz, Int.natCast_pow]
    show x % 18446744073709551616 * 2 ^ (zu32 y % 64) % 18446744073709551616 = _
    rw [Int.mul_emod (x % 18446744073709551616), Int.emod_emod, ← Int.mul_emod]
  unfold zu64 at this ⊢
  omega
theorem zo_ushrl (x : Int) {y : Int} (hy : zc32 y) : ((Int64.ofInt x).toUInt64 >>> ((Int32.ofInt y).toInt64.toUInt64 &&& Int64.toUInt64 63)).toInt64 = Int64.ofInt (zushrL x y) := by
  rw [zb_il hy]
  refine zo_bitsl (Nat.lt_of_le_of_lt (Nat.div_le_self _ _) (zu64_lt x)) ?_
  show ((Int64.ofInt x).toUInt64 >>> ((Int64.ofInt y).toUInt64 &&& Int64.toUInt64 63)).toBitVec.toNat = _
  rw [UInt64.toBitVec_shiftRight]
  show ((Int64.ofInt x).toBitVec >>> (((Int64.ofInt y).toUInt64 &&& Int64.toUInt64 63).toBitVec % 64)).toNat = _
  rw [BitVec.ushiftRight_eq', BitVec.toNat_ushiftRight, zb_l, Nat.shiftRight_eq_div_pow, BitVec.toNat_umod, UInt64.toBitVec_and, BitVec.toNat_and]
  show zu64 x / 2 ^ (((Int64.ofInt y).toBitVec.toNat &&& 63) % 64) = _
  rw [zb_l, Nat.and_two_pow_sub_one_eq_mod (zu64 y) 6, Nat.mod_mod, zu_il]
theorem zo_i2l {x : Int} (hx : zc32 x) : (Int32.ofInt x).toInt64 = Int64.ofInt x := zb_il hx
theorem zo_l2i {x : Int} (hx : zc64 x) : (Int64.ofInt x).toInt32 = Int32.ofInt (zw32 x) := zo_of (by rw [Int64.toInt_toInt32, zt_l hx])
theorem zw8_c (z : Int) : -128 ≤ zw8 z ∧ zw8 z < 128 := by
  have h1 := Int.le_bmod (x := z) (m := 256) (by decide)
  have h2 := Int.bmod_lt (x := z) (m := 256) (by decide)
  exact ⟨by unfold zw8; omega, by unfold zw8; omega⟩
theorem zw16_c (z : Int) : -32768 ≤ zw16 z ∧ zw16 z < 32768 := by
  have h1 := Int.le_bmod (x := z) (m := 65536) (by decide)
  have h2 := Int.bmod_lt (x := z) (m := 65536) (by decide)
  exact ⟨by unfold zw16; omega, by unfold zw16; omega⟩
theorem zo_i2b {x : Int} (hx : zc32 x) : (Int32.ofInt x).toInt8.toInt32 = Int32.ofInt (zw8 x) := by
  have h := zw8_c x
  rw [← Int32.toInt_inj, Int8.toInt_toInt32, Int32.toInt_toInt8, zt_i hx, zt_i ⟨by omega, by omega⟩]
  rfl
theorem zo_i2s {x : Int} (hx : zc32 x) : (Int32.ofInt x).toInt16.toInt32 = Int32.ofInt (zw16 x) := by
  have h := zw16_c x
  rw [← Int32.toInt_inj, Int16.toInt_toInt32, Int32.toInt_toInt16, zt_i hx, zt_i ⟨by omega, by omega⟩]
  rfl
theorem zo_i2c (x : Int) : ((Int32.ofInt x).toUInt32 % 65536).toInt32 = Int32.ofInt (x % 65536) := by
  have h : ((Int32.ofInt x).toUInt32 % 65536).toInt32.toBitVec.toNat = zu32 x % 65536 := by
    show ((Int32.ofInt x).toUInt32 % 65536).toBitVec.toNat = _
    rw [UInt32.toBitVec_mod, BitVec.toNat_umod]
    show (Int32.ofInt x).toBitVec.toNat % 65536 = _
    rw [zb_i]
  rw [zo_bits (by omega) h, zo_w]
  congr 1
  unfold zu32
  omega
theorem zi_lt {x y : Int} (hx : zc32 x) (hy : zc32 y) : Int32.ofInt x < Int32.ofInt y ↔ x < y := by rw [Int32.lt_iff_toInt_lt, zt_i hx, zt_i hy]
theorem zi_le {x y : Int} (hx : zc32 x) (hy : zc32 y) : Int32.ofInt x ≤ Int32.ofInt y ↔ x ≤ y := by rw [Int32.le_iff_toInt_le, zt_i hx, zt_i hy]
theorem zi_eq {x y : Int} (hx : zc32 x) (hy : zc32 y) : Int32.ofInt x = Int32.ofInt y ↔ x = y := by rw [← Int32.toInt_inj, zt_i hx, zt_i hy]
theorem zi_0 : Int32.ofInt 0 = 0 := rfl
theorem zl_lt {x y : Int} (hx : zc64 x) (hy : zc64 y) : Int64.ofInt x < Int64.ofInt y ↔ x < y := by rw [Int64.lt_iff_toInt_lt, zt_l hx, zt_l hy]
theorem zl_eq {x y : Int} (hx : zc64 x) (hy : zc64 y) : Int64.ofInt x = Int64.ofInt y ↔ x = y := by rw [← Int64.toInt_inj, zt_l hx, zt_l hy]
theorem zi_nat {x : Int} (hx : zc32 x) (h0 : 0 ≤ x) : (Int32.ofInt x).toNatClampNeg = x.toNat := by
  have h : (Int32.ofInt x).toNatClampNeg = (Int32.ofInt x).toInt.toNat := rfl
  rw [h, zt_i hx]
theorem zi_in {x : Int} {n : Nat} (hx : zc32 x) (h0 : 0 ≤ x) (h1 : x < (n : Int)) : vp_in (Int32.ofInt x) n := by
  rw [vp_in_iff, zt_i hx]
  exact ⟨h0, h1⟩
end
section
/-! Names, by program out of the claim's printed ones: classes, methods, entries with the places of their words in lw_tbl -/
def RX0 : String := "RaysOfShapes$Block"
def TX0 : u_T := fun k => match k with
  | 0 => ("RaysOfShapes$Block", "now", "LRaysOfShapes$Places;", true)
  | 1 => ("RaysOfShapes$Block", "carvings", "[LRaysOfShapes$Places;", true)
  | 2 => ("RaysOfShapes$Block", "next", "I", false)
  | 3 => ("RaysOfShapes$Block", "left", "I", false)
  | 4 => ("RaysOfShapes$Block", "inAll", "I", false)
  | _ => ("RaysOfShapes$Block", "drawn", "I", false)
def tyX0 : Nat → FieldType := fun k => match k with
  | 0 => .object "RaysOfShapes$Places"
  | 1 => .array (.object "RaysOfShapes$Places")
  | 2 => .int
  | 3 => .int
  | 4 => .int
  | _ => .int
theorem nmX0 : ∀ a, a < 6 → ∀ b, b < 6 → a ≠ b → (TX0 a).2.1 ≠ (TX0 b).2.1 := by decide +kernel
theorem tyX0_ok : ∀ k, k < 6 → parseFieldDescriptor (TX0 k).2.2.1 = some (tyX0 k) := by decide +kernel
def RX1 : String := "RaysOfShapes$Fraction"
def TX1 : u_T := fun k => match k with
  | 0 => ("RaysOfShapes$Fraction", "num", "J", false)
  | _ => ("RaysOfShapes$Fraction", "den", "J", false)
def tyX1 : Nat → FieldType := fun k => match k with
  | 0 => .long
  | _ => .long
theorem nmX1 : ∀ a, a < 2 → ∀ b, b < 2 → a ≠ b → (TX1 a).2.1 ≠ (TX1 b).2.1 := by decide +kernel
theorem tyX1_ok : ∀ k, k < 2 → parseFieldDescriptor (TX1 k).2.2.1 = some (tyX1 k) := by decide +kernel
def RX2 : String := "RaysOfShapes$Kinds"
def TX2 : u_T := fun k => match k with
  | _ => ("", "", "", false)
def tyX2 : Nat → FieldType := fun k => match k with
  | _ => .int
theorem nmX2 : ∀ a, a < 0 → ∀ b, b < 0 → a ≠ b → (TX2 a).2.1 ≠ (TX2 b).2.1 := by decide +kernel
theorem tyX2_ok : ∀ k, k < 0 → parseFieldDescriptor (TX2 k).2.2.1 = some (tyX2 k) := by decide +kernel
def RX3 : String := "RaysOfShapes$Looker"
def TX3 : u_T := fun k => match k with
  | 0 => ("RaysOfShapes$Looker", "found", "[LRaysOfShapes$Places;", true)
  | 1 => ("RaysOfShapes$Looker", "looked", "[I", true)
  | 2 => ("RaysOfShapes$Looker", "none", "LRaysOfShapes$Places;", true)
  | 3 => ("RaysOfShapes$Looker", "measure", "LRaysOfShapes$Measure;", true)
  | _ => ("RaysOfShapes$Looker", "span", "LRaysOfShapes$Span;", true)
def tyX3 : Nat → FieldType := fun k => match k with
  | 0 => .array (.object "RaysOfShapes$Places")
  | 1 => .array .int
  | 2 => .object "RaysOfShapes$Places"
  | 3 => .object "RaysOfShapes$Measure"
  | _ => .object "RaysOfShapes$Span"
theorem nmX3 : ∀ a, a < 5 → ∀ b, b < 5 → a ≠ b → (TX3 a).2.1 ≠ (TX3 b).2.1 := by decide +kernel
theorem tyX3_ok : ∀ k, k < 5 → parseFieldDescriptor (TX3 k).2.2.1 = some (tyX3 k) := by decide +kernel
def RX4 : String := "RaysOfShapes$Measure"
def TX4 : u_T := fun k => match k with
  | 0 => ("RaysOfShapes$Measure", "points", "[I", true)
  | _ => ("RaysOfShapes$Measure", "worths", "[LRaysOfShapes$Fraction;", true)
def tyX4 : Nat → FieldType := fun k => match k with
  | 0 => .array .int
  | _ => .array (.object "RaysOfShapes$Fraction")
theorem nmX4 : ∀ a, a < 2 → ∀ b, b < 2 → a ≠ b → (TX4 a).2.1 ≠ (TX4 b).2.1 := by decide +kernel
theorem tyX4_ok : ∀ k, k < 2 → parseFieldDescriptor (TX4 k).2.2.1 = some (tyX4 k) := by decide +kernel
def RX5 : String := "RaysOfShapes$Places"
def TX5 : u_T := fun k => match k with
  | _ => ("RaysOfShapes$Places", "words", "[J", true)
def tyX5 : Nat → FieldType := fun k => match k with
  | _ => .array .long
theorem nmX5 : ∀ a, a < 1 → ∀ b, b < 1 → a ≠ b → (TX5 a).2.1 ≠ (TX5 b).2.1 := by decide +kernel
theorem tyX5_ok : ∀ k, k < 1 → parseFieldDescriptor (TX5 k).2.2.1 = some (tyX5 k) := by decide +kernel
def RX6 : String := "RaysOfShapes$Reader"
def TX6 : u_T := fun k => match k with
  | 0 => ("RaysOfShapes$Reader", "tape", "[I", true)
  | 1 => ("RaysOfShapes$Reader", "size", "I", false)
  | 2 => ("RaysOfShapes$Reader", "at", "I", false)
  | 3 => ("RaysOfShapes$Reader", "fault", "I", false)
  | 4 => ("RaysOfShapes$Reader", "made", "I", false)
  | 5 => ("RaysOfShapes$Reader", "open", "I", false)
  | 6 => ("RaysOfShapes$Reader", "openKinds", "[I", true)
  | 7 => ("RaysOfShapes$Reader", "openWords", "[I", true)
  | 8 => ("RaysOfShapes$Reader", "openFirsts", "[I", true)
  | 9 => ("RaysOfShapes$Reader", "openNumbers", "[I", true)
  | _ => ("RaysOfShapes$Reader", "numbers", "[I", true)
def tyX6 : Nat → FieldType := fun k => match k with
  | 0 => .array .int
  | 1 => .int
  | 2 => .int
  | 3 => .int
  | 4 => .int
  | 5 => .int
  | 6 => .array .int
  | 7 => .array .int
  | 8 => .array .int
  | 9 => .array .int
  | _ => .array .int
theorem nmX6 : ∀ a, a < 11 → ∀ b, b < 11 → a ≠ b → (TX6 a).2.1 ≠ (TX6 b).2.1 := by decide +kernel
theorem tyX6_ok : ∀ k, k < 11 → parseFieldDescriptor (TX6 k).2.2.1 = some (tyX6 k) := by decide +kernel
def RX7 : String := "RaysOfShapes$Shelves"
def TX7 : u_T := fun k => match k with
  | 0 => ("RaysOfShapes$Shelves", "held", "[I", true)
  | 1 => ("RaysOfShapes$Shelves", "sizes", "[I", true)
  | _ => ("RaysOfShapes$Shelves", "elements", "[J", true)
def tyX7 : Nat → FieldType := fun k => match k with
  | 0 => .array .int
  | 1 => .array .int
  | _ => .array .long
theorem nmX7 : ∀ a, a < 3 → ∀ b, b < 3 → a ≠ b → (TX7 a).2.1 ≠ (TX7 b).2.1 := by decide +kernel
theorem tyX7_ok : ∀ k, k < 3 → parseFieldDescriptor (TX7 k).2.2.1 = some (tyX7 k) := by decide +kernel
def RX8 : String := "RaysOfShapes$Span"
def TX8 : u_T := fun k => match k with
  | 0 => ("RaysOfShapes$Span", "regions", "[I", true)
  | 1 => ("RaysOfShapes$Span", "lows", "[LRaysOfShapes$Fraction;", true)
  | _ => ("RaysOfShapes$Span", "highs", "[LRaysOfShapes$Fraction;", true)
def tyX8 : Nat → FieldType := fun k => match k with
  | 0 => .array .int
  | 1 => .array (.object "RaysOfShapes$Fraction")
  | _ => .array (.object "RaysOfShapes$Fraction")
theorem nmX8 : ∀ a, a < 3 → ∀ b, b < 3 → a ≠ b → (TX8 a).2.1 ≠ (TX8 b).2.1 := by decide +kernel
theorem tyX8_ok : ∀ k, k < 3 → parseFieldDescriptor (TX8 k).2.2.1 = some (tyX8 k) := by decide +kernel
def RX9 : String := "RaysOfShapes$Table"
def TX9 : u_T := fun k => match k with
  | 0 => ("RaysOfShapes$Table", "kind", "[I", true)
  | 1 => ("RaysOfShapes$Table", "first", "[I", true)
  | 2 => ("RaysOfShapes$Table", "second", "[I", true)
  | 3 => ("RaysOfShapes$Table", "deep", "[I", true)
  | 4 => ("RaysOfShapes$Table", "blends", "[I", true)
  | 5 => ("RaysOfShapes$Table", "solids", "[I", true)
  | 6 => ("RaysOfShapes$Table", "numbers", "[I", true)
  | _ => ("RaysOfShapes$Table", "size", "I", false)
def tyX9 : Nat → FieldType := fun k => match k with
  | 0 => .array .int
  | 1 => .array .int
  | 2 => .array .int
  | 3 => .array .int
  | 4 => .array .int
  | 5 => .array .int
  | 6 => .array .int
  | _ => .int
theorem nmX9 : ∀ a, a < 8 → ∀ b, b < 8 → a ≠ b → (TX9 a).2.1 ≠ (TX9 b).2.1 := by decide +kernel
theorem tyX9_ok : ∀ k, k < 8 → parseFieldDescriptor (TX9 k).2.2.1 = some (tyX9 k) := by decide +kernel
def RX10 : String := "RaysOfShapes$Walker"
def TX10 : u_T := fun k => match k with
  | 0 => ("RaysOfShapes$Walker", "seen", "LRaysOfShapes$Places;", true)
  | 1 => ("RaysOfShapes$Walker", "due", "[I", true)
  | 2 => ("RaysOfShapes$Walker", "stepsTillIn", "I", false)
  | 3 => ("RaysOfShapes$Walker", "placesIn", "I", false)
  | 4 => ("RaysOfShapes$Walker", "timesOver", "I", false)
  | 5 => ("RaysOfShapes$Walker", "parts", "I", false)
  | 6 => ("RaysOfShapes$Walker", "greatest", "I", false)
  | _ => ("RaysOfShapes$Walker", "leastOfGreatest", "I", false)
def tyX10 : Nat → FieldType := fun k => match k with
  | 0 => .object "RaysOfShapes$Places"
  | 1 => .array .int
  | 2 => .int
  | 3 => .int
  | 4 => .int
  | 5 => .int
  | 6 => .int
  | _ => .int
theorem nmX10 : ∀ a, a < 8 → ∀ b, b < 8 → a ≠ b → (TX10 a).2.1 ≠ (TX10 b).2.1 := by decide +kernel
theorem tyX10_ok : ∀ k, k < 8 → parseFieldDescriptor (TX10 k).2.2.1 = some (tyX10 k) := by decide +kernel
def RX11 : String := "RaysOfShapes"
def TX11 : u_T := fun k => match k with
  | 0 => ("RaysOfShapes", "table", "LRaysOfShapes$Table;", true)
  | 1 => ("RaysOfShapes", "keptTable", "LRaysOfShapes$Table;", true)
  | 2 => ("RaysOfShapes", "carved", "LRaysOfShapes$Block;", true)
  | 3 => ("RaysOfShapes", "keptCarved", "LRaysOfShapes$Block;", true)
  | 4 => ("RaysOfShapes", "shelves", "LRaysOfShapes$Shelves;", true)
  | 5 => ("RaysOfShapes", "reader", "LRaysOfShapes$Reader;", true)
  | 6 => ("RaysOfShapes", "looker", "LRaysOfShapes$Looker;", true)
  | 7 => ("RaysOfShapes", "walker", "LRaysOfShapes$Walker;", true)
  | 8 => ("RaysOfShapes", "measure", "LRaysOfShapes$Measure;", true)
  | 9 => ("RaysOfShapes", "span", "LRaysOfShapes$Span;", true)
  | 10 => ("RaysOfShapes", "ballPlaces", "LRaysOfShapes$Places;", true)
  | 11 => ("RaysOfShapes", "numbers", "[I", true)
  | 12 => ("RaysOfShapes", "enoughAt", "[I", true)
  | 13 => ("RaysOfShapes", "refusals", "[I", true)
  | 14 => ("RaysOfShapes", "isKept", "Z", false)
  | _ => ("RaysOfShapes", "keptShapes", "I", false)
def tyX11 : Nat → FieldType := fun k => match k with
  | 0 => .object "RaysOfShapes$Table"
  | 1 => .object "RaysOfShapes$Table"
  | 2 => .object "RaysOfShapes$Block"
  | 3 => .object "RaysOfShapes$Block"
  | 4 => .object "RaysOfShapes$Shelves"
  | 5 => .object "RaysOfShapes$Reader"
  | 6 => .object "RaysOfShapes$Looker"
  | 7 => .object "RaysOfShapes$Walker"
  | 8 => .object "RaysOfShapes$Measure"
  | 9 => .object "RaysOfShapes$Span"
  | 10 => .object "RaysOfShapes$Places"
  | 11 => .array .int
  | 12 => .array .int
  | 13 => .array .int
  | 14 => .boolean
  | _ => .int
theorem nmX11 : ∀ a, a < 16 → ∀ b, b < 16 → a ≠ b → (TX11 a).2.1 ≠ (TX11 b).2.1 := by decide +kernel
theorem tyX11_ok : ∀ k, k < 16 → parseFieldDescriptor (TX11 k).2.2.1 = some (tyX11 k) := by decide +kernel
def RX12 : String := "RaysOfShapesModel"
def TX12 : u_T := fun k => match k with
  | 0 => ("RaysOfShapesModel", "shapes", "[I", true)
  | 1 => ("RaysOfShapesModel", "many", "I", false)
  | 2 => ("RaysOfShapesModel", "refusals", "[I", true)
  | 3 => ("RaysOfShapesModel", "low", "[J", true)
  | 4 => ("RaysOfShapesModel", "high", "[J", true)
  | 5 => ("RaysOfShapesModel", "sets", "[[Z", true)
  | 6 => ("RaysOfShapesModel", "seen", "[Z", true)
  | 7 => ("RaysOfShapesModel", "line", "[I", true)
  | 8 => ("RaysOfShapesModel", "told", "[I", true)
  | 9 => ("RaysOfShapesModel", "words", "[Ljava/lang/String;", true)
  | 10 => ("RaysOfShapesModel", "tape", "[I", true)
  | 11 => ("RaysOfShapesModel", "taped", "I", false)
  | 12 => ("RaysOfShapesModel", "place", "I", false)
  | 13 => ("RaysOfShapesModel", "begin", "I", false)
  | 14 => ("RaysOfShapesModel", "token", "I", false)
  | 15 => ("RaysOfShapesModel", "tokenIs", "I", false)
  | 16 => ("RaysOfShapesModel", "read", "[I", true)
  | 17 => ("RaysOfShapesModel", "readMany", "I", false)
  | 18 => ("RaysOfShapesModel", "begun", "[I", true)
  | 19 => ("RaysOfShapesModel", "sorts", "[I", true)
  | 20 => ("RaysOfShapesModel", "sizes", "[I", true)
  | 21 => ("RaysOfShapesModel", "elements", "[J", true)
  | 22 => ("RaysOfShapesModel", "block", "[Z", true)
  | 23 => ("RaysOfShapesModel", "carved", "[[Z", true)
  | 24 => ("RaysOfShapesModel", "carvings", "I", false)
  | 25 => ("RaysOfShapesModel", "carvedAll", "I", false)
  | 26 => ("RaysOfShapesModel", "seed", "I", false)
  | 27 => ("RaysOfShapesModel", "keptShapes", "[I", true)
  | 28 => ("RaysOfShapesModel", "keptBlock", "[Z", true)
  | 29 => ("RaysOfShapesModel", "keptCarved", "[[Z", true)
  | 30 => ("RaysOfShapesModel", "keptSingles", "[I", true)
  | _ => ("RaysOfShapesModel", "hasImage", "Z", false)
def tyX12 : Nat → FieldType := fun k => match k with
  | 0 => .array .int
  | 1 => .int
  | 2 => .array .int
  | 3 => .array .long
  | 4 => .array .long
  | 5 => .array (.array .boolean)
  | 6 => .array .boolean
  | 7 => .array .int
  | 8 => .array .int
  | 9 => .array (.object "java/lang/String")
  | 10 => .array .int
  | 11 => .int
  | 12 => .int
  | 13 => .int
  | 14 => .int
  | 15 => .int
  | 16 => .array .int
  | 17 => .int
  | 18 => .array .int
  | 19 => .array .int
  | 20 => .array .int
  | 21 => .array .long
  | 22 => .array .boolean
  | 23 => .array (.array .boolean)
  | 24 => .int
  | 25 => .int
  | 26 => .int
  | 27 => .array .int
  | 28 => .array .boolean
  | 29 => .array (.array .boolean)
  | 30 => .array .int
  | _ => .boolean
theorem nmX12 : ∀ a, a < 32 → ∀ b, b < 32 → a ≠ b → (TX12 a).2.1 ≠ (TX12 b).2.1 := by decide +kernel
theorem tyX12_ok : ∀ k, k < 32 → parseFieldDescriptor (TX12 k).2.2.1 = some (tyX12 k) := by decide +kernel
def zcl : List vw_C := [(RX0, TX0, 6), (RX1, TX1, 2), (RX2, TX2, 0), (RX3, TX3, 5), (RX4, TX4, 2), (RX5, TX5, 1), (RX6, TX6, 11), (RX7, TX7, 3), (RX8, TX8, 3), (RX9, TX9, 8), (RX10, TX10, 8), (RX11, TX11, 16), (RX12, TX12, 32)]
set_option maxRecDepth 100000 in
theorem zinX0 : ∀ w ∈ u_ws RX0 TX0 6, w ∈ lw_tbl := by
  have e : u_ws RX0 TX0 6 = [183, 185, 187, 189, 191, 193].filterMap (fun i : Nat => lw_tbl[i]?) := by decide +kernel
  intro w hw
  rw [e] at hw
  obtain ⟨i, -, hi⟩ := List.mem_filterMap.mp hw
  exact List.mem_of_getElem? hi
set_option maxRecDepth 100000 in
theorem zinX1 : ∀ w ∈ u_ws RX1 TX1 2, w ∈ lw_tbl := by
  have e : u_ws RX1 TX1 2 = [275, 277].filterMap (fun i : Nat => lw_tbl[i]?) := by decide +kernel
  intro w hw
  rw [e] at hw
  obtain ⟨i, -, hi⟩ := List.mem_filterMap.mp hw
  exact List.mem_of_getElem? hi
set_option maxRecDepth 100000 in
theorem zinX2 : ∀ w ∈ u_ws RX2 TX2 0, w ∈ lw_tbl := by
  have e : u_ws RX2 TX2 0 = [].filterMap (fun i : Nat => lw_tbl[i]?) := by decide +kernel
  intro w hw
  rw [e] at hw
  obtain ⟨i, -, hi⟩ := List.mem_filterMap.mp hw
  exact List.mem_of_getElem? hi
set_option maxRecDepth 100000 in
theorem zinX3 : ∀ w ∈ u_ws RX3 TX3 5, w ∈ lw_tbl := by
  have e : u_ws RX3 TX3 5 = [310, 312, 314, 316, 318].filterMap (fun i : Nat => lw_tbl[i]?) := by decide +kernel
  intro w hw
  rw [e] at hw
  obtain ⟨i, -, hi⟩ := List.mem_filterMap.mp hw
  exact List.mem_of_getElem? hi
set_option maxRecDepth 100000 in
theorem zinX4 : ∀ w ∈ u_ws RX4 TX4 2, w ∈ lw_tbl := by
  have e : u_ws RX4 TX4 2 = [282, 284].filterMap (fun i : Nat => lw_tbl[i]?) := by decide +kernel
  intro w hw
  rw [e] at hw
  obtain ⟨i, -, hi⟩ := List.mem_filterMap.mp hw
  exact List.mem_of_getElem? hi
set_option maxRecDepth 100000 in
theorem zinX5 : ∀ w ∈ u_ws RX5 TX5 1, w ∈ lw_tbl := by
  have e : u_ws RX5 TX5 1 = [172].filterMap (fun i : Nat => lw_tbl[i]?) := by decide +kernel
  intro w hw
  rw [e] at hw
  obtain ⟨i, -, hi⟩ := List.mem_filterMap.mp hw
  exact List.mem_of_getElem? hi
set_option maxRecDepth 100000 in
theorem zinX6 : ∀ w ∈ u_ws RX6 TX6 11, w ∈ lw_tbl := by
  have e : u_ws RX6 TX6 11 = [229, 231, 233, 235, 237, 239, 241, 243, 245, 247, 249].filterMap (fun i : Nat => lw_tbl[i]?) := by decide +kernel
  intro w hw
  rw [e] at hw
  obtain ⟨i, -, hi⟩ := List.mem_filterMap.mp hw
  exact List.mem_of_getElem? hi
set_option maxRecDepth 100000 in
theorem zinX7 : ∀ w ∈ u_ws RX7 TX7 3, w ∈ lw_tbl := by
  have e : u_ws RX7 TX7 3 = [205, 207, 209].filterMap (fun i : Nat => lw_tbl[i]?) := by decide +kernel
  intro w hw
  rw [e] at hw
  obtain ⟨i, -, hi⟩ := List.mem_filterMap.mp hw
  exact List.mem_of_getElem? hi
set_option maxRecDepth 100000 in
theorem zinX8 : ∀ w ∈ u_ws RX8 TX8 3, w ∈ lw_tbl := by
  have e : u_ws RX8 TX8 3 = [298, 300, 302].filterMap (fun i : Nat => lw_tbl[i]?) := by decide +kernel
  intro w hw
  rw [e] at hw
  obtain ⟨i, -, hi⟩ := List.mem_filterMap.mp hw
  exact List.mem_of_getElem? hi
set_option maxRecDepth 100000 in
theorem zinX9 : ∀ w ∈ u_ws RX9 TX9 8, w ∈ lw_tbl := by
  have e : u_ws RX9 TX9 8 = [141, 143, 145, 147, 149, 151, 153, 155].filterMap (fun i : Nat => lw_tbl[i]?) := by decide +kernel
  intro w hw
  rw [e] at hw
  obtain ⟨i, -, hi⟩ := List.mem_filterMap.mp hw
  exact List.mem_of_getElem? hi
set_option maxRecDepth 100000 in
theorem zinX10 : ∀ w ∈ u_ws RX10 TX10 8, w ∈ lw_tbl := by
  have e : u_ws RX10 TX10 8 = [337, 339, 341, 343, 345, 347, 349, 351].filterMap (fun i : Nat => lw_tbl[i]?) := by decide +kernel
  intro w hw
  rw [e] at hw
  obtain ⟨i, -, hi⟩ := List.mem_filterMap.mp hw
  exact List.mem_of_getElem? hi
set_option maxRecDepth 100000 in
theorem zinX11 : ∀ w ∈ u_ws RX11 TX11 16, w ∈ lw_tbl := by
  have e : u_ws RX11 TX11 16 = [376, 378, 380, 382, 384, 386, 388, 390, 392, 394, 396, 398, 400, 402, 404, 406].filterMap (fun i : Nat => lw_tbl[i]?) := by decide +kernel
  intro w hw
  rw [e] at hw
  obtain ⟨i, -, hi⟩ := List.mem_filterMap.mp hw
  exact List.mem_of_getElem? hi
set_option maxRecDepth 100000 in
theorem zinX12 : ∀ w ∈ u_ws RX12 TX12 32, w ∈ lw_tbl := by
  have e : u_ws RX12 TX12 32 = [1405, 1407, 1409, 1411, 1413, 1415, 1417, 1419, 1421, 1423, 1425, 1427, 1429, 1431, 1433, 1435, 1437, 1439, 1441, 1443, 1445, 1447, 1449, 1451, 1453, 1455, 1457, 1459, 1461, 1463, 1465, 1467].filterMap (fun i : Nat => lw_tbl[i]?) := by decide +kernel
  intro w hw
  rw [e] at hw
  obtain ⟨i, -, hi⟩ := List.mem_filterMap.mp hw
  exact List.mem_of_getElem? hi
def zcns : List String := ["", "RaysOfShapes$Block", "RaysOfShapes$Fraction", "RaysOfShapes$Kinds", "RaysOfShapes$Looker", "RaysOfShapes$Measure", "RaysOfShapes$Places", "RaysOfShapes$Reader", "RaysOfShapes$Shelves", "RaysOfShapes$Span", "RaysOfShapes$Table", "RaysOfShapes$Walker", "RaysOfShapes", "RaysOfShapesModel", "RaysOfShapesLaw", "java/lang/Long", "java/lang/Math", "java/lang/String", "java/lang/StringLatin1", "jdk/internal/util/Preconditions"]
def zcnOf (n : Nat) : String := (znth zcns n).getD ""
/-- a method: name, bytes, locals, answer, static, parameters, its class's number -/
abbrev zMd : Type := MethodName × ByteArray × Nat × Option FieldType × Bool × Nat × Nat
def zmOK (q : zMd) : Prop := Jvm.Cond.code q.1 q.2.1 q.2.2.1 q.2.2.2.1 ∈ lw_tbl ∧ Jvm.Cond.initialized q.1.cls ∈ lw_tbl ∧ (parseMethodDescriptor q.1.desc).map (fun d => d.parameters.length) = some q.2.2.2.2.2.1 ∧ q.1.cls = zcnOf q.2.2.2.2.2.2 ∧
  (q.1.cls ≠ "java/lang/invoke/MethodHandle" ∧ q.1.cls ≠ "java/lang/invoke/VarHandle") ∧ plainFor q.1 = true ∧ (q.2.2.2.2.1 = true → Jvm.Cond.static q.1 ∈ lw_tbl) ∧ (q.2.2.2.2.1 = false → Jvm.Cond.instanceMethod q.1 ∈ lw_tbl ∧ (q.1.name = "<init>" ∨ Jvm.Cond.selects q.1.cls q.1 q.1 ∈ lw_tbl))
theorem zsub_0 {w : Jvm.Cond} (h : w ∈ k2_sels lw_privs) : w ∈ lw_tbl := List.mem_append_left _ h
theorem zsub_1 {w : Jvm.Cond} (h : w ∈ tables_1_1) : w ∈ lw_tbl := List.mem_append_right _ (List.mem_append_left _ h)
theorem zsub_2 {w : Jvm.Cond} (h : w ∈ tables_1_2) : w ∈ lw_tbl := List.mem_append_right _ (List.mem_append_right _ (List.mem_append_left _ h))
theorem zsub_3 {w : Jvm.Cond} (h : w ∈ tables_1_3) : w ∈ lw_tbl := List.mem_append_right _ (List.mem_append_right _ (List.mem_append_right _ (List.mem_append_left _ h)))
theorem zsub_4 {w : Jvm.Cond} (h : w ∈ tables_1_4) : w ∈ lw_tbl := List.mem_append_right _ (List.mem_append_right _ (List.mem_append_right _ (List.mem_append_right _ (List.mem_append_left _ h))))
theorem zsub_5 {w : Jvm.Cond} (h : w ∈ tables_1_5) : w ∈ lw_tbl := List.mem_append_right _ (List.mem_append_right _ (List.mem_append_right _ (List.mem_append_right _ (List.mem_append_right _ (List.mem_append_left _ h)))))
theorem zsub_6 {w : Jvm.Cond} (h : w ∈ tables_1_6) : w ∈ lw_tbl := List.mem_append_right _ (List.mem_append_right _ (List.mem_append_right _ (List.mem_append_right _ (List.mem_append_right _ (List.mem_append_right _ (List.mem_append_left _ h))))))
theorem zsub_7 {w : Jvm.Cond} (h : w ∈ tables_1_7) : w ∈ lw_tbl := List.mem_append_right _ (List.mem_append_right _ (List.mem_append_right _ (List.mem_append_right _ (List.mem_append_right _ (List.mem_append_right _ (List.mem_append_right _ (List.mem_append_left _ h)))))))
theorem zsub_8 {w : Jvm.Cond} (h : w ∈ tables_1_8) : w ∈ lw_tbl := List.mem_append_right _ (List.mem_append_right _ (List.mem_append_right _ (List.mem_append_right _ (List.mem_append_right _ (List.mem_append_right _ (List.mem_append_right _ (List.mem_append_right _ (h))))))))
theorem zdp_0 : (parseMethodDescriptor "()V").map (fun d => d.parameters.length) = some 0 := by decide +kernel
theorem zdp_1 : (parseMethodDescriptor "()LRaysOfShapes$Places;").map (fun d => d.parameters.length) = some 0 := by decide +kernel
theorem zdp_2 : (parseMethodDescriptor "()I").map (fun d => d.parameters.length) = some 0 := by decide +kernel
theorem zdp_3 : (parseMethodDescriptor "(I)V").map (fun d => d.parameters.length) = some 1 := by decide +kernel
theorem zdp_4 : (parseMethodDescriptor "(I)I").map (fun d => d.parameters.length) = some 1 := by decide +kernel
theorem zdp_5 : (parseMethodDescriptor "(LRaysOfShapes$Places;I)I").map (fun d => d.parameters.length) = some 2 := by decide +kernel
theorem zdp_6 : (parseMethodDescriptor "(LRaysOfShapes$Block;)V").map (fun d => d.parameters.length) = some 1 := by decide +kernel
theorem zdp_7 : (parseMethodDescriptor "()J").map (fun d => d.parameters.length) = some 0 := by decide +kernel
theorem zdp_8 : (parseMethodDescriptor "()Z").map (fun d => d.parameters.length) = some 0 := by decide +kernel
theorem zdp_9 : (parseMethodDescriptor "(LRaysOfShapes$Fraction;)Z").map (fun d => d.parameters.length) = some 1 := by decide +kernel
theorem zdp_10 : (parseMethodDescriptor "(J)V").map (fun d => d.parameters.length) = some 1 := by decide +kernel
theorem zdp_11 : (parseMethodDescriptor "(JJ)V").map (fun d => d.parameters.length) = some 2 := by decide +kernel
theorem zdp_12 : (parseMethodDescriptor "(LRaysOfShapes$Fraction;)V").map (fun d => d.parameters.length) = some 1 := by decide +kernel
theorem zdp_13 : (parseMethodDescriptor "(II)V").map (fun d => d.parameters.length) = some 2 := by decide +kernel
theorem zdp_14 : (parseMethodDescriptor "(LRaysOfShapes$Fraction;II)V").map (fun d => d.parameters.length) = some 3 := by decide +kernel
theorem zdp_15 : (parseMethodDescriptor "(II)Z").map (fun d => d.parameters.length) = some 2 := by decide +kernel
theorem zdp_16 : (parseMethodDescriptor "(I)Z").map (fun d => d.parameters.length) = some 1 := by decide +kernel
theorem zdp_17 : (parseMethodDescriptor "(I[I)Z").map (fun d => d.parameters.length) = some 2 := by decide +kernel
theorem zdp_18 : (parseMethodDescriptor "(II[I)Z").map (fun d => d.parameters.length) = some 3 := by decide +kernel
theorem zdp_19 : (parseMethodDescriptor "(I)Ljava/lang/String;").map (fun d => d.parameters.length) = some 1 := by decide +kernel
theorem zdp_20 : (parseMethodDescriptor "(LRaysOfShapes$Table;I)LRaysOfShapes$Places;").map (fun d => d.parameters.length) = some 2 := by decide +kernel
theorem zdp_21 : (parseMethodDescriptor "(LRaysOfShapes$Table;I)I").map (fun d => d.parameters.length) = some 2 := by decide +kernel
theorem zdp_22 : (parseMethodDescriptor "(LRaysOfShapes$Table;III)V").map (fun d => d.parameters.length) = some 4 := by decide +kernel
theorem zdp_23 : (parseMethodDescriptor "(LRaysOfShapes$Table;IIII)LRaysOfShapes$Fraction;").map (fun d => d.parameters.length) = some 5 := by decide +kernel
theorem zdp_24 : (parseMethodDescriptor "(LRaysOfShapes$Table;III)I").map (fun d => d.parameters.length) = some 4 := by decide +kernel
theorem zdp_25 : (parseMethodDescriptor "(LRaysOfShapes$Table;II)V").map (fun d => d.parameters.length) = some 3 := by decide +kernel
theorem zdp_26 : (parseMethodDescriptor "(IIII)V").map (fun d => d.parameters.length) = some 4 := by decide +kernel
theorem zdp_27 : (parseMethodDescriptor "(LRaysOfShapes$Places;)V").map (fun d => d.parameters.length) = some 1 := by decide +kernel
theorem zdp_28 : (parseMethodDescriptor "(LRaysOfShapes$Places;LRaysOfShapes$Places;I)V").map (fun d => d.parameters.length) = some 3 := by decide +kernel
theorem zdp_29 : (parseMethodDescriptor "(LRaysOfShapes$Places;)I").map (fun d => d.parameters.length) = some 1 := by decide +kernel
theorem zdp_30 : (parseMethodDescriptor "(II)I").map (fun d => d.parameters.length) = some 2 := by decide +kernel
theorem zdp_31 : (parseMethodDescriptor "(LRaysOfShapes$Table;)I").map (fun d => d.parameters.length) = some 1 := by decide +kernel
theorem zdp_32 : (parseMethodDescriptor "(LRaysOfShapes$Table;)Z").map (fun d => d.parameters.length) = some 1 := by decide +kernel
theorem zdp_33 : (parseMethodDescriptor "(LRaysOfShapes$Table;I)Z").map (fun d => d.parameters.length) = some 2 := by decide +kernel
theorem zdp_34 : (parseMethodDescriptor "(ILjava/lang/String;)Z").map (fun d => d.parameters.length) = some 2 := by decide +kernel
theorem zdp_35 : (parseMethodDescriptor "(III)V").map (fun d => d.parameters.length) = some 3 := by decide +kernel
theorem zdp_36 : (parseMethodDescriptor "(II)J").map (fun d => d.parameters.length) = some 2 := by decide +kernel
theorem zdp_37 : (parseMethodDescriptor "(IIJ)V").map (fun d => d.parameters.length) = some 3 := by decide +kernel
theorem zdp_38 : (parseMethodDescriptor "(IJ)J").map (fun d => d.parameters.length) = some 2 := by decide +kernel
theorem zdp_39 : (parseMethodDescriptor "(IIIII)V").map (fun d => d.parameters.length) = some 5 := by decide +kernel
theorem zdp_40 : (parseMethodDescriptor "()LRaysOfShapes$Fraction;").map (fun d => d.parameters.length) = some 0 := by decide +kernel
theorem zdp_41 : (parseMethodDescriptor "(LRaysOfShapes$Table;I)V").map (fun d => d.parameters.length) = some 2 := by decide +kernel
theorem zdp_42 : (parseMethodDescriptor "(LRaysOfShapes$Fraction;LRaysOfShapes$Fraction;)V").map (fun d => d.parameters.length) = some 2 := by decide +kernel
theorem zdp_43 : (parseMethodDescriptor "(III)Z").map (fun d => d.parameters.length) = some 3 := by decide +kernel
theorem zdp_44 : (parseMethodDescriptor "(III)I").map (fun d => d.parameters.length) = some 3 := by decide +kernel
theorem zdp_45 : (parseMethodDescriptor "(IIII[I)V").map (fun d => d.parameters.length) = some 5 := by decide +kernel
theorem zdp_46 : (parseMethodDescriptor "(LRaysOfShapes$Table;)V").map (fun d => d.parameters.length) = some 1 := by decide +kernel
theorem zdp_47 : (parseMethodDescriptor "(LRaysOfShapes$Places;IIII)V").map (fun d => d.parameters.length) = some 5 := by decide +kernel
theorem zdp_48 : (parseMethodDescriptor "(LRaysOfShapes$Places;I)Z").map (fun d => d.parameters.length) = some 2 := by decide +kernel
theorem zdp_49 : (parseMethodDescriptor "(IIJ)I").map (fun d => d.parameters.length) = some 3 := by decide +kernel
theorem zdp_50 : (parseMethodDescriptor "(IIIII)I").map (fun d => d.parameters.length) = some 5 := by decide +kernel
theorem zdp_51 : (parseMethodDescriptor "(IIII)I").map (fun d => d.parameters.length) = some 4 := by decide +kernel
theorem zdp_52 : (parseMethodDescriptor "(IIIIII)I").map (fun d => d.parameters.length) = some 6 := by decide +kernel
theorem zdp_53 : (parseMethodDescriptor "(IIIII)J").map (fun d => d.parameters.length) = some 5 := by decide +kernel
theorem zdp_54 : (parseMethodDescriptor "(IIII)J").map (fun d => d.parameters.length) = some 4 := by decide +kernel
theorem zdp_55 : (parseMethodDescriptor "(LRaysOfShapes$Places;LRaysOfShapes$Places;II)Z").map (fun d => d.parameters.length) = some 4 := by decide +kernel
theorem zdp_56 : (parseMethodDescriptor "(IIIII)Z").map (fun d => d.parameters.length) = some 5 := by decide +kernel
theorem zdp_57 : (parseMethodDescriptor "(IIII)Z").map (fun d => d.parameters.length) = some 4 := by decide +kernel
theorem zdp_58 : (parseMethodDescriptor "(I)LRaysOfShapes$Places;").map (fun d => d.parameters.length) = some 1 := by decide +kernel
theorem zdp_59 : (parseMethodDescriptor "(II)LRaysOfShapes$Fraction;").map (fun d => d.parameters.length) = some 2 := by decide +kernel
theorem zdp_60 : (parseMethodDescriptor "(JJJ)Z").map (fun d => d.parameters.length) = some 3 := by decide +kernel
theorem zdp_61 : (parseMethodDescriptor "(I)J").map (fun d => d.parameters.length) = some 1 := by decide +kernel
theorem zdp_62 : (parseMethodDescriptor "(III)J").map (fun d => d.parameters.length) = some 3 := by decide +kernel
theorem zdp_63 : (parseMethodDescriptor "(IJJ)J").map (fun d => d.parameters.length) = some 3 := by decide +kernel
theorem zdp_64 : (parseMethodDescriptor "(JJ)J").map (fun d => d.parameters.length) = some 2 := by decide +kernel
theorem zdp_65 : (parseMethodDescriptor "(JZ)J").map (fun d => d.parameters.length) = some 2 := by decide +kernel
theorem zdp_66 : (parseMethodDescriptor "(IIIIIIII)V").map (fun d => d.parameters.length) = some 8 := by decide +kernel
theorem zdp_67 : (parseMethodDescriptor "(JJJ)J").map (fun d => d.parameters.length) = some 3 := by decide +kernel
theorem zdp_68 : (parseMethodDescriptor "(IIIIIIIIII)V").map (fun d => d.parameters.length) = some 10 := by decide +kernel
theorem zdp_69 : (parseMethodDescriptor "([III)I").map (fun d => d.parameters.length) = some 3 := by decide +kernel
theorem zdp_70 : (parseMethodDescriptor "(IIIII[II)I").map (fun d => d.parameters.length) = some 7 := by decide +kernel
theorem zdp_71 : (parseMethodDescriptor "([Z[Z)V").map (fun d => d.parameters.length) = some 2 := by decide +kernel
theorem zdp_72 : (parseMethodDescriptor "(J)I").map (fun d => d.parameters.length) = some 1 := by decide +kernel
theorem zdp_73 : (parseMethodDescriptor "(J)J").map (fun d => d.parameters.length) = some 1 := by decide +kernel
theorem zdp_74 : (parseMethodDescriptor "(I)C").map (fun d => d.parameters.length) = some 1 := by decide +kernel
theorem zdp_75 : (parseMethodDescriptor "()B").map (fun d => d.parameters.length) = some 0 := by decide +kernel
theorem zdp_76 : (parseMethodDescriptor "([BI)C").map (fun d => d.parameters.length) = some 2 := by decide +kernel
theorem zdp_77 : (parseMethodDescriptor "(IILjava/util/function/BiFunction;)I").map (fun d => d.parameters.length) = some 3 := by decide +kernel
theorem zmh_12 : ("RaysOfShapes" : String) ≠ "java/lang/invoke/MethodHandle" ∧ ("RaysOfShapes" : String) ≠ "java/lang/invoke/VarHandle" := ⟨by decide +kernel, by decide +kernel⟩
theorem zpn_12 : plainName "RaysOfShapes" = true := by decide +kernel
theorem zmh_1 : ("RaysOfShapes$Block" : String) ≠ "java/lang/invoke/MethodHandle" ∧ ("RaysOfShapes$Block" : String) ≠ "java/lang/invoke/VarHandle" := ⟨by decide +kernel, by decide +kernel⟩
theorem zpn_1 : plainName "RaysOfShapes$Block" = true := by decide +kernel
theorem zmh_2 : ("RaysOfShapes$Fraction" : String) ≠ "java/lang/invoke/MethodHandle" ∧ ("RaysOfShapes$Fraction" : String) ≠ "java/lang/invoke/VarHandle" := ⟨by decide +kernel, by decide +kernel⟩
theorem zpn_2 : plainName "RaysOfShapes$Fraction" = true := by decide +kernel
theorem zmh_3 : ("RaysOfShapes$Kinds" : String) ≠ "java/lang/invoke/MethodHandle" ∧ ("RaysOfShapes$Kinds" : String) ≠ "java/lang/invoke/VarHandle" := ⟨by decide +kernel, by decide +kernel⟩
theorem zpn_3 : plainName "RaysOfShapes$Kinds" = true := by decide +kernel
theorem zmh_4 : ("RaysOfShapes$Looker" : String) ≠ "java/lang/invoke/MethodHandle" ∧ ("RaysOfShapes$Looker" : String) ≠ "java/lang/invoke/VarHandle" := ⟨by decide +kernel, by decide +kernel⟩
theorem zpn_4 : plainName "RaysOfShapes$Looker" = true := by decide +kernel
theorem zmh_5 : ("RaysOfShapes$Measure" : String) ≠ "java/lang/invoke/MethodHandle" ∧ ("RaysOfShapes$Measure" : String) ≠ "java/lang/invoke/VarHandle" := ⟨by decide +kernel, by decide +kernel⟩
theorem zpn_5 : plainName "RaysOfShapes$Measure" = true := by decide +kernel
theorem zmh_6 : ("RaysOfShapes$Places" : String) ≠ "java/lang/invoke/MethodHandle" ∧ ("RaysOfShapes$Places" : String) ≠ "java/lang/invoke/VarHandle" := ⟨by decide +kernel, by decide +kernel⟩
theorem zpn_6 : plainName "RaysOfShapes$Places" = true := by decide +kernel
theorem zmh_7 : ("RaysOfShapes$Reader" : String) ≠ "java/lang/invoke/MethodHandle" ∧ ("RaysOfShapes$Reader" : String) ≠ "java/lang/invoke/VarHandle" := ⟨by decide +kernel, by decide +kernel⟩
theorem zpn_7 : plainName "RaysOfShapes$Reader" = true := by decide +kernel
theorem zmh_8 : ("RaysOfShapes$Shelves" : String) ≠ "java/lang/invoke/MethodHandle" ∧ ("RaysOfShapes$Shelves" : String) ≠ "java/lang/invoke/VarHandle" := ⟨by decide +kernel, by decide +kernel⟩
theorem zpn_8 : plainName "RaysOfShapes$Shelves" = true := by decide +kernel
theorem zmh_9 : ("RaysOfShapes$Span" : String) ≠ "java/lang/invoke/MethodHandle" ∧ ("RaysOfShapes$Span" : String) ≠ "java/lang/invoke/VarHandle" := ⟨by decide +kernel, by decide +kernel⟩
theorem zpn_9 : plainName "RaysOfShapes$Span" = true := by decide +kernel
theorem zmh_10 : ("RaysOfShapes$Table" : String) ≠ "java/lang/invoke/MethodHandle" ∧ ("RaysOfShapes$Table" : String) ≠ "java/lang/invoke/VarHandle" := ⟨by decide +kernel, by decide +kernel⟩
theorem zpn_10 : plainName "RaysOfShapes$Table" = true := by decide +kernel
theorem zmh_11 : ("RaysOfShapes$Walker" : String) ≠ "java/lang/invoke/MethodHandle" ∧ ("RaysOfShapes$Walker" : String) ≠ "java/lang/invoke/VarHandle" := ⟨by decide +kernel, by decide +kernel⟩
theorem zpn_11 : plainName "RaysOfShapes$Walker" = true := by decide +kernel
theorem zmh_13 : ("RaysOfShapesModel" : String) ≠ "java/lang/invoke/MethodHandle" ∧ ("RaysOfShapesModel" : String) ≠ "java/lang/invoke/VarHandle" := ⟨by decide +kernel, by decide +kernel⟩
theorem zpn_13 : plainName "RaysOfShapesModel" = true := by decide +kernel
theorem zmh_15 : ("java/lang/Long" : String) ≠ "java/lang/invoke/MethodHandle" ∧ ("java/lang/Long" : String) ≠ "java/lang/invoke/VarHandle" := ⟨by decide +kernel, by decide +kernel⟩
theorem zpn_15 : plainName "java/lang/Long" = true := by decide +kernel
theorem zmh_16 : ("java/lang/Math" : String) ≠ "java/lang/invoke/MethodHandle" ∧ ("java/lang/Math" : String) ≠ "java/lang/invoke/VarHandle" := ⟨by decide +kernel, by decide +kernel⟩
theorem zmh_17 : ("java/lang/String" : String) ≠ "java/lang/invoke/MethodHandle" ∧ ("java/lang/String" : String) ≠ "java/lang/invoke/VarHandle" := ⟨by decide +kernel, by decide +kernel⟩
theorem zpn_17 : plainName "java/lang/String" = true := by decide +kernel
theorem zmh_18 : ("java/lang/StringLatin1" : String) ≠ "java/lang/invoke/MethodHandle" ∧ ("java/lang/StringLatin1" : String) ≠ "java/lang/invoke/VarHandle" := ⟨by decide +kernel, by decide +kernel⟩
theorem zpn_18 : plainName "java/lang/StringLatin1" = true := by decide +kernel
theorem zmh_19 : ("jdk/internal/util/Preconditions" : String) ≠ "java/lang/invoke/MethodHandle" ∧ ("jdk/internal/util/Preconditions" : String) ≠ "java/lang/invoke/VarHandle" := ⟨by decide +kernel, by decide +kernel⟩
theorem zpn_19 : plainName "jdk/internal/util/Preconditions" = true := by decide +kernel
noncomputable abbrev zmd_0 : zMd := (⟨"RaysOfShapes$Block", "<init>", "()V"⟩, prog_2_method_1_code, 2, none, false, 0, 1)
set_option maxRecDepth 100000 in
theorem zmo_0 : zmOK zmd_0 := ⟨zsub_1 (List.mem_of_getElem? (i := 65) rfl), zsub_1 (List.mem_of_getElem? (i := 3) rfl), zdp_0, rfl, zmh_1, plainFor_of_name zpn_1, (fun h => nomatch h), (fun _ => ⟨zsub_1 (List.mem_of_getElem? (i := 64) rfl), Or.inl rfl⟩)⟩
noncomputable abbrev zmd_1 : zMd := (⟨"RaysOfShapes$Block", "places", "()LRaysOfShapes$Places;"⟩, prog_2_method_2_code, 1, some (.object "RaysOfShapes$Places"), false, 0, 1)
set_option maxRecDepth 100000 in
theorem zmo_1 : zmOK zmd_1 := ⟨zsub_5 (List.mem_of_getElem? (i := 222) rfl), zsub_1 (List.mem_of_getElem? (i := 3) rfl), zdp_1, rfl, zmh_1, plainFor_of_name zpn_1, (fun h => nomatch h), (fun _ => ⟨zsub_5 (List.mem_of_getElem? (i := 220) rfl), Or.inr (zsub_5 (List.mem_of_getElem? (i := 221) rfl))⟩)⟩
noncomputable abbrev zmd_2 : zMd := (⟨"RaysOfShapes$Block", "left", "()I"⟩, prog_2_method_3_code, 1, some .int, false, 0, 1)
set_option maxRecDepth 100000 in
theorem zmo_2 : zmOK zmd_2 := ⟨zsub_5 (List.mem_of_getElem? (i := 210) rfl), zsub_1 (List.mem_of_getElem? (i := 3) rfl), zdp_2, rfl, zmh_1, plainFor_of_name zpn_1, (fun h => nomatch h), (fun _ => ⟨zsub_5 (List.mem_of_getElem? (i := 208) rfl), Or.inr (zsub_5 (List.mem_of_getElem? (i := 209) rfl))⟩)⟩
noncomputable abbrev zmd_3 : zMd := (⟨"RaysOfShapes$Block", "inAll", "()I"⟩, prog_2_method_4_code, 1, some .int, false, 0, 1)
set_option maxRecDepth 100000 in
theorem zmo_3 : zmOK zmd_3 := ⟨zsub_6 (List.mem_of_getElem? (i := 47) rfl), zsub_1 (List.mem_of_getElem? (i := 3) rfl), zdp_2, rfl, zmh_1, plainFor_of_name zpn_1, (fun h => nomatch h), (fun _ => ⟨zsub_6 (List.mem_of_getElem? (i := 45) rfl), Or.inr (zsub_6 (List.mem_of_getElem? (i := 46) rfl))⟩)⟩
noncomputable abbrev zmd_4 : zMd := (⟨"RaysOfShapes$Block", "drawnFrom", "()I"⟩, prog_2_method_5_code, 1, some .int, false, 0, 1)
set_option maxRecDepth 100000 in
theorem zmo_4 : zmOK zmd_4 := ⟨zsub_6 (List.mem_of_getElem? (i := 14) rfl), zsub_1 (List.mem_of_getElem? (i := 3) rfl), zdp_2, rfl, zmh_1, plainFor_of_name zpn_1, (fun h => nomatch h), (fun _ => ⟨zsub_6 (List.mem_of_getElem? (i := 12) rfl), Or.inr (zsub_6 (List.mem_of_getElem? (i := 13) rfl))⟩)⟩
noncomputable abbrev zmd_5 : zMd := (⟨"RaysOfShapes$Block", "drawFrom", "(I)V"⟩, prog_2_method_6_code, 2, none, false, 1, 1)
set_option maxRecDepth 100000 in
theorem zmo_5 : zmOK zmd_5 := ⟨zsub_6 (List.mem_of_getElem? (i := 18) rfl), zsub_1 (List.mem_of_getElem? (i := 3) rfl), zdp_3, rfl, zmh_1, plainFor_of_name zpn_1, (fun h => nomatch h), (fun _ => ⟨zsub_6 (List.mem_of_getElem? (i := 16) rfl), Or.inr (zsub_6 (List.mem_of_getElem? (i := 17) rfl))⟩)⟩
noncomputable abbrev zmd_6 : zMd := (⟨"RaysOfShapes$Block", "draw", "(I)I"⟩, prog_2_method_7_code, 2, some .int, false, 1, 1)
set_option maxRecDepth 100000 in
theorem zmo_6 : zmOK zmd_6 := ⟨zsub_5 (List.mem_of_getElem? (i := 238) rfl), zsub_1 (List.mem_of_getElem? (i := 3) rfl), zdp_4, rfl, zmh_1, plainFor_of_name zpn_1, (fun h => nomatch h), (fun _ => ⟨zsub_5 (List.mem_of_getElem? (i := 236) rfl), Or.inr (zsub_5 (List.mem_of_getElem? (i := 237) rfl))⟩)⟩
noncomputable abbrev zmd_7 : zMd := (⟨"RaysOfShapes$Block", "carveBy", "(LRaysOfShapes$Places;I)I"⟩, prog_2_method_8_code, 4, some .int, false, 2, 1)
set_option maxRecDepth 100000 in
theorem zmo_7 : zmOK zmd_7 := ⟨zsub_5 (List.mem_of_getElem? (i := 190) rfl), zsub_1 (List.mem_of_getElem? (i := 3) rfl), zdp_5, rfl, zmh_1, plainFor_of_name zpn_1, (fun h => nomatch h), (fun _ => ⟨zsub_5 (List.mem_of_getElem? (i := 188) rfl), Or.inr (zsub_5 (List.mem_of_getElem? (i := 189) rfl))⟩)⟩
noncomputable abbrev zmd_8 : zMd := (⟨"RaysOfShapes$Block", "tellBack", "()V"⟩, prog_2_method_9_code, 1, none, false, 0, 1)
set_option maxRecDepth 100000 in
theorem zmo_8 : zmOK zmd_8 := ⟨zsub_5 (List.mem_of_getElem? (i := 214) rfl), zsub_1 (List.mem_of_getElem? (i := 3) rfl), zdp_0, rfl, zmh_1, plainFor_of_name zpn_1, (fun h => nomatch h), (fun _ => ⟨zsub_5 (List.mem_of_getElem? (i := 212) rfl), Or.inr (zsub_5 (List.mem_of_getElem? (i := 213) rfl))⟩)⟩
noncomputable abbrev zmd_9 : zMd := (⟨"RaysOfShapes$Block", "takeFrom", "(LRaysOfShapes$Block;)V"⟩, prog_2_method_10_code, 3, none, false, 1, 1)
set_option maxRecDepth 100000 in
theorem zmo_9 : zmOK zmd_9 := ⟨zsub_6 (List.mem_of_getElem? (i := 31) rfl), zsub_1 (List.mem_of_getElem? (i := 3) rfl), zdp_6, rfl, zmh_1, plainFor_of_name zpn_1, (fun h => nomatch h), (fun _ => ⟨zsub_6 (List.mem_of_getElem? (i := 29) rfl), Or.inr (zsub_6 (List.mem_of_getElem? (i := 30) rfl))⟩)⟩
noncomputable abbrev zmd_10 : zMd := (⟨"RaysOfShapes$Fraction", "<init>", "()V"⟩, prog_3_method_1_code, 1, none, false, 0, 2)
set_option maxRecDepth 100000 in
theorem zmo_10 : zmOK zmd_10 := ⟨zsub_1 (List.mem_of_getElem? (i := 173) rfl), zsub_1 (List.mem_of_getElem? (i := 9) rfl), zdp_0, rfl, zmh_2, plainFor_of_name zpn_2, (fun h => nomatch h), (fun _ => ⟨zsub_1 (List.mem_of_getElem? (i := 172) rfl), Or.inl rfl⟩)⟩
noncomputable abbrev zmd_11 : zMd := (⟨"RaysOfShapes$Fraction", "numerator", "()J"⟩, prog_3_method_2_code, 1, some .long, false, 0, 2)
set_option maxRecDepth 100000 in
theorem zmo_11 : zmOK zmd_11 := ⟨zsub_5 (List.mem_of_getElem? (i := 3) rfl), zsub_1 (List.mem_of_getElem? (i := 9) rfl), zdp_7, rfl, zmh_2, plainFor_of_name zpn_2, (fun h => nomatch h), (fun _ => ⟨zsub_5 (List.mem_of_getElem? (i := 1) rfl), Or.inr (zsub_5 (List.mem_of_getElem? (i := 2) rfl))⟩)⟩
noncomputable abbrev zmd_12 : zMd := (⟨"RaysOfShapes$Fraction", "denominator", "()J"⟩, prog_3_method_3_code, 1, some .long, false, 0, 2)
set_option maxRecDepth 100000 in
theorem zmo_12 : zmOK zmd_12 := ⟨zsub_5 (List.mem_of_getElem? (i := 7) rfl), zsub_1 (List.mem_of_getElem? (i := 9) rfl), zdp_7, rfl, zmh_2, plainFor_of_name zpn_2, (fun h => nomatch h), (fun _ => ⟨zsub_5 (List.mem_of_getElem? (i := 5) rfl), Or.inr (zsub_5 (List.mem_of_getElem? (i := 6) rfl))⟩)⟩
noncomputable abbrev zmd_13 : zMd := (⟨"RaysOfShapes$Fraction", "isAboveZero", "()Z"⟩, prog_3_method_4_code, 1, some .boolean, false, 0, 2)
set_option maxRecDepth 100000 in
theorem zmo_13 : zmOK zmd_13 := ⟨zsub_3 (List.mem_of_getElem? (i := 65) rfl), zsub_1 (List.mem_of_getElem? (i := 9) rfl), zdp_8, rfl, zmh_2, plainFor_of_name zpn_2, (fun h => nomatch h), (fun _ => ⟨zsub_3 (List.mem_of_getElem? (i := 63) rfl), Or.inr (zsub_3 (List.mem_of_getElem? (i := 64) rfl))⟩)⟩
noncomputable abbrev zmd_14 : zMd := (⟨"RaysOfShapes$Fraction", "isBelowZero", "()Z"⟩, prog_3_method_5_code, 1, some .boolean, false, 0, 2)
set_option maxRecDepth 100000 in
theorem zmo_14 : zmOK zmd_14 := ⟨zsub_3 (List.mem_of_getElem? (i := 149) rfl), zsub_1 (List.mem_of_getElem? (i := 9) rfl), zdp_8, rfl, zmh_2, plainFor_of_name zpn_2, (fun h => nomatch h), (fun _ => ⟨zsub_3 (List.mem_of_getElem? (i := 147) rfl), Or.inr (zsub_3 (List.mem_of_getElem? (i := 148) rfl))⟩)⟩
noncomputable abbrev zmd_15 : zMd := (⟨"RaysOfShapes$Fraction", "isAbove", "(LRaysOfShapes$Fraction;)Z"⟩, prog_3_method_6_code, 2, some .boolean, false, 1, 2)
set_option maxRecDepth 100000 in
theorem zmo_15 : zmOK zmd_15 := ⟨zsub_3 (List.mem_of_getElem? (i := 19) rfl), zsub_1 (List.mem_of_getElem? (i := 9) rfl), zdp_9, rfl, zmh_2, plainFor_of_name zpn_2, (fun h => nomatch h), (fun _ => ⟨zsub_3 (List.mem_of_getElem? (i := 17) rfl), Or.inr (zsub_3 (List.mem_of_getElem? (i := 18) rfl))⟩)⟩
noncomputable abbrev zmd_16 : zMd := (⟨"RaysOfShapes$Fraction", "putWhole", "(J)V"⟩, prog_3_method_7_code, 3, none, false, 1, 2)
set_option maxRecDepth 100000 in
theorem zmo_16 : zmOK zmd_16 := ⟨zsub_2 (List.mem_of_getElem? (i := 238) rfl), zsub_1 (List.mem_of_getElem? (i := 9) rfl), zdp_10, rfl, zmh_2, plainFor_of_name zpn_2, (fun h => nomatch h), (fun _ => ⟨zsub_2 (List.mem_of_getElem? (i := 236) rfl), Or.inr (zsub_2 (List.mem_of_getElem? (i := 237) rfl))⟩)⟩
noncomputable abbrev zmd_17 : zMd := (⟨"RaysOfShapes$Fraction", "put", "(JJ)V"⟩, prog_3_method_8_code, 12, none, false, 2, 2)
set_option maxRecDepth 100000 in
theorem zmo_17 : zmOK zmd_17 := ⟨zsub_3 (List.mem_of_getElem? (i := 36) rfl), zsub_1 (List.mem_of_getElem? (i := 9) rfl), zdp_11, rfl, zmh_2, plainFor_of_name zpn_2, (fun h => nomatch h), (fun _ => ⟨zsub_3 (List.mem_of_getElem? (i := 34) rfl), Or.inr (zsub_3 (List.mem_of_getElem? (i := 35) rfl))⟩)⟩
noncomputable abbrev zmd_18 : zMd := (⟨"RaysOfShapes$Fraction", "take", "(LRaysOfShapes$Fraction;)V"⟩, prog_3_method_9_code, 2, none, false, 1, 2)
set_option maxRecDepth 100000 in
theorem zmo_18 : zmOK zmd_18 := ⟨zsub_3 (List.mem_of_getElem? (i := 11) rfl), zsub_1 (List.mem_of_getElem? (i := 9) rfl), zdp_12, rfl, zmh_2, plainFor_of_name zpn_2, (fun h => nomatch h), (fun _ => ⟨zsub_3 (List.mem_of_getElem? (i := 9) rfl), Or.inr (zsub_3 (List.mem_of_getElem? (i := 10) rfl))⟩)⟩
noncomputable abbrev zmd_19 : zMd := (⟨"RaysOfShapes$Fraction", "takeLesser", "(LRaysOfShapes$Fraction;)V"⟩, prog_3_method_10_code, 2, none, false, 1, 2)
set_option maxRecDepth 100000 in
theorem zmo_19 : zmOK zmd_19 := ⟨zsub_3 (List.mem_of_getElem? (i := 15) rfl), zsub_1 (List.mem_of_getElem? (i := 9) rfl), zdp_12, rfl, zmh_2, plainFor_of_name zpn_2, (fun h => nomatch h), (fun _ => ⟨zsub_3 (List.mem_of_getElem? (i := 13) rfl), Or.inr (zsub_3 (List.mem_of_getElem? (i := 14) rfl))⟩)⟩
noncomputable abbrev zmd_20 : zMd := (⟨"RaysOfShapes$Fraction", "takeGreater", "(LRaysOfShapes$Fraction;)V"⟩, prog_3_method_11_code, 2, none, false, 1, 2)
set_option maxRecDepth 100000 in
theorem zmo_20 : zmOK zmd_20 := ⟨zsub_3 (List.mem_of_getElem? (i := 24) rfl), zsub_1 (List.mem_of_getElem? (i := 9) rfl), zdp_12, rfl, zmh_2, plainFor_of_name zpn_2, (fun h => nomatch h), (fun _ => ⟨zsub_3 (List.mem_of_getElem? (i := 22) rfl), Or.inr (zsub_3 (List.mem_of_getElem? (i := 23) rfl))⟩)⟩
noncomputable abbrev zmd_21 : zMd := (⟨"RaysOfShapes$Fraction", "changeWith", "(LRaysOfShapes$Fraction;)V"⟩, prog_3_method_12_code, 6, none, false, 1, 2)
set_option maxRecDepth 100000 in
theorem zmo_21 : zmOK zmd_21 := ⟨zsub_3 (List.mem_of_getElem? (i := 155) rfl), zsub_1 (List.mem_of_getElem? (i := 9) rfl), zdp_12, rfl, zmh_2, plainFor_of_name zpn_2, (fun h => nomatch h), (fun _ => ⟨zsub_3 (List.mem_of_getElem? (i := 153) rfl), Or.inr (zsub_3 (List.mem_of_getElem? (i := 154) rfl))⟩)⟩
noncomputable abbrev zmd_22 : zMd := (⟨"RaysOfShapes$Fraction", "turnSign", "()V"⟩, prog_3_method_13_code, 1, none, false, 0, 2)
set_option maxRecDepth 100000 in
theorem zmo_22 : zmOK zmd_22 := ⟨zsub_3 (List.mem_of_getElem? (i := 28) rfl), zsub_1 (List.mem_of_getElem? (i := 9) rfl), zdp_0, rfl, zmh_2, plainFor_of_name zpn_2, (fun h => nomatch h), (fun _ => ⟨zsub_3 (List.mem_of_getElem? (i := 26) rfl), Or.inr (zsub_3 (List.mem_of_getElem? (i := 27) rfl))⟩)⟩
noncomputable abbrev zmd_23 : zMd := (⟨"RaysOfShapes$Fraction", "becomeAmount", "()V"⟩, prog_3_method_14_code, 1, none, false, 0, 2)
set_option maxRecDepth 100000 in
theorem zmo_23 : zmOK zmd_23 := ⟨zsub_3 (List.mem_of_getElem? (i := 57) rfl), zsub_1 (List.mem_of_getElem? (i := 9) rfl), zdp_0, rfl, zmh_2, plainFor_of_name zpn_2, (fun h => nomatch h), (fun _ => ⟨zsub_3 (List.mem_of_getElem? (i := 55) rfl), Or.inr (zsub_3 (List.mem_of_getElem? (i := 56) rfl))⟩)⟩
noncomputable abbrev zmd_24 : zMd := (⟨"RaysOfShapes$Fraction", "lessen", "(II)V"⟩, prog_3_method_15_code, 3, none, false, 2, 2)
set_option maxRecDepth 100000 in
theorem zmo_24 : zmOK zmd_24 := ⟨zsub_3 (List.mem_of_getElem? (i := 61) rfl), zsub_1 (List.mem_of_getElem? (i := 9) rfl), zdp_13, rfl, zmh_2, plainFor_of_name zpn_2, (fun h => nomatch h), (fun _ => ⟨zsub_3 (List.mem_of_getElem? (i := 59) rfl), Or.inr (zsub_3 (List.mem_of_getElem? (i := 60) rfl))⟩)⟩
noncomputable abbrev zmd_25 : zMd := (⟨"RaysOfShapes$Fraction", "mix", "(LRaysOfShapes$Fraction;II)V"⟩, prog_3_method_16_code, 4, none, false, 3, 2)
set_option maxRecDepth 100000 in
theorem zmo_25 : zmOK zmd_25 := ⟨zsub_3 (List.mem_of_getElem? (i := 32) rfl), zsub_1 (List.mem_of_getElem? (i := 9) rfl), zdp_14, rfl, zmh_2, plainFor_of_name zpn_2, (fun h => nomatch h), (fun _ => ⟨zsub_3 (List.mem_of_getElem? (i := 30) rfl), Or.inr (zsub_3 (List.mem_of_getElem? (i := 31) rfl))⟩)⟩
noncomputable abbrev zmd_26 : zMd := (⟨"RaysOfShapes$Kinds", "isUnder", "(II)Z"⟩, prog_4_method_2_code, 4, some .boolean, true, 2, 3)
set_option maxRecDepth 100000 in
theorem zmo_26 : zmOK zmd_26 := ⟨zsub_2 (List.mem_of_getElem? (i := 174) rfl), zsub_1 (List.mem_of_getElem? (i := 14) rfl), zdp_15, rfl, zmh_3, plainFor_of_name zpn_3, (fun _ => zsub_2 (List.mem_of_getElem? (i := 173) rfl)), (fun h => nomatch h)⟩
noncomputable abbrev zmd_27 : zMd := (⟨"RaysOfShapes$Kinds", "isSolid", "(I)Z"⟩, prog_4_method_3_code, 1, some .boolean, true, 1, 3)
set_option maxRecDepth 100000 in
theorem zmo_27 : zmOK zmd_27 := ⟨zsub_2 (List.mem_of_getElem? (i := 222) rfl), zsub_1 (List.mem_of_getElem? (i := 14) rfl), zdp_16, rfl, zmh_3, plainFor_of_name zpn_3, (fun _ => zsub_2 (List.mem_of_getElem? (i := 221) rfl)), (fun h => nomatch h)⟩
noncomputable abbrev zmd_28 : zMd := (⟨"RaysOfShapes$Kinds", "isPair", "(I)Z"⟩, prog_4_method_4_code, 1, some .boolean, true, 1, 3)
set_option maxRecDepth 100000 in
theorem zmo_28 : zmOK zmd_28 := ⟨zsub_3 (List.mem_of_getElem? (i := 1) rfl), zsub_1 (List.mem_of_getElem? (i := 14) rfl), zdp_16, rfl, zmh_3, plainFor_of_name zpn_3, (fun _ => zsub_3 (List.mem_of_getElem? (i := 0) rfl)), (fun h => nomatch h)⟩
noncomputable abbrev zmd_29 : zMd := (⟨"RaysOfShapes$Kinds", "numbersOf", "(I)I"⟩, prog_4_method_5_code, 1, some .int, true, 1, 3)
set_option maxRecDepth 100000 in
theorem zmo_29 : zmOK zmd_29 := ⟨zsub_4 (List.mem_of_getElem? (i := 85) rfl), zsub_1 (List.mem_of_getElem? (i := 14) rfl), zdp_4, rfl, zmh_3, plainFor_of_name zpn_3, (fun _ => zsub_4 (List.mem_of_getElem? (i := 84) rfl)), (fun h => nomatch h)⟩
noncomputable abbrev zmd_30 : zMd := (⟨"RaysOfShapes$Kinds", "allMayBe", "(I[I)Z"⟩, prog_4_method_6_code, 3, some .boolean, true, 2, 3)
set_option maxRecDepth 100000 in
theorem zmo_30 : zmOK zmd_30 := ⟨zsub_4 (List.mem_of_getElem? (i := 184) rfl), zsub_1 (List.mem_of_getElem? (i := 14) rfl), zdp_17, rfl, zmh_3, plainFor_of_name zpn_3, (fun _ => zsub_4 (List.mem_of_getElem? (i := 183) rfl)), (fun h => nomatch h)⟩
noncomputable abbrev zmd_31 : zMd := (⟨"RaysOfShapes$Kinds", "mayBe", "(II[I)Z"⟩, prog_4_method_7_code, 4, some .boolean, true, 3, 3)
set_option maxRecDepth 100000 in
theorem zmo_31 : zmOK zmd_31 := ⟨zsub_4 (List.mem_of_getElem? (i := 97) rfl), zsub_1 (List.mem_of_getElem? (i := 14) rfl), zdp_18, rfl, zmh_3, plainFor_of_name zpn_3, (fun _ => zsub_4 (List.mem_of_getElem? (i := 96) rfl)), (fun h => nomatch h)⟩
noncomputable abbrev zmd_32 : zMd := (⟨"RaysOfShapes$Kinds", "isSpot", "(I)Z"⟩, prog_4_method_8_code, 1, some .boolean, true, 1, 3)
set_option maxRecDepth 100000 in
theorem zmo_32 : zmOK zmd_32 := ⟨zsub_4 (List.mem_of_getElem? (i := 100) rfl), zsub_1 (List.mem_of_getElem? (i := 14) rfl), zdp_16, rfl, zmh_3, plainFor_of_name zpn_3, (fun _ => zsub_4 (List.mem_of_getElem? (i := 99) rfl)), (fun h => nomatch h)⟩
noncomputable abbrev zmd_33 : zMd := (⟨"RaysOfShapes$Kinds", "mayHaveMinus", "(II)Z"⟩, prog_4_method_9_code, 2, some .boolean, true, 2, 3)
set_option maxRecDepth 100000 in
theorem zmo_33 : zmOK zmd_33 := ⟨zsub_4 (List.mem_of_getElem? (i := 94) rfl), zsub_1 (List.mem_of_getElem? (i := 14) rfl), zdp_15, rfl, zmh_3, plainFor_of_name zpn_3, (fun _ => zsub_4 (List.mem_of_getElem? (i := 93) rfl)), (fun h => nomatch h)⟩
noncomputable abbrev zmd_34 : zMd := (⟨"RaysOfShapes$Kinds", "wordOf", "(I)Ljava/lang/String;"⟩, prog_4_method_10_code, 1, some (.object "java/lang/String"), true, 1, 3)
set_option maxRecDepth 100000 in
theorem zmo_34 : zmOK zmd_34 := ⟨zsub_4 (List.mem_of_getElem? (i := 12) rfl), zsub_1 (List.mem_of_getElem? (i := 14) rfl), zdp_19, rfl, zmh_3, plainFor_of_name zpn_3, (fun _ => zsub_4 (List.mem_of_getElem? (i := 11) rfl)), (fun h => nomatch h)⟩
noncomputable abbrev zmd_35 : zMd := (⟨"RaysOfShapes$Looker", "<init>", "()V"⟩, prog_5_method_1_code, 2, none, false, 0, 4)
set_option maxRecDepth 100000 in
theorem zmo_35 : zmOK zmd_35 := ⟨zsub_1 (List.mem_of_getElem? (i := 158) rfl), zsub_1 (List.mem_of_getElem? (i := 7) rfl), zdp_0, rfl, zmh_4, plainFor_of_name zpn_4, (fun h => nomatch h), (fun _ => ⟨zsub_1 (List.mem_of_getElem? (i := 157) rfl), Or.inl rfl⟩)⟩
noncomputable abbrev zmd_36 : zMd := (⟨"RaysOfShapes$Looker", "forgetFrom", "(I)V"⟩, prog_5_method_2_code, 3, none, false, 1, 4)
set_option maxRecDepth 100000 in
theorem zmo_36 : zmOK zmd_36 := ⟨zsub_4 (List.mem_of_getElem? (i := 162) rfl), zsub_1 (List.mem_of_getElem? (i := 7) rfl), zdp_3, rfl, zmh_4, plainFor_of_name zpn_4, (fun h => nomatch h), (fun _ => ⟨zsub_4 (List.mem_of_getElem? (i := 160) rfl), Or.inr (zsub_4 (List.mem_of_getElem? (i := 161) rfl))⟩)⟩
noncomputable abbrev zmd_37 : zMd := (⟨"RaysOfShapes$Looker", "placesOf", "(LRaysOfShapes$Table;I)LRaysOfShapes$Places;"⟩, prog_5_method_3_code, 3, some (.object "RaysOfShapes$Places"), false, 2, 4)
set_option maxRecDepth 100000 in
theorem zmo_37 : zmOK zmd_37 := ⟨zsub_2 (List.mem_of_getElem? (i := 196) rfl), zsub_1 (List.mem_of_getElem? (i := 7) rfl), zdp_20, rfl, zmh_4, plainFor_of_name zpn_4, (fun h => nomatch h), (fun _ => ⟨zsub_2 (List.mem_of_getElem? (i := 194) rfl), Or.inr (zsub_2 (List.mem_of_getElem? (i := 195) rfl))⟩)⟩
noncomputable abbrev zmd_38 : zMd := (⟨"RaysOfShapes$Looker", "lookedAt", "(LRaysOfShapes$Table;I)I"⟩, prog_5_method_4_code, 3, some .int, false, 2, 4)
set_option maxRecDepth 100000 in
theorem zmo_38 : zmOK zmd_38 := ⟨zsub_5 (List.mem_of_getElem? (i := 37) rfl), zsub_1 (List.mem_of_getElem? (i := 7) rfl), zdp_21, rfl, zmh_4, plainFor_of_name zpn_4, (fun h => nomatch h), (fun _ => ⟨zsub_5 (List.mem_of_getElem? (i := 35) rfl), Or.inr (zsub_5 (List.mem_of_getElem? (i := 36) rfl))⟩)⟩
noncomputable abbrev zmd_39 : zMd := (⟨"RaysOfShapes$Looker", "look", "(LRaysOfShapes$Table;III)V"⟩, prog_5_method_5_code, 8, none, false, 4, 4)
set_option maxRecDepth 100000 in
theorem zmo_39 : zmOK zmd_39 := ⟨zsub_2 (List.mem_of_getElem? (i := 204) rfl), zsub_1 (List.mem_of_getElem? (i := 7) rfl), zdp_22, rfl, zmh_4, plainFor_of_name zpn_4, (fun h => nomatch h), (fun _ => ⟨zsub_2 (List.mem_of_getElem? (i := 203) rfl), Or.inr (zsub_0 (List.mem_of_getElem? (i := 6) rfl))⟩)⟩
noncomputable abbrev zmd_40 : zMd := (⟨"RaysOfShapes$Looker", "lookAtEighths", "(LRaysOfShapes$Table;III)V"⟩, prog_5_method_6_code, 6, none, false, 4, 4)
set_option maxRecDepth 100000 in
theorem zmo_40 : zmOK zmd_40 := ⟨zsub_3 (List.mem_of_getElem? (i := 176) rfl), zsub_1 (List.mem_of_getElem? (i := 7) rfl), zdp_22, rfl, zmh_4, plainFor_of_name zpn_4, (fun h => nomatch h), (fun _ => ⟨zsub_3 (List.mem_of_getElem? (i := 175) rfl), Or.inr (zsub_0 (List.mem_of_getElem? (i := 22) rfl))⟩)⟩
noncomputable abbrev zmd_41 : zMd := (⟨"RaysOfShapes$Measure", "<init>", "()V"⟩, prog_6_method_1_code, 2, none, false, 0, 5)
set_option maxRecDepth 100000 in
theorem zmo_41 : zmOK zmd_41 := ⟨zsub_1 (List.mem_of_getElem? (i := 166) rfl), zsub_1 (List.mem_of_getElem? (i := 8) rfl), zdp_0, rfl, zmh_5, plainFor_of_name zpn_5, (fun h => nomatch h), (fun _ => ⟨zsub_1 (List.mem_of_getElem? (i := 165) rfl), Or.inl rfl⟩)⟩
noncomputable abbrev zmd_42 : zMd := (⟨"RaysOfShapes$Measure", "worthAt", "(LRaysOfShapes$Table;IIII)LRaysOfShapes$Fraction;"⟩, prog_6_method_2_code, 6, some (.object "RaysOfShapes$Fraction"), false, 5, 5)
set_option maxRecDepth 100000 in
theorem zmo_42 : zmOK zmd_42 := ⟨zsub_2 (List.mem_of_getElem? (i := 214) rfl), zsub_1 (List.mem_of_getElem? (i := 8) rfl), zdp_23, rfl, zmh_5, plainFor_of_name zpn_5, (fun h => nomatch h), (fun _ => ⟨zsub_2 (List.mem_of_getElem? (i := 212) rfl), Or.inr (zsub_2 (List.mem_of_getElem? (i := 213) rfl))⟩)⟩
noncomputable abbrev zmd_43 : zMd := (⟨"RaysOfShapes$Measure", "find", "(LRaysOfShapes$Table;III)V"⟩, prog_6_method_3_code, 6, none, false, 4, 5)
set_option maxRecDepth 100000 in
theorem zmo_43 : zmOK zmd_43 := ⟨zsub_2 (List.mem_of_getElem? (i := 218) rfl), zsub_1 (List.mem_of_getElem? (i := 8) rfl), zdp_22, rfl, zmh_5, plainFor_of_name zpn_5, (fun h => nomatch h), (fun _ => ⟨zsub_2 (List.mem_of_getElem? (i := 217) rfl), Or.inr (zsub_0 (List.mem_of_getElem? (i := 7) rfl))⟩)⟩
noncomputable abbrev zmd_44 : zMd := (⟨"RaysOfShapes$Measure", "ofSolid", "(LRaysOfShapes$Table;III)I"⟩, prog_6_method_4_code, 10, some .int, false, 4, 5)
set_option maxRecDepth 100000 in
theorem zmo_44 : zmOK zmd_44 := ⟨zsub_2 (List.mem_of_getElem? (i := 226) rfl), zsub_1 (List.mem_of_getElem? (i := 8) rfl), zdp_24, rfl, zmh_5, plainFor_of_name zpn_5, (fun h => nomatch h), (fun _ => ⟨zsub_2 (List.mem_of_getElem? (i := 225) rfl), Or.inr (zsub_0 (List.mem_of_getElem? (i := 8) rfl))⟩)⟩
noncomputable abbrev zmd_45 : zMd := (⟨"RaysOfShapes$Measure", "ofPair", "(LRaysOfShapes$Table;III)V"⟩, prog_6_method_5_code, 9, none, false, 4, 5)
set_option maxRecDepth 100000 in
theorem zmo_45 : zmOK zmd_45 := ⟨zsub_3 (List.mem_of_getElem? (i := 5) rfl), zsub_1 (List.mem_of_getElem? (i := 8) rfl), zdp_22, rfl, zmh_5, plainFor_of_name zpn_5, (fun h => nomatch h), (fun _ => ⟨zsub_3 (List.mem_of_getElem? (i := 4) rfl), Or.inr (zsub_0 (List.mem_of_getElem? (i := 9) rfl))⟩)⟩
noncomputable abbrev zmd_46 : zMd := (⟨"RaysOfShapes$Measure", "ofChange", "(LRaysOfShapes$Table;III)V"⟩, prog_6_method_6_code, 6, none, false, 4, 5)
set_option maxRecDepth 100000 in
theorem zmo_46 : zmOK zmd_46 := ⟨zsub_3 (List.mem_of_getElem? (i := 43) rfl), zsub_1 (List.mem_of_getElem? (i := 8) rfl), zdp_22, rfl, zmh_5, plainFor_of_name zpn_5, (fun h => nomatch h), (fun _ => ⟨zsub_3 (List.mem_of_getElem? (i := 42) rfl), Or.inr (zsub_0 (List.mem_of_getElem? (i := 10) rfl))⟩)⟩
noncomputable abbrev zmd_47 : zMd := (⟨"RaysOfShapes$Measure", "move", "(LRaysOfShapes$Table;II)V"⟩, prog_6_method_7_code, 10, none, false, 3, 5)
set_option maxRecDepth 100000 in
theorem zmo_47 : zmOK zmd_47 := ⟨zsub_3 (List.mem_of_getElem? (i := 47) rfl), zsub_1 (List.mem_of_getElem? (i := 8) rfl), zdp_25, rfl, zmh_5, plainFor_of_name zpn_5, (fun h => nomatch h), (fun _ => ⟨zsub_3 (List.mem_of_getElem? (i := 46) rfl), Or.inr (zsub_0 (List.mem_of_getElem? (i := 11) rfl))⟩)⟩
noncomputable abbrev zmd_48 : zMd := (⟨"RaysOfShapes$Places", "<init>", "()V"⟩, prog_7_method_1_code, 1, none, false, 0, 6)
set_option maxRecDepth 100000 in
theorem zmo_48 : zmOK zmd_48 := ⟨zsub_1 (List.mem_of_getElem? (i := 71) rfl), zsub_1 (List.mem_of_getElem? (i := 4) rfl), zdp_0, rfl, zmh_6, plainFor_of_name zpn_6, (fun h => nomatch h), (fun _ => ⟨zsub_1 (List.mem_of_getElem? (i := 70) rfl), Or.inl rfl⟩)⟩
noncomputable abbrev zmd_49 : zMd := (⟨"RaysOfShapes$Places", "contains", "(I)Z"⟩, prog_7_method_2_code, 2, some .boolean, false, 1, 6)
set_option maxRecDepth 100000 in
theorem zmo_49 : zmOK zmd_49 := ⟨zsub_5 (List.mem_of_getElem? (i := 29) rfl), zsub_1 (List.mem_of_getElem? (i := 4) rfl), zdp_16, rfl, zmh_6, plainFor_of_name zpn_6, (fun h => nomatch h), (fun _ => ⟨zsub_5 (List.mem_of_getElem? (i := 27) rfl), Or.inr (zsub_5 (List.mem_of_getElem? (i := 28) rfl))⟩)⟩
noncomputable abbrev zmd_50 : zMd := (⟨"RaysOfShapes$Places", "add", "(I)V"⟩, prog_7_method_3_code, 2, none, false, 1, 6)
set_option maxRecDepth 100000 in
theorem zmo_50 : zmOK zmd_50 := ⟨zsub_3 (List.mem_of_getElem? (i := 69) rfl), zsub_1 (List.mem_of_getElem? (i := 4) rfl), zdp_3, rfl, zmh_6, plainFor_of_name zpn_6, (fun h => nomatch h), (fun _ => ⟨zsub_3 (List.mem_of_getElem? (i := 67) rfl), Or.inr (zsub_3 (List.mem_of_getElem? (i := 68) rfl))⟩)⟩
noncomputable abbrev zmd_51 : zMd := (⟨"RaysOfShapes$Places", "addCube", "(IIII)V"⟩, prog_7_method_4_code, 8, none, false, 4, 6)
set_option maxRecDepth 100000 in
theorem zmo_51 : zmOK zmd_51 := ⟨zsub_3 (List.mem_of_getElem? (i := 164) rfl), zsub_1 (List.mem_of_getElem? (i := 4) rfl), zdp_26, rfl, zmh_6, plainFor_of_name zpn_6, (fun h => nomatch h), (fun _ => ⟨zsub_3 (List.mem_of_getElem? (i := 162) rfl), Or.inr (zsub_3 (List.mem_of_getElem? (i := 163) rfl))⟩)⟩
noncomputable abbrev zmd_52 : zMd := (⟨"RaysOfShapes$Places", "clear", "()V"⟩, prog_7_method_5_code, 2, none, false, 0, 6)
set_option maxRecDepth 100000 in
theorem zmo_52 : zmOK zmd_52 := ⟨zsub_2 (List.mem_of_getElem? (i := 200) rfl), zsub_1 (List.mem_of_getElem? (i := 4) rfl), zdp_0, rfl, zmh_6, plainFor_of_name zpn_6, (fun h => nomatch h), (fun _ => ⟨zsub_2 (List.mem_of_getElem? (i := 198) rfl), Or.inr (zsub_2 (List.mem_of_getElem? (i := 199) rfl))⟩)⟩
noncomputable abbrev zmd_53 : zMd := (⟨"RaysOfShapes$Places", "takeFrom", "(LRaysOfShapes$Places;)V"⟩, prog_7_method_6_code, 3, none, false, 1, 6)
set_option maxRecDepth 100000 in
theorem zmo_53 : zmOK zmd_53 := ⟨zsub_6 (List.mem_of_getElem? (i := 35) rfl), zsub_1 (List.mem_of_getElem? (i := 4) rfl), zdp_27, rfl, zmh_6, plainFor_of_name zpn_6, (fun h => nomatch h), (fun _ => ⟨zsub_6 (List.mem_of_getElem? (i := 33) rfl), Or.inr (zsub_6 (List.mem_of_getElem? (i := 34) rfl))⟩)⟩
noncomputable abbrev zmd_54 : zMd := (⟨"RaysOfShapes$Places", "becomeBall", "(IIII)V"⟩, prog_7_method_7_code, 8, none, false, 4, 6)
set_option maxRecDepth 100000 in
theorem zmo_54 : zmOK zmd_54 := ⟨zsub_6 (List.mem_of_getElem? (i := 3) rfl), zsub_1 (List.mem_of_getElem? (i := 4) rfl), zdp_26, rfl, zmh_6, plainFor_of_name zpn_6, (fun h => nomatch h), (fun _ => ⟨zsub_6 (List.mem_of_getElem? (i := 1) rfl), Or.inr (zsub_6 (List.mem_of_getElem? (i := 2) rfl))⟩)⟩
noncomputable abbrev zmd_55 : zMd := (⟨"RaysOfShapes$Places", "becomeCarving", "(LRaysOfShapes$Places;LRaysOfShapes$Places;I)V"⟩, prog_7_method_8_code, 9, none, false, 3, 6)
set_option maxRecDepth 100000 in
theorem zmo_55 : zmOK zmd_55 := ⟨zsub_5 (List.mem_of_getElem? (i := 195) rfl), zsub_1 (List.mem_of_getElem? (i := 4) rfl), zdp_28, rfl, zmh_6, plainFor_of_name zpn_6, (fun h => nomatch h), (fun _ => ⟨zsub_5 (List.mem_of_getElem? (i := 193) rfl), Or.inr (zsub_5 (List.mem_of_getElem? (i := 194) rfl))⟩)⟩
noncomputable abbrev zmd_56 : zMd := (⟨"RaysOfShapes$Places", "flip", "(LRaysOfShapes$Places;)V"⟩, prog_7_method_9_code, 3, none, false, 1, 6)
set_option maxRecDepth 100000 in
theorem zmo_56 : zmOK zmd_56 := ⟨zsub_5 (List.mem_of_getElem? (i := 200) rfl), zsub_1 (List.mem_of_getElem? (i := 4) rfl), zdp_27, rfl, zmh_6, plainFor_of_name zpn_6, (fun h => nomatch h), (fun _ => ⟨zsub_5 (List.mem_of_getElem? (i := 198) rfl), Or.inr (zsub_5 (List.mem_of_getElem? (i := 199) rfl))⟩)⟩
noncomputable abbrev zmd_57 : zMd := (⟨"RaysOfShapes$Places", "size", "()I"⟩, prog_7_method_10_code, 3, some .int, false, 0, 6)
set_option maxRecDepth 100000 in
theorem zmo_57 : zmOK zmd_57 := ⟨zsub_3 (List.mem_of_getElem? (i := 181) rfl), zsub_1 (List.mem_of_getElem? (i := 4) rfl), zdp_2, rfl, zmh_6, plainFor_of_name zpn_6, (fun h => nomatch h), (fun _ => ⟨zsub_3 (List.mem_of_getElem? (i := 179) rfl), Or.inr (zsub_3 (List.mem_of_getElem? (i := 180) rfl))⟩)⟩
noncomputable abbrev zmd_58 : zMd := (⟨"RaysOfShapes$Places", "sizeOfBoth", "(LRaysOfShapes$Places;)I"⟩, prog_7_method_11_code, 4, some .int, false, 1, 6)
set_option maxRecDepth 100000 in
theorem zmo_58 : zmOK zmd_58 := ⟨zsub_3 (List.mem_of_getElem? (i := 195) rfl), zsub_1 (List.mem_of_getElem? (i := 4) rfl), zdp_29, rfl, zmh_6, plainFor_of_name zpn_6, (fun h => nomatch h), (fun _ => ⟨zsub_3 (List.mem_of_getElem? (i := 193) rfl), Or.inr (zsub_3 (List.mem_of_getElem? (i := 194) rfl))⟩)⟩
noncomputable abbrev zmd_59 : zMd := (⟨"RaysOfShapes$Places", "sizeOfOne", "(LRaysOfShapes$Places;)I"⟩, prog_7_method_12_code, 4, some .int, false, 1, 6)
set_option maxRecDepth 100000 in
theorem zmo_59 : zmOK zmd_59 := ⟨zsub_3 (List.mem_of_getElem? (i := 191) rfl), zsub_1 (List.mem_of_getElem? (i := 4) rfl), zdp_29, rfl, zmh_6, plainFor_of_name zpn_6, (fun h => nomatch h), (fun _ => ⟨zsub_3 (List.mem_of_getElem? (i := 189) rfl), Or.inr (zsub_3 (List.mem_of_getElem? (i := 190) rfl))⟩)⟩
noncomputable abbrev zmd_60 : zMd := (⟨"RaysOfShapes$Places", "sizeAt", "(II)I"⟩, prog_7_method_13_code, 7, some .int, false, 2, 6)
set_option maxRecDepth 100000 in
theorem zmo_60 : zmOK zmd_60 := ⟨zsub_5 (List.mem_of_getElem? (i := 56) rfl), zsub_1 (List.mem_of_getElem? (i := 4) rfl), zdp_30, rfl, zmh_6, plainFor_of_name zpn_6, (fun h => nomatch h), (fun _ => ⟨zsub_5 (List.mem_of_getElem? (i := 54) rfl), Or.inr (zsub_5 (List.mem_of_getElem? (i := 55) rfl))⟩)⟩
noncomputable abbrev zmd_61 : zMd := (⟨"RaysOfShapes$Places", "ofThem", "(I)I"⟩, prog_7_method_14_code, 4, some .int, false, 1, 6)
set_option maxRecDepth 100000 in
theorem zmo_61 : zmOK zmd_61 := ⟨zsub_5 (List.mem_of_getElem? (i := 46) rfl), zsub_1 (List.mem_of_getElem? (i := 4) rfl), zdp_4, rfl, zmh_6, plainFor_of_name zpn_6, (fun h => nomatch h), (fun _ => ⟨zsub_5 (List.mem_of_getElem? (i := 44) rfl), Or.inr (zsub_5 (List.mem_of_getElem? (i := 45) rfl))⟩)⟩
noncomputable abbrev zmd_62 : zMd := (⟨"RaysOfShapes$Reader", "<init>", "()V"⟩, prog_8_method_1_code, 1, none, false, 0, 7)
set_option maxRecDepth 100000 in
theorem zmo_62 : zmOK zmd_62 := ⟨zsub_1 (List.mem_of_getElem? (i := 118) rfl), zsub_1 (List.mem_of_getElem? (i := 6) rfl), zdp_0, rfl, zmh_7, plainFor_of_name zpn_7, (fun h => nomatch h), (fun _ => ⟨zsub_1 (List.mem_of_getElem? (i := 117) rfl), Or.inl rfl⟩)⟩
noncomputable abbrev zmd_63 : zMd := (⟨"RaysOfShapes$Reader", "size", "()I"⟩, prog_8_method_2_code, 1, some .int, false, 0, 7)
set_option maxRecDepth 100000 in
theorem zmo_63 : zmOK zmd_63 := ⟨zsub_3 (List.mem_of_getElem? (i := 216) rfl), zsub_1 (List.mem_of_getElem? (i := 6) rfl), zdp_2, rfl, zmh_7, plainFor_of_name zpn_7, (fun h => nomatch h), (fun _ => ⟨zsub_3 (List.mem_of_getElem? (i := 214) rfl), Or.inr (zsub_3 (List.mem_of_getElem? (i := 215) rfl))⟩)⟩
noncomputable abbrev zmd_64 : zMd := (⟨"RaysOfShapes$Reader", "made", "()I"⟩, prog_8_method_3_code, 1, some .int, false, 0, 7)
set_option maxRecDepth 100000 in
theorem zmo_64 : zmOK zmd_64 := ⟨zsub_4 (List.mem_of_getElem? (i := 154) rfl), zsub_1 (List.mem_of_getElem? (i := 6) rfl), zdp_2, rfl, zmh_7, plainFor_of_name zpn_7, (fun h => nomatch h), (fun _ => ⟨zsub_4 (List.mem_of_getElem? (i := 152) rfl), Or.inr (zsub_4 (List.mem_of_getElem? (i := 153) rfl))⟩)⟩
noncomputable abbrev zmd_65 : zMd := (⟨"RaysOfShapes$Reader", "isFull", "()Z"⟩, prog_8_method_4_code, 1, some .boolean, false, 0, 7)
set_option maxRecDepth 100000 in
theorem zmo_65 : zmOK zmd_65 := ⟨zsub_3 (List.mem_of_getElem? (i := 208) rfl), zsub_1 (List.mem_of_getElem? (i := 6) rfl), zdp_8, rfl, zmh_7, plainFor_of_name zpn_7, (fun h => nomatch h), (fun _ => ⟨zsub_3 (List.mem_of_getElem? (i := 206) rfl), Or.inr (zsub_3 (List.mem_of_getElem? (i := 207) rfl))⟩)⟩
noncomputable abbrev zmd_66 : zMd := (⟨"RaysOfShapes$Reader", "put", "(I)V"⟩, prog_8_method_5_code, 2, none, false, 1, 7)
set_option maxRecDepth 100000 in
theorem zmo_66 : zmOK zmd_66 := ⟨zsub_3 (List.mem_of_getElem? (i := 212) rfl), zsub_1 (List.mem_of_getElem? (i := 6) rfl), zdp_3, rfl, zmh_7, plainFor_of_name zpn_7, (fun h => nomatch h), (fun _ => ⟨zsub_3 (List.mem_of_getElem? (i := 210) rfl), Or.inr (zsub_3 (List.mem_of_getElem? (i := 211) rfl))⟩)⟩
noncomputable abbrev zmd_67 : zMd := (⟨"RaysOfShapes$Reader", "empty", "()V"⟩, prog_8_method_6_code, 1, none, false, 0, 7)
set_option maxRecDepth 100000 in
theorem zmo_67 : zmOK zmd_67 := ⟨zsub_3 (List.mem_of_getElem? (i := 224) rfl), zsub_1 (List.mem_of_getElem? (i := 6) rfl), zdp_0, rfl, zmh_7, plainFor_of_name zpn_7, (fun h => nomatch h), (fun _ => ⟨zsub_3 (List.mem_of_getElem? (i := 222) rfl), Or.inr (zsub_3 (List.mem_of_getElem? (i := 223) rfl))⟩)⟩
noncomputable abbrev zmd_68 : zMd := (⟨"RaysOfShapes$Reader", "read", "(LRaysOfShapes$Table;)I"⟩, prog_8_method_7_code, 4, some .int, false, 1, 7)
set_option maxRecDepth 100000 in
theorem zmo_68 : zmOK zmd_68 := ⟨zsub_3 (List.mem_of_getElem? (i := 232) rfl), zsub_1 (List.mem_of_getElem? (i := 6) rfl), zdp_31, rfl, zmh_7, plainFor_of_name zpn_7, (fun h => nomatch h), (fun _ => ⟨zsub_3 (List.mem_of_getElem? (i := 230) rfl), Or.inr (zsub_3 (List.mem_of_getElem? (i := 231) rfl))⟩)⟩
noncomputable abbrev zmd_69 : zMd := (⟨"RaysOfShapes$Reader", "begin", "(LRaysOfShapes$Table;)Z"⟩, prog_8_method_8_code, 5, some .boolean, false, 1, 7)
set_option maxRecDepth 100000 in
theorem zmo_69 : zmOK zmd_69 := ⟨zsub_3 (List.mem_of_getElem? (i := 236) rfl), zsub_1 (List.mem_of_getElem? (i := 6) rfl), zdp_32, rfl, zmh_7, plainFor_of_name zpn_7, (fun h => nomatch h), (fun _ => ⟨zsub_3 (List.mem_of_getElem? (i := 235) rfl), Or.inr (zsub_0 (List.mem_of_getElem? (i := 24) rfl))⟩)⟩
noncomputable abbrev zmd_70 : zMd := (⟨"RaysOfShapes$Reader", "begun", "(II)Z"⟩, prog_8_method_9_code, 3, some .boolean, false, 2, 7)
set_option maxRecDepth 100000 in
theorem zmo_70 : zmOK zmd_70 := ⟨zsub_4 (List.mem_of_getElem? (i := 150) rfl), zsub_1 (List.mem_of_getElem? (i := 6) rfl), zdp_15, rfl, zmh_7, plainFor_of_name zpn_7, (fun h => nomatch h), (fun _ => ⟨zsub_4 (List.mem_of_getElem? (i := 149) rfl), Or.inr (zsub_0 (List.mem_of_getElem? (i := 37) rfl))⟩)⟩
noncomputable abbrev zmd_71 : zMd := (⟨"RaysOfShapes$Reader", "end", "(LRaysOfShapes$Table;I)Z"⟩, prog_8_method_10_code, 8, some .boolean, false, 2, 7)
set_option maxRecDepth 100000 in
theorem zmo_71 : zmOK zmd_71 := ⟨zsub_4 (List.mem_of_getElem? (i := 135) rfl), zsub_1 (List.mem_of_getElem? (i := 6) rfl), zdp_33, rfl, zmh_7, plainFor_of_name zpn_7, (fun h => nomatch h), (fun _ => ⟨zsub_4 (List.mem_of_getElem? (i := 134) rfl), Or.inr (zsub_0 (List.mem_of_getElem? (i := 35) rfl))⟩)⟩
noncomputable abbrev zmd_72 : zMd := (⟨"RaysOfShapes$Reader", "write", "(LRaysOfShapes$Table;III)I"⟩, prog_8_method_11_code, 6, some .int, false, 4, 7)
set_option maxRecDepth 100000 in
theorem zmo_72 : zmOK zmd_72 := ⟨zsub_4 (List.mem_of_getElem? (i := 107) rfl), zsub_1 (List.mem_of_getElem? (i := 6) rfl), zdp_24, rfl, zmh_7, plainFor_of_name zpn_7, (fun h => nomatch h), (fun _ => ⟨zsub_4 (List.mem_of_getElem? (i := 106) rfl), Or.inr (zsub_0 (List.mem_of_getElem? (i := 31) rfl))⟩)⟩
noncomputable abbrev zmd_73 : zMd := (⟨"RaysOfShapes$Reader", "isFault", "(I)Z"⟩, prog_8_method_12_code, 2, some .boolean, false, 1, 7)
set_option maxRecDepth 100000 in
theorem zmo_73 : zmOK zmd_73 := ⟨zsub_4 (List.mem_of_getElem? (i := 82) rfl), zsub_1 (List.mem_of_getElem? (i := 6) rfl), zdp_16, rfl, zmh_7, plainFor_of_name zpn_7, (fun h => nomatch h), (fun _ => ⟨zsub_4 (List.mem_of_getElem? (i := 81) rfl), Or.inr (zsub_0 (List.mem_of_getElem? (i := 29) rfl))⟩)⟩
noncomputable abbrev zmd_74 : zMd := (⟨"RaysOfShapes$Reader", "byteAt", "(I)I"⟩, prog_8_method_13_code, 2, some .int, false, 1, 7)
set_option maxRecDepth 100000 in
theorem zmo_74 : zmOK zmd_74 := ⟨zsub_4 (List.mem_of_getElem? (i := 4) rfl), zsub_1 (List.mem_of_getElem? (i := 6) rfl), zdp_4, rfl, zmh_7, plainFor_of_name zpn_7, (fun h => nomatch h), (fun _ => ⟨zsub_4 (List.mem_of_getElem? (i := 3) rfl), Or.inr (zsub_0 (List.mem_of_getElem? (i := 26) rfl))⟩)⟩
noncomputable abbrev zmd_75 : zMd := (⟨"RaysOfShapes$Reader", "skipBlanks", "()V"⟩, prog_8_method_14_code, 2, none, false, 0, 7)
set_option maxRecDepth 100000 in
theorem zmo_75 : zmOK zmd_75 := ⟨zsub_4 (List.mem_of_getElem? (i := 0) rfl), zsub_1 (List.mem_of_getElem? (i := 6) rfl), zdp_0, rfl, zmh_7, plainFor_of_name zpn_7, (fun h => nomatch h), (fun _ => ⟨zsub_3 (List.mem_of_getElem? (i := 239) rfl), Or.inr (zsub_0 (List.mem_of_getElem? (i := 25) rfl))⟩)⟩
noncomputable abbrev zmd_76 : zMd := (⟨"RaysOfShapes$Reader", "readSign", "(I)Z"⟩, prog_8_method_15_code, 2, some .boolean, false, 1, 7)
set_option maxRecDepth 100000 in
theorem zmo_76 : zmOK zmd_76 := ⟨zsub_4 (List.mem_of_getElem? (i := 141) rfl), zsub_1 (List.mem_of_getElem? (i := 6) rfl), zdp_16, rfl, zmh_7, plainFor_of_name zpn_7, (fun h => nomatch h), (fun _ => ⟨zsub_4 (List.mem_of_getElem? (i := 140) rfl), Or.inr (zsub_0 (List.mem_of_getElem? (i := 36) rfl))⟩)⟩
noncomputable abbrev zmd_77 : zMd := (⟨"RaysOfShapes$Reader", "readWord", "()I"⟩, prog_8_method_16_code, 3, some .int, false, 0, 7)
set_option maxRecDepth 100000 in
theorem zmo_77 : zmOK zmd_77 := ⟨zsub_4 (List.mem_of_getElem? (i := 8) rfl), zsub_1 (List.mem_of_getElem? (i := 6) rfl), zdp_2, rfl, zmh_7, plainFor_of_name zpn_7, (fun h => nomatch h), (fun _ => ⟨zsub_4 (List.mem_of_getElem? (i := 7) rfl), Or.inr (zsub_0 (List.mem_of_getElem? (i := 27) rfl))⟩)⟩
noncomputable abbrev zmd_78 : zMd := (⟨"RaysOfShapes$Reader", "isWord", "(ILjava/lang/String;)Z"⟩, prog_8_method_17_code, 4, some .boolean, false, 2, 7)
set_option maxRecDepth 100000 in
theorem zmo_78 : zmOK zmd_78 := ⟨zsub_4 (List.mem_of_getElem? (i := 30) rfl), zsub_1 (List.mem_of_getElem? (i := 6) rfl), zdp_34, rfl, zmh_7, plainFor_of_name zpn_7, (fun h => nomatch h), (fun _ => ⟨zsub_4 (List.mem_of_getElem? (i := 29) rfl), Or.inr (zsub_0 (List.mem_of_getElem? (i := 28) rfl))⟩)⟩
noncomputable abbrev zmd_79 : zMd := (⟨"RaysOfShapes$Reader", "readNumber", "(II)Z"⟩, prog_8_method_18_code, 7, some .boolean, false, 2, 7)
set_option maxRecDepth 100000 in
theorem zmo_79 : zmOK zmd_79 := ⟨zsub_4 (List.mem_of_getElem? (i := 91) rfl), zsub_1 (List.mem_of_getElem? (i := 6) rfl), zdp_15, rfl, zmh_7, plainFor_of_name zpn_7, (fun h => nomatch h), (fun _ => ⟨zsub_4 (List.mem_of_getElem? (i := 90) rfl), Or.inr (zsub_0 (List.mem_of_getElem? (i := 30) rfl))⟩)⟩
noncomputable abbrev zmd_80 : zMd := (⟨"RaysOfShapes$Shelves", "<init>", "()V"⟩, prog_9_method_1_code, 2, none, false, 0, 8)
set_option maxRecDepth 100000 in
theorem zmo_80 : zmOK zmd_80 := ⟨zsub_1 (List.mem_of_getElem? (i := 102) rfl), zsub_1 (List.mem_of_getElem? (i := 5) rfl), zdp_0, rfl, zmh_8, plainFor_of_name zpn_8, (fun h => nomatch h), (fun _ => ⟨zsub_1 (List.mem_of_getElem? (i := 101) rfl), Or.inl rfl⟩)⟩
noncomputable abbrev zmd_81 : zMd := (⟨"RaysOfShapes$Shelves", "heldBy", "(I)I"⟩, prog_9_method_2_code, 2, some .int, false, 1, 8)
set_option maxRecDepth 100000 in
theorem zmo_81 : zmOK zmd_81 := ⟨zsub_2 (List.mem_of_getElem? (i := 101) rfl), zsub_1 (List.mem_of_getElem? (i := 5) rfl), zdp_4, rfl, zmh_8, plainFor_of_name zpn_8, (fun h => nomatch h), (fun _ => ⟨zsub_2 (List.mem_of_getElem? (i := 99) rfl), Or.inr (zsub_2 (List.mem_of_getElem? (i := 100) rfl))⟩)⟩
noncomputable abbrev zmd_82 : zMd := (⟨"RaysOfShapes$Shelves", "sizeOf", "(I)I"⟩, prog_9_method_3_code, 2, some .int, false, 1, 8)
set_option maxRecDepth 100000 in
theorem zmo_82 : zmOK zmd_82 := ⟨zsub_2 (List.mem_of_getElem? (i := 105) rfl), zsub_1 (List.mem_of_getElem? (i := 5) rfl), zdp_4, rfl, zmh_8, plainFor_of_name zpn_8, (fun h => nomatch h), (fun _ => ⟨zsub_2 (List.mem_of_getElem? (i := 103) rfl), Or.inr (zsub_2 (List.mem_of_getElem? (i := 104) rfl))⟩)⟩
noncomputable abbrev zmd_83 : zMd := (⟨"RaysOfShapes$Shelves", "full", "()I"⟩, prog_9_method_4_code, 3, some .int, false, 0, 8)
set_option maxRecDepth 100000 in
theorem zmo_83 : zmOK zmd_83 := ⟨zsub_6 (List.mem_of_getElem? (i := 51) rfl), zsub_1 (List.mem_of_getElem? (i := 5) rfl), zdp_2, rfl, zmh_8, plainFor_of_name zpn_8, (fun h => nomatch h), (fun _ => ⟨zsub_6 (List.mem_of_getElem? (i := 49) rfl), Or.inr (zsub_6 (List.mem_of_getElem? (i := 50) rfl))⟩)⟩
noncomputable abbrev zmd_84 : zMd := (⟨"RaysOfShapes$Shelves", "putRow", "(III)V"⟩, prog_9_method_5_code, 5, none, false, 3, 8)
set_option maxRecDepth 100000 in
theorem zmo_84 : zmOK zmd_84 := ⟨zsub_2 (List.mem_of_getElem? (i := 88) rfl), zsub_1 (List.mem_of_getElem? (i := 5) rfl), zdp_35, rfl, zmh_8, plainFor_of_name zpn_8, (fun h => nomatch h), (fun _ => ⟨zsub_2 (List.mem_of_getElem? (i := 86) rfl), Or.inr (zsub_2 (List.mem_of_getElem? (i := 87) rfl))⟩)⟩
noncomputable abbrev zmd_85 : zMd := (⟨"RaysOfShapes$Shelves", "putShape", "(II)V"⟩, prog_9_method_6_code, 3, none, false, 2, 8)
set_option maxRecDepth 100000 in
theorem zmo_85 : zmOK zmd_85 := ⟨zsub_2 (List.mem_of_getElem? (i := 159) rfl), zsub_1 (List.mem_of_getElem? (i := 5) rfl), zdp_13, rfl, zmh_8, plainFor_of_name zpn_8, (fun h => nomatch h), (fun _ => ⟨zsub_2 (List.mem_of_getElem? (i := 157) rfl), Or.inr (zsub_2 (List.mem_of_getElem? (i := 158) rfl))⟩)⟩
noncomputable abbrev zmd_86 : zMd := (⟨"RaysOfShapes$Shelves", "keepShapesBelow", "(I)V"⟩, prog_9_method_7_code, 3, none, false, 1, 8)
set_option maxRecDepth 100000 in
theorem zmo_86 : zmOK zmd_86 := ⟨zsub_4 (List.mem_of_getElem? (i := 225) rfl), zsub_1 (List.mem_of_getElem? (i := 5) rfl), zdp_3, rfl, zmh_8, plainFor_of_name zpn_8, (fun h => nomatch h), (fun _ => ⟨zsub_4 (List.mem_of_getElem? (i := 223) rfl), Or.inr (zsub_4 (List.mem_of_getElem? (i := 224) rfl))⟩)⟩
noncomputable abbrev zmd_87 : zMd := (⟨"RaysOfShapes$Shelves", "isElement", "(II)Z"⟩, prog_9_method_8_code, 3, some .boolean, false, 2, 8)
set_option maxRecDepth 100000 in
theorem zmo_87 : zmOK zmd_87 := ⟨zsub_2 (List.mem_of_getElem? (i := 113) rfl), zsub_1 (List.mem_of_getElem? (i := 5) rfl), zdp_15, rfl, zmh_8, plainFor_of_name zpn_8, (fun h => nomatch h), (fun _ => ⟨zsub_2 (List.mem_of_getElem? (i := 112) rfl), Or.inr (zsub_0 (List.mem_of_getElem? (i := 2) rfl))⟩)⟩
noncomputable abbrev zmd_88 : zMd := (⟨"RaysOfShapes$Shelves", "elementOf", "(II)J"⟩, prog_9_method_9_code, 3, some .long, false, 2, 8)
set_option maxRecDepth 100000 in
theorem zmo_88 : zmOK zmd_88 := ⟨zsub_2 (List.mem_of_getElem? (i := 139) rfl), zsub_1 (List.mem_of_getElem? (i := 5) rfl), zdp_36, rfl, zmh_8, plainFor_of_name zpn_8, (fun h => nomatch h), (fun _ => ⟨zsub_2 (List.mem_of_getElem? (i := 137) rfl), Or.inr (zsub_2 (List.mem_of_getElem? (i := 138) rfl))⟩)⟩
noncomputable abbrev zmd_89 : zMd := (⟨"RaysOfShapes$Shelves", "putElement", "(IIJ)V"⟩, prog_9_method_10_code, 5, none, false, 3, 8)
set_option maxRecDepth 100000 in
theorem zmo_89 : zmOK zmd_89 := ⟨zsub_2 (List.mem_of_getElem? (i := 109) rfl), zsub_1 (List.mem_of_getElem? (i := 5) rfl), zdp_37, rfl, zmh_8, plainFor_of_name zpn_8, (fun h => nomatch h), (fun _ => ⟨zsub_2 (List.mem_of_getElem? (i := 107) rfl), Or.inr (zsub_2 (List.mem_of_getElem? (i := 108) rfl))⟩)⟩
noncomputable abbrev zmd_90 : zMd := (⟨"RaysOfShapes$Shelves", "narrowed", "(IJ)J"⟩, prog_9_method_11_code, 3, some .long, true, 2, 8)
set_option maxRecDepth 100000 in
theorem zmo_90 : zmOK zmd_90 := ⟨zsub_2 (List.mem_of_getElem? (i := 117) rfl), zsub_1 (List.mem_of_getElem? (i := 5) rfl), zdp_38, rfl, zmh_8, plainFor_of_name zpn_8, (fun _ => zsub_2 (List.mem_of_getElem? (i := 116) rfl)), (fun h => nomatch h)⟩
noncomputable abbrev zmd_91 : zMd := (⟨"RaysOfShapes$Shelves", "moveElements", "(IIIII)V"⟩, prog_9_method_12_code, 6, none, false, 5, 8)
set_option maxRecDepth 100000 in
theorem zmo_91 : zmOK zmd_91 := ⟨zsub_2 (List.mem_of_getElem? (i := 128) rfl), zsub_1 (List.mem_of_getElem? (i := 5) rfl), zdp_39, rfl, zmh_8, plainFor_of_name zpn_8, (fun h => nomatch h), (fun _ => ⟨zsub_2 (List.mem_of_getElem? (i := 126) rfl), Or.inr (zsub_2 (List.mem_of_getElem? (i := 127) rfl))⟩)⟩
noncomputable abbrev zmd_92 : zMd := (⟨"RaysOfShapes$Span", "<init>", "()V"⟩, prog_10_method_1_code, 2, none, false, 0, 9)
set_option maxRecDepth 100000 in
theorem zmo_92 : zmOK zmd_92 := ⟨zsub_1 (List.mem_of_getElem? (i := 193) rfl), zsub_1 (List.mem_of_getElem? (i := 10) rfl), zdp_0, rfl, zmh_9, plainFor_of_name zpn_9, (fun h => nomatch h), (fun _ => ⟨zsub_1 (List.mem_of_getElem? (i := 192) rfl), Or.inl rfl⟩)⟩
noncomputable abbrev zmd_93 : zMd := (⟨"RaysOfShapes$Span", "putFrom", "(III)V"⟩, prog_10_method_2_code, 4, none, false, 3, 9)
set_option maxRecDepth 100000 in
theorem zmo_93 : zmOK zmd_93 := ⟨zsub_3 (List.mem_of_getElem? (i := 76) rfl), zsub_1 (List.mem_of_getElem? (i := 10) rfl), zdp_35, rfl, zmh_9, plainFor_of_name zpn_9, (fun h => nomatch h), (fun _ => ⟨zsub_3 (List.mem_of_getElem? (i := 74) rfl), Or.inr (zsub_3 (List.mem_of_getElem? (i := 75) rfl))⟩)⟩
noncomputable abbrev zmd_94 : zMd := (⟨"RaysOfShapes$Span", "putTo", "(III)V"⟩, prog_10_method_3_code, 4, none, false, 3, 9)
set_option maxRecDepth 100000 in
theorem zmo_94 : zmOK zmd_94 := ⟨zsub_3 (List.mem_of_getElem? (i := 80) rfl), zsub_1 (List.mem_of_getElem? (i := 10) rfl), zdp_35, rfl, zmh_9, plainFor_of_name zpn_9, (fun h => nomatch h), (fun _ => ⟨zsub_3 (List.mem_of_getElem? (i := 78) rfl), Or.inr (zsub_3 (List.mem_of_getElem? (i := 79) rfl))⟩)⟩
noncomputable abbrev zmd_95 : zMd := (⟨"RaysOfShapes$Span", "lowest", "()LRaysOfShapes$Fraction;"⟩, prog_10_method_4_code, 1, some (.object "RaysOfShapes$Fraction"), false, 0, 9)
set_option maxRecDepth 100000 in
theorem zmo_95 : zmOK zmd_95 := ⟨zsub_3 (List.mem_of_getElem? (i := 172) rfl), zsub_1 (List.mem_of_getElem? (i := 10) rfl), zdp_40, rfl, zmh_9, plainFor_of_name zpn_9, (fun h => nomatch h), (fun _ => ⟨zsub_3 (List.mem_of_getElem? (i := 170) rfl), Or.inr (zsub_3 (List.mem_of_getElem? (i := 171) rfl))⟩)⟩
noncomputable abbrev zmd_96 : zMd := (⟨"RaysOfShapes$Span", "highest", "()LRaysOfShapes$Fraction;"⟩, prog_10_method_5_code, 1, some (.object "RaysOfShapes$Fraction"), false, 0, 9)
set_option maxRecDepth 100000 in
theorem zmo_96 : zmOK zmd_96 := ⟨zsub_3 (List.mem_of_getElem? (i := 160) rfl), zsub_1 (List.mem_of_getElem? (i := 10) rfl), zdp_40, rfl, zmh_9, plainFor_of_name zpn_9, (fun h => nomatch h), (fun _ => ⟨zsub_3 (List.mem_of_getElem? (i := 158) rfl), Or.inr (zsub_3 (List.mem_of_getElem? (i := 159) rfl))⟩)⟩
noncomputable abbrev zmd_97 : zMd := (⟨"RaysOfShapes$Span", "findFor", "(LRaysOfShapes$Table;I)V"⟩, prog_10_method_6_code, 3, none, false, 2, 9)
set_option maxRecDepth 100000 in
theorem zmo_97 : zmOK zmd_97 := ⟨zsub_3 (List.mem_of_getElem? (i := 84) rfl), zsub_1 (List.mem_of_getElem? (i := 10) rfl), zdp_41, rfl, zmh_9, plainFor_of_name zpn_9, (fun h => nomatch h), (fun _ => ⟨zsub_3 (List.mem_of_getElem? (i := 82) rfl), Or.inr (zsub_3 (List.mem_of_getElem? (i := 83) rfl))⟩)⟩
noncomputable abbrev zmd_98 : zMd := (⟨"RaysOfShapes$Span", "find", "(LRaysOfShapes$Table;III)V"⟩, prog_10_method_7_code, 5, none, false, 4, 9)
set_option maxRecDepth 100000 in
theorem zmo_98 : zmOK zmd_98 := ⟨zsub_3 (List.mem_of_getElem? (i := 88) rfl), zsub_1 (List.mem_of_getElem? (i := 10) rfl), zdp_22, rfl, zmh_9, plainFor_of_name zpn_9, (fun h => nomatch h), (fun _ => ⟨zsub_3 (List.mem_of_getElem? (i := 87) rfl), Or.inr (zsub_0 (List.mem_of_getElem? (i := 12) rfl))⟩)⟩
noncomputable abbrev zmd_99 : zMd := (⟨"RaysOfShapes$Span", "ofBall", "(LRaysOfShapes$Table;III)V"⟩, prog_10_method_8_code, 13, none, false, 4, 9)
set_option maxRecDepth 100000 in
theorem zmo_99 : zmOK zmd_99 := ⟨zsub_3 (List.mem_of_getElem? (i := 93) rfl), zsub_1 (List.mem_of_getElem? (i := 10) rfl), zdp_22, rfl, zmh_9, plainFor_of_name zpn_9, (fun h => nomatch h), (fun _ => ⟨zsub_3 (List.mem_of_getElem? (i := 92) rfl), Or.inr (zsub_0 (List.mem_of_getElem? (i := 13) rfl))⟩)⟩
noncomputable abbrev zmd_100 : zMd := (⟨"RaysOfShapes$Span", "ofBox", "(LRaysOfShapes$Table;III)V"⟩, prog_10_method_9_code, 12, none, false, 4, 9)
set_option maxRecDepth 100000 in
theorem zmo_100 : zmOK zmd_100 := ⟨zsub_3 (List.mem_of_getElem? (i := 103) rfl), zsub_1 (List.mem_of_getElem? (i := 10) rfl), zdp_22, rfl, zmh_9, plainFor_of_name zpn_9, (fun h => nomatch h), (fun _ => ⟨zsub_3 (List.mem_of_getElem? (i := 102) rfl), Or.inr (zsub_0 (List.mem_of_getElem? (i := 14) rfl))⟩)⟩
noncomputable abbrev zmd_101 : zMd := (⟨"RaysOfShapes$Span", "ofHalf", "(LRaysOfShapes$Table;III)V"⟩, prog_10_method_10_code, 12, none, false, 4, 9)
set_option maxRecDepth 100000 in
theorem zmo_101 : zmOK zmd_101 := ⟨zsub_3 (List.mem_of_getElem? (i := 108) rfl), zsub_1 (List.mem_of_getElem? (i := 10) rfl), zdp_22, rfl, zmh_9, plainFor_of_name zpn_9, (fun h => nomatch h), (fun _ => ⟨zsub_3 (List.mem_of_getElem? (i := 107) rfl), Or.inr (zsub_0 (List.mem_of_getElem? (i := 15) rfl))⟩)⟩
noncomputable abbrev zmd_102 : zMd := (⟨"RaysOfShapes$Span", "ofPair", "(LRaysOfShapes$Table;III)V"⟩, prog_10_method_11_code, 9, none, false, 4, 9)
set_option maxRecDepth 100000 in
theorem zmo_102 : zmOK zmd_102 := ⟨zsub_3 (List.mem_of_getElem? (i := 112) rfl), zsub_1 (List.mem_of_getElem? (i := 10) rfl), zdp_22, rfl, zmh_9, plainFor_of_name zpn_9, (fun h => nomatch h), (fun _ => ⟨zsub_3 (List.mem_of_getElem? (i := 111) rfl), Or.inr (zsub_0 (List.mem_of_getElem? (i := 16) rfl))⟩)⟩
noncomputable abbrev zmd_103 : zMd := (⟨"RaysOfShapes$Span", "ofChange", "(LRaysOfShapes$Table;III)V"⟩, prog_10_method_12_code, 6, none, false, 4, 9)
set_option maxRecDepth 100000 in
theorem zmo_103 : zmOK zmd_103 := ⟨zsub_3 (List.mem_of_getElem? (i := 123) rfl), zsub_1 (List.mem_of_getElem? (i := 10) rfl), zdp_22, rfl, zmh_9, plainFor_of_name zpn_9, (fun h => nomatch h), (fun _ => ⟨zsub_3 (List.mem_of_getElem? (i := 122) rfl), Or.inr (zsub_0 (List.mem_of_getElem? (i := 17) rfl))⟩)⟩
noncomputable abbrev zmd_104 : zMd := (⟨"RaysOfShapes$Span", "becomeAmounts", "(LRaysOfShapes$Fraction;LRaysOfShapes$Fraction;)V"⟩, prog_10_method_13_code, 3, none, true, 2, 9)
set_option maxRecDepth 100000 in
theorem zmo_104 : zmOK zmd_104 := ⟨zsub_3 (List.mem_of_getElem? (i := 144) rfl), zsub_1 (List.mem_of_getElem? (i := 10) rfl), zdp_42, rfl, zmh_9, plainFor_of_name zpn_9, (fun _ => zsub_3 (List.mem_of_getElem? (i := 143) rfl)), (fun h => nomatch h)⟩
noncomputable abbrev zmd_105 : zMd := (⟨"RaysOfShapes$Span", "move", "(LRaysOfShapes$Table;II)V"⟩, prog_10_method_14_code, 8, none, false, 3, 9)
set_option maxRecDepth 100000 in
theorem zmo_105 : zmOK zmd_105 := ⟨zsub_3 (List.mem_of_getElem? (i := 127) rfl), zsub_1 (List.mem_of_getElem? (i := 10) rfl), zdp_25, rfl, zmh_9, plainFor_of_name zpn_9, (fun h => nomatch h), (fun _ => ⟨zsub_3 (List.mem_of_getElem? (i := 126) rfl), Or.inr (zsub_0 (List.mem_of_getElem? (i := 18) rfl))⟩)⟩
noncomputable abbrev zmd_106 : zMd := (⟨"RaysOfShapes$Span", "repeat", "(II)V"⟩, prog_10_method_15_code, 6, none, false, 2, 9)
set_option maxRecDepth 100000 in
theorem zmo_106 : zmOK zmd_106 := ⟨zsub_3 (List.mem_of_getElem? (i := 132) rfl), zsub_1 (List.mem_of_getElem? (i := 10) rfl), zdp_13, rfl, zmh_9, plainFor_of_name zpn_9, (fun h => nomatch h), (fun _ => ⟨zsub_3 (List.mem_of_getElem? (i := 131) rfl), Or.inr (zsub_0 (List.mem_of_getElem? (i := 19) rfl))⟩)⟩
noncomputable abbrev zmd_107 : zMd := (⟨"RaysOfShapes$Span", "mirror", "(II)V"⟩, prog_10_method_16_code, 5, none, false, 2, 9)
set_option maxRecDepth 100000 in
theorem zmo_107 : zmOK zmd_107 := ⟨zsub_3 (List.mem_of_getElem? (i := 137) rfl), zsub_1 (List.mem_of_getElem? (i := 10) rfl), zdp_13, rfl, zmh_9, plainFor_of_name zpn_9, (fun h => nomatch h), (fun _ => ⟨zsub_3 (List.mem_of_getElem? (i := 136) rfl), Or.inr (zsub_0 (List.mem_of_getElem? (i := 20) rfl))⟩)⟩
noncomputable abbrev zmd_108 : zMd := (⟨"RaysOfShapes$Span", "turn", "(II)V"⟩, prog_10_method_17_code, 4, none, false, 2, 9)
set_option maxRecDepth 100000 in
theorem zmo_108 : zmOK zmd_108 := ⟨zsub_3 (List.mem_of_getElem? (i := 141) rfl), zsub_1 (List.mem_of_getElem? (i := 10) rfl), zdp_13, rfl, zmh_9, plainFor_of_name zpn_9, (fun h => nomatch h), (fun _ => ⟨zsub_3 (List.mem_of_getElem? (i := 140) rfl), Or.inr (zsub_0 (List.mem_of_getElem? (i := 21) rfl))⟩)⟩
noncomputable abbrev zmd_109 : zMd := (⟨"RaysOfShapes$Table", "<init>", "()V"⟩, prog_11_method_1_code, 1, none, false, 0, 10)
set_option maxRecDepth 100000 in
theorem zmo_109 : zmOK zmd_109 := ⟨zsub_1 (List.mem_of_getElem? (i := 33) rfl), zsub_1 (List.mem_of_getElem? (i := 2) rfl), zdp_0, rfl, zmh_10, plainFor_of_name zpn_10, (fun h => nomatch h), (fun _ => ⟨zsub_1 (List.mem_of_getElem? (i := 32) rfl), Or.inl rfl⟩)⟩
noncomputable abbrev zmd_110 : zMd := (⟨"RaysOfShapes$Table", "size", "()I"⟩, prog_11_method_2_code, 1, some .int, false, 0, 10)
set_option maxRecDepth 100000 in
theorem zmo_110 : zmOK zmd_110 := ⟨zsub_2 (List.mem_of_getElem? (i := 155) rfl), zsub_1 (List.mem_of_getElem? (i := 2) rfl), zdp_2, rfl, zmh_10, plainFor_of_name zpn_10, (fun h => nomatch h), (fun _ => ⟨zsub_2 (List.mem_of_getElem? (i := 153) rfl), Or.inr (zsub_2 (List.mem_of_getElem? (i := 154) rfl))⟩)⟩
noncomputable abbrev zmd_111 : zMd := (⟨"RaysOfShapes$Table", "resize", "(I)V"⟩, prog_11_method_3_code, 2, none, false, 1, 10)
set_option maxRecDepth 100000 in
theorem zmo_111 : zmOK zmd_111 := ⟨zsub_4 (List.mem_of_getElem? (i := 167) rfl), zsub_1 (List.mem_of_getElem? (i := 2) rfl), zdp_3, rfl, zmh_10, plainFor_of_name zpn_10, (fun h => nomatch h), (fun _ => ⟨zsub_4 (List.mem_of_getElem? (i := 165) rfl), Or.inr (zsub_4 (List.mem_of_getElem? (i := 166) rfl))⟩)⟩
noncomputable abbrev zmd_112 : zMd := (⟨"RaysOfShapes$Table", "kindOf", "(I)I"⟩, prog_11_method_4_code, 2, some .int, false, 1, 10)
set_option maxRecDepth 100000 in
theorem zmo_112 : zmOK zmd_112 := ⟨zsub_2 (List.mem_of_getElem? (i := 171) rfl), zsub_1 (List.mem_of_getElem? (i := 2) rfl), zdp_4, rfl, zmh_10, plainFor_of_name zpn_10, (fun h => nomatch h), (fun _ => ⟨zsub_2 (List.mem_of_getElem? (i := 169) rfl), Or.inr (zsub_2 (List.mem_of_getElem? (i := 170) rfl))⟩)⟩
noncomputable abbrev zmd_113 : zMd := (⟨"RaysOfShapes$Table", "firstOf", "(I)I"⟩, prog_11_method_5_code, 2, some .int, false, 1, 10)
set_option maxRecDepth 100000 in
theorem zmo_113 : zmOK zmd_113 := ⟨zsub_2 (List.mem_of_getElem? (i := 180) rfl), zsub_1 (List.mem_of_getElem? (i := 2) rfl), zdp_4, rfl, zmh_10, plainFor_of_name zpn_10, (fun h => nomatch h), (fun _ => ⟨zsub_2 (List.mem_of_getElem? (i := 178) rfl), Or.inr (zsub_2 (List.mem_of_getElem? (i := 179) rfl))⟩)⟩
noncomputable abbrev zmd_114 : zMd := (⟨"RaysOfShapes$Table", "secondOf", "(I)I"⟩, prog_11_method_6_code, 2, some .int, false, 1, 10)
set_option maxRecDepth 100000 in
theorem zmo_114 : zmOK zmd_114 := ⟨zsub_2 (List.mem_of_getElem? (i := 184) rfl), zsub_1 (List.mem_of_getElem? (i := 2) rfl), zdp_4, rfl, zmh_10, plainFor_of_name zpn_10, (fun h => nomatch h), (fun _ => ⟨zsub_2 (List.mem_of_getElem? (i := 182) rfl), Or.inr (zsub_2 (List.mem_of_getElem? (i := 183) rfl))⟩)⟩
noncomputable abbrev zmd_115 : zMd := (⟨"RaysOfShapes$Table", "deepOf", "(I)I"⟩, prog_11_method_7_code, 2, some .int, false, 1, 10)
set_option maxRecDepth 100000 in
theorem zmo_115 : zmOK zmd_115 := ⟨zsub_2 (List.mem_of_getElem? (i := 188) rfl), zsub_1 (List.mem_of_getElem? (i := 2) rfl), zdp_4, rfl, zmh_10, plainFor_of_name zpn_10, (fun h => nomatch h), (fun _ => ⟨zsub_2 (List.mem_of_getElem? (i := 186) rfl), Or.inr (zsub_2 (List.mem_of_getElem? (i := 187) rfl))⟩)⟩
noncomputable abbrev zmd_116 : zMd := (⟨"RaysOfShapes$Table", "solidsOf", "(I)I"⟩, prog_11_method_8_code, 2, some .int, false, 1, 10)
set_option maxRecDepth 100000 in
theorem zmo_116 : zmOK zmd_116 := ⟨zsub_4 (List.mem_of_getElem? (i := 131) rfl), zsub_1 (List.mem_of_getElem? (i := 2) rfl), zdp_4, rfl, zmh_10, plainFor_of_name zpn_10, (fun h => nomatch h), (fun _ => ⟨zsub_4 (List.mem_of_getElem? (i := 129) rfl), Or.inr (zsub_4 (List.mem_of_getElem? (i := 130) rfl))⟩)⟩
noncomputable abbrev zmd_117 : zMd := (⟨"RaysOfShapes$Table", "blendsOf", "(I)I"⟩, prog_11_method_9_code, 2, some .int, false, 1, 10)
set_option maxRecDepth 100000 in
theorem zmo_117 : zmOK zmd_117 := ⟨zsub_4 (List.mem_of_getElem? (i := 127) rfl), zsub_1 (List.mem_of_getElem? (i := 2) rfl), zdp_4, rfl, zmh_10, plainFor_of_name zpn_10, (fun h => nomatch h), (fun _ => ⟨zsub_4 (List.mem_of_getElem? (i := 126) rfl), Or.inr (zsub_0 (List.mem_of_getElem? (i := 34) rfl))⟩)⟩
noncomputable abbrev zmd_118 : zMd := (⟨"RaysOfShapes$Table", "numberOf", "(II)I"⟩, prog_11_method_10_code, 3, some .int, false, 2, 10)
set_option maxRecDepth 100000 in
theorem zmo_118 : zmOK zmd_118 := ⟨zsub_2 (List.mem_of_getElem? (i := 231) rfl), zsub_1 (List.mem_of_getElem? (i := 2) rfl), zdp_30, rfl, zmh_10, plainFor_of_name zpn_10, (fun h => nomatch h), (fun _ => ⟨zsub_2 (List.mem_of_getElem? (i := 229) rfl), Or.inr (zsub_2 (List.mem_of_getElem? (i := 230) rfl))⟩)⟩
noncomputable abbrev zmd_119 : zMd := (⟨"RaysOfShapes$Table", "isTooDeep", "(III)Z"⟩, prog_11_method_11_code, 4, some .boolean, false, 3, 10)
set_option maxRecDepth 100000 in
theorem zmo_119 : zmOK zmd_119 := ⟨zsub_4 (List.mem_of_getElem? (i := 145) rfl), zsub_1 (List.mem_of_getElem? (i := 2) rfl), zdp_43, rfl, zmh_10, plainFor_of_name zpn_10, (fun h => nomatch h), (fun _ => ⟨zsub_4 (List.mem_of_getElem? (i := 143) rfl), Or.inr (zsub_4 (List.mem_of_getElem? (i := 144) rfl))⟩)⟩
noncomputable abbrev zmd_120 : zMd := (⟨"RaysOfShapes$Table", "deepOver", "(III)I"⟩, prog_11_method_12_code, 4, some .int, false, 3, 10)
set_option maxRecDepth 100000 in
theorem zmo_120 : zmOK zmd_120 := ⟨zsub_4 (List.mem_of_getElem? (i := 116) rfl), zsub_1 (List.mem_of_getElem? (i := 2) rfl), zdp_44, rfl, zmh_10, plainFor_of_name zpn_10, (fun h => nomatch h), (fun _ => ⟨zsub_4 (List.mem_of_getElem? (i := 115) rfl), Or.inr (zsub_0 (List.mem_of_getElem? (i := 32) rfl))⟩)⟩
noncomputable abbrev zmd_121 : zMd := (⟨"RaysOfShapes$Table", "blendsOver", "(III)I"⟩, prog_11_method_13_code, 4, some .int, false, 3, 10)
set_option maxRecDepth 100000 in
theorem zmo_121 : zmOK zmd_121 := ⟨zsub_4 (List.mem_of_getElem? (i := 123) rfl), zsub_1 (List.mem_of_getElem? (i := 2) rfl), zdp_44, rfl, zmh_10, plainFor_of_name zpn_10, (fun h => nomatch h), (fun _ => ⟨zsub_4 (List.mem_of_getElem? (i := 122) rfl), Or.inr (zsub_0 (List.mem_of_getElem? (i := 33) rfl))⟩)⟩
noncomputable abbrev zmd_122 : zMd := (⟨"RaysOfShapes$Table", "write", "(IIII[I)V"⟩, prog_11_method_14_code, 7, none, false, 5, 10)
set_option maxRecDepth 100000 in
theorem zmo_122 : zmOK zmd_122 := ⟨zsub_4 (List.mem_of_getElem? (i := 112) rfl), zsub_1 (List.mem_of_getElem? (i := 2) rfl), zdp_45, rfl, zmh_10, plainFor_of_name zpn_10, (fun h => nomatch h), (fun _ => ⟨zsub_4 (List.mem_of_getElem? (i := 110) rfl), Or.inr (zsub_4 (List.mem_of_getElem? (i := 111) rfl))⟩)⟩
noncomputable abbrev zmd_123 : zMd := (⟨"RaysOfShapes$Table", "takeFrom", "(LRaysOfShapes$Table;)V"⟩, prog_11_method_15_code, 2, none, false, 1, 10)
set_option maxRecDepth 100000 in
theorem zmo_123 : zmOK zmd_123 := ⟨zsub_6 (List.mem_of_getElem? (i := 26) rfl), zsub_1 (List.mem_of_getElem? (i := 2) rfl), zdp_46, rfl, zmh_10, plainFor_of_name zpn_10, (fun h => nomatch h), (fun _ => ⟨zsub_6 (List.mem_of_getElem? (i := 24) rfl), Or.inr (zsub_6 (List.mem_of_getElem? (i := 25) rfl))⟩)⟩
noncomputable abbrev zmd_124 : zMd := (⟨"RaysOfShapes$Walker", "<init>", "()V"⟩, prog_12_method_1_code, 1, none, false, 0, 11)
set_option maxRecDepth 100000 in
theorem zmo_124 : zmOK zmd_124 := ⟨zsub_1 (List.mem_of_getElem? (i := 227) rfl), zsub_1 (List.mem_of_getElem? (i := 11) rfl), zdp_0, rfl, zmh_11, plainFor_of_name zpn_11, (fun h => nomatch h), (fun _ => ⟨zsub_1 (List.mem_of_getElem? (i := 226) rfl), Or.inl rfl⟩)⟩
noncomputable abbrev zmd_125 : zMd := (⟨"RaysOfShapes$Walker", "stepsTillIn", "()I"⟩, prog_12_method_2_code, 1, some .int, false, 0, 11)
set_option maxRecDepth 100000 in
theorem zmo_125 : zmOK zmd_125 := ⟨zsub_5 (List.mem_of_getElem? (i := 79) rfl), zsub_1 (List.mem_of_getElem? (i := 11) rfl), zdp_2, rfl, zmh_11, plainFor_of_name zpn_11, (fun h => nomatch h), (fun _ => ⟨zsub_5 (List.mem_of_getElem? (i := 77) rfl), Or.inr (zsub_5 (List.mem_of_getElem? (i := 78) rfl))⟩)⟩
noncomputable abbrev zmd_126 : zMd := (⟨"RaysOfShapes$Walker", "placesIn", "()I"⟩, prog_12_method_3_code, 1, some .int, false, 0, 11)
set_option maxRecDepth 100000 in
theorem zmo_126 : zmOK zmd_126 := ⟨zsub_5 (List.mem_of_getElem? (i := 83) rfl), zsub_1 (List.mem_of_getElem? (i := 11) rfl), zdp_2, rfl, zmh_11, plainFor_of_name zpn_11, (fun h => nomatch h), (fun _ => ⟨zsub_5 (List.mem_of_getElem? (i := 81) rfl), Or.inr (zsub_5 (List.mem_of_getElem? (i := 82) rfl))⟩)⟩
noncomputable abbrev zmd_127 : zMd := (⟨"RaysOfShapes$Walker", "timesOver", "()I"⟩, prog_12_method_4_code, 1, some .int, false, 0, 11)
set_option maxRecDepth 100000 in
theorem zmo_127 : zmOK zmd_127 := ⟨zsub_5 (List.mem_of_getElem? (i := 87) rfl), zsub_1 (List.mem_of_getElem? (i := 11) rfl), zdp_2, rfl, zmh_11, plainFor_of_name zpn_11, (fun h => nomatch h), (fun _ => ⟨zsub_5 (List.mem_of_getElem? (i := 85) rfl), Or.inr (zsub_5 (List.mem_of_getElem? (i := 86) rfl))⟩)⟩
noncomputable abbrev zmd_128 : zMd := (⟨"RaysOfShapes$Walker", "parts", "()I"⟩, prog_12_method_5_code, 1, some .int, false, 0, 11)
set_option maxRecDepth 100000 in
theorem zmo_128 : zmOK zmd_128 := ⟨zsub_5 (List.mem_of_getElem? (i := 119) rfl), zsub_1 (List.mem_of_getElem? (i := 11) rfl), zdp_2, rfl, zmh_11, plainFor_of_name zpn_11, (fun h => nomatch h), (fun _ => ⟨zsub_5 (List.mem_of_getElem? (i := 117) rfl), Or.inr (zsub_5 (List.mem_of_getElem? (i := 118) rfl))⟩)⟩
noncomputable abbrev zmd_129 : zMd := (⟨"RaysOfShapes$Walker", "greatest", "()I"⟩, prog_12_method_6_code, 1, some .int, false, 0, 11)
set_option maxRecDepth 100000 in
theorem zmo_129 : zmOK zmd_129 := ⟨zsub_5 (List.mem_of_getElem? (i := 123) rfl), zsub_1 (List.mem_of_getElem? (i := 11) rfl), zdp_2, rfl, zmh_11, plainFor_of_name zpn_11, (fun h => nomatch h), (fun _ => ⟨zsub_5 (List.mem_of_getElem? (i := 121) rfl), Or.inr (zsub_5 (List.mem_of_getElem? (i := 122) rfl))⟩)⟩
noncomputable abbrev zmd_130 : zMd := (⟨"RaysOfShapes$Walker", "leastOfGreatest", "()I"⟩, prog_12_method_7_code, 1, some .int, false, 0, 11)
set_option maxRecDepth 100000 in
theorem zmo_130 : zmOK zmd_130 := ⟨zsub_5 (List.mem_of_getElem? (i := 127) rfl), zsub_1 (List.mem_of_getElem? (i := 11) rfl), zdp_2, rfl, zmh_11, plainFor_of_name zpn_11, (fun h => nomatch h), (fun _ => ⟨zsub_5 (List.mem_of_getElem? (i := 125) rfl), Or.inr (zsub_5 (List.mem_of_getElem? (i := 126) rfl))⟩)⟩
noncomputable abbrev zmd_131 : zMd := (⟨"RaysOfShapes$Walker", "walk", "(LRaysOfShapes$Places;IIII)V"⟩, prog_12_method_8_code, 10, none, false, 5, 11)
set_option maxRecDepth 100000 in
theorem zmo_131 : zmOK zmd_131 := ⟨zsub_5 (List.mem_of_getElem? (i := 71) rfl), zsub_1 (List.mem_of_getElem? (i := 11) rfl), zdp_47, rfl, zmh_11, plainFor_of_name zpn_11, (fun h => nomatch h), (fun _ => ⟨zsub_5 (List.mem_of_getElem? (i := 69) rfl), Or.inr (zsub_5 (List.mem_of_getElem? (i := 70) rfl))⟩)⟩
noncomputable abbrev zmd_132 : zMd := (⟨"RaysOfShapes$Walker", "skinOf", "(LRaysOfShapes$Places;)I"⟩, prog_12_method_9_code, 4, some .int, false, 1, 11)
set_option maxRecDepth 100000 in
theorem zmo_132 : zmOK zmd_132 := ⟨zsub_5 (List.mem_of_getElem? (i := 95) rfl), zsub_1 (List.mem_of_getElem? (i := 11) rfl), zdp_29, rfl, zmh_11, plainFor_of_name zpn_11, (fun h => nomatch h), (fun _ => ⟨zsub_5 (List.mem_of_getElem? (i := 93) rfl), Or.inr (zsub_5 (List.mem_of_getElem? (i := 94) rfl))⟩)⟩
noncomputable abbrev zmd_133 : zMd := (⟨"RaysOfShapes$Walker", "isBare", "(LRaysOfShapes$Places;I)Z"⟩, prog_12_method_10_code, 3, some .boolean, true, 2, 11)
set_option maxRecDepth 100000 in
theorem zmo_133 : zmOK zmd_133 := ⟨zsub_5 (List.mem_of_getElem? (i := 98) rfl), zsub_1 (List.mem_of_getElem? (i := 11) rfl), zdp_48, rfl, zmh_11, plainFor_of_name zpn_11, (fun _ => zsub_5 (List.mem_of_getElem? (i := 97) rfl)), (fun h => nomatch h)⟩
noncomputable abbrev zmd_134 : zMd := (⟨"RaysOfShapes$Walker", "neighbour", "(II)I"⟩, prog_12_method_11_code, 2, some .int, true, 2, 11)
set_option maxRecDepth 100000 in
theorem zmo_134 : zmOK zmd_134 := ⟨zsub_5 (List.mem_of_getElem? (i := 101) rfl), zsub_1 (List.mem_of_getElem? (i := 11) rfl), zdp_30, rfl, zmh_11, plainFor_of_name zpn_11, (fun _ => zsub_5 (List.mem_of_getElem? (i := 100) rfl)), (fun h => nomatch h)⟩
noncomputable abbrev zmd_135 : zMd := (⟨"RaysOfShapes$Walker", "part", "(LRaysOfShapes$Places;)V"⟩, prog_12_method_12_code, 4, none, false, 1, 11)
set_option maxRecDepth 100000 in
theorem zmo_135 : zmOK zmd_135 := ⟨zsub_5 (List.mem_of_getElem? (i := 109) rfl), zsub_1 (List.mem_of_getElem? (i := 11) rfl), zdp_27, rfl, zmh_11, plainFor_of_name zpn_11, (fun h => nomatch h), (fun _ => ⟨zsub_5 (List.mem_of_getElem? (i := 107) rfl), Or.inr (zsub_5 (List.mem_of_getElem? (i := 108) rfl))⟩)⟩
noncomputable abbrev zmd_136 : zMd := (⟨"RaysOfShapes$Walker", "sizeOfPiece", "(LRaysOfShapes$Places;I)I"⟩, prog_12_method_13_code, 7, some .int, false, 2, 11)
set_option maxRecDepth 100000 in
theorem zmo_136 : zmOK zmd_136 := ⟨zsub_5 (List.mem_of_getElem? (i := 114) rfl), zsub_1 (List.mem_of_getElem? (i := 11) rfl), zdp_5, rfl, zmh_11, plainFor_of_name zpn_11, (fun h => nomatch h), (fun _ => ⟨zsub_5 (List.mem_of_getElem? (i := 113) rfl), Or.inr (zsub_0 (List.mem_of_getElem? (i := 41) rfl))⟩)⟩
noncomputable abbrev zmd_137 : zMd := (⟨"RaysOfShapes", "<init>", "()V"⟩, prog_1_method_1_code, 1, none, false, 0, 12)
set_option maxRecDepth 100000 in
theorem zmo_137 : zmOK zmd_137 := ⟨zsub_1 (List.mem_of_getElem? (i := 25) rfl), zsub_1 (List.mem_of_getElem? (i := 1) rfl), zdp_0, rfl, zmh_12, plainFor_of_name zpn_12, (fun h => nomatch h), (fun _ => ⟨zsub_1 (List.mem_of_getElem? (i := 24) rfl), Or.inl rfl⟩)⟩
noncomputable abbrev zmd_138 : zMd := (⟨"RaysOfShapes", "row", "(III)I"⟩, prog_1_method_2_code, 4, some .int, false, 3, 12)
set_option maxRecDepth 100000 in
theorem zmo_138 : zmOK zmd_138 := ⟨zsub_2 (List.mem_of_getElem? (i := 74) rfl), zsub_1 (List.mem_of_getElem? (i := 1) rfl), zdp_44, rfl, zmh_12, plainFor_of_name zpn_12, (fun h => nomatch h), (fun _ => ⟨zsub_2 (List.mem_of_getElem? (i := 72) rfl), Or.inr (zsub_2 (List.mem_of_getElem? (i := 73) rfl))⟩)⟩
noncomputable abbrev zmd_139 : zMd := (⟨"RaysOfShapes", "set", "(IIJ)I"⟩, prog_1_method_3_code, 6, some .int, false, 3, 12)
set_option maxRecDepth 100000 in
theorem zmo_139 : zmOK zmd_139 := ⟨zsub_2 (List.mem_of_getElem? (i := 93) rfl), zsub_1 (List.mem_of_getElem? (i := 1) rfl), zdp_49, rfl, zmh_12, plainFor_of_name zpn_12, (fun h => nomatch h), (fun _ => ⟨zsub_2 (List.mem_of_getElem? (i := 91) rfl), Or.inr (zsub_2 (List.mem_of_getElem? (i := 92) rfl))⟩)⟩
noncomputable abbrev zmd_140 : zMd := (⟨"RaysOfShapes", "copy", "(IIIII)I"⟩, prog_1_method_4_code, 8, some .int, false, 5, 12)
set_option maxRecDepth 100000 in
theorem zmo_140 : zmOK zmd_140 := ⟨zsub_2 (List.mem_of_getElem? (i := 121) rfl), zsub_1 (List.mem_of_getElem? (i := 1) rfl), zdp_50, rfl, zmh_12, plainFor_of_name zpn_12, (fun h => nomatch h), (fun _ => ⟨zsub_2 (List.mem_of_getElem? (i := 119) rfl), Or.inr (zsub_2 (List.mem_of_getElem? (i := 120) rfl))⟩)⟩
noncomputable abbrev zmd_141 : zMd := (⟨"RaysOfShapes", "element", "(II)J"⟩, prog_1_method_5_code, 3, some .long, false, 2, 12)
set_option maxRecDepth 100000 in
theorem zmo_141 : zmOK zmd_141 := ⟨zsub_2 (List.mem_of_getElem? (i := 135) rfl), zsub_1 (List.mem_of_getElem? (i := 1) rfl), zdp_36, rfl, zmh_12, plainFor_of_name zpn_12, (fun h => nomatch h), (fun _ => ⟨zsub_2 (List.mem_of_getElem? (i := 133) rfl), Or.inr (zsub_2 (List.mem_of_getElem? (i := 134) rfl))⟩)⟩
noncomputable abbrev zmd_142 : zMd := (⟨"RaysOfShapes", "holds", "(I)I"⟩, prog_1_method_6_code, 2, some .int, false, 1, 12)
set_option maxRecDepth 100000 in
theorem zmo_142 : zmOK zmd_142 := ⟨zsub_2 (List.mem_of_getElem? (i := 143) rfl), zsub_1 (List.mem_of_getElem? (i := 1) rfl), zdp_4, rfl, zmh_12, plainFor_of_name zpn_12, (fun h => nomatch h), (fun _ => ⟨zsub_2 (List.mem_of_getElem? (i := 141) rfl), Or.inr (zsub_2 (List.mem_of_getElem? (i := 142) rfl))⟩)⟩
noncomputable abbrev zmd_143 : zMd := (⟨"RaysOfShapes", "show", "(II)I"⟩, prog_1_method_7_code, 3, some .int, false, 2, 12)
set_option maxRecDepth 100000 in
theorem zmo_143 : zmOK zmd_143 := ⟨zsub_2 (List.mem_of_getElem? (i := 147) rfl), zsub_1 (List.mem_of_getElem? (i := 1) rfl), zdp_30, rfl, zmh_12, plainFor_of_name zpn_12, (fun h => nomatch h), (fun _ => ⟨zsub_2 (List.mem_of_getElem? (i := 145) rfl), Or.inr (zsub_2 (List.mem_of_getElem? (i := 146) rfl))⟩)⟩
noncomputable abbrev zmd_144 : zMd := (⟨"RaysOfShapes", "says", "(II)I"⟩, prog_1_method_8_code, 7, some .int, false, 2, 12)
set_option maxRecDepth 100000 in
theorem zmo_144 : zmOK zmd_144 := ⟨zsub_2 (List.mem_of_getElem? (i := 163) rfl), zsub_1 (List.mem_of_getElem? (i := 1) rfl), zdp_30, rfl, zmh_12, plainFor_of_name zpn_12, (fun h => nomatch h), (fun _ => ⟨zsub_2 (List.mem_of_getElem? (i := 161) rfl), Or.inr (zsub_2 (List.mem_of_getElem? (i := 162) rfl))⟩)⟩
noncomputable abbrev zmd_145 : zMd := (⟨"RaysOfShapes", "saysRefusal", "(II)I"⟩, prog_1_method_9_code, 5, some .int, false, 2, 12)
set_option maxRecDepth 100000 in
theorem zmo_145 : zmOK zmd_145 := ⟨zsub_2 (List.mem_of_getElem? (i := 167) rfl), zsub_1 (List.mem_of_getElem? (i := 1) rfl), zdp_30, rfl, zmh_12, plainFor_of_name zpn_12, (fun h => nomatch h), (fun _ => ⟨zsub_2 (List.mem_of_getElem? (i := 166) rfl), Or.inr (zsub_0 (List.mem_of_getElem? (i := 4) rfl))⟩)⟩
noncomputable abbrev zmd_146 : zMd := (⟨"RaysOfShapes", "saidOfNumbers", "(II)I"⟩, prog_1_method_10_code, 7, some .int, false, 2, 12)
set_option maxRecDepth 100000 in
theorem zmo_146 : zmOK zmd_146 := ⟨zsub_3 (List.mem_of_getElem? (i := 199) rfl), zsub_1 (List.mem_of_getElem? (i := 1) rfl), zdp_30, rfl, zmh_12, plainFor_of_name zpn_12, (fun h => nomatch h), (fun _ => ⟨zsub_3 (List.mem_of_getElem? (i := 198) rfl), Or.inr (zsub_0 (List.mem_of_getElem? (i := 23) rfl))⟩)⟩
noncomputable abbrev zmd_147 : zMd := (⟨"RaysOfShapes", "feed", "(I)I"⟩, prog_1_method_11_code, 2, some .int, false, 1, 12)
set_option maxRecDepth 100000 in
theorem zmo_147 : zmOK zmd_147 := ⟨zsub_3 (List.mem_of_getElem? (i := 204) rfl), zsub_1 (List.mem_of_getElem? (i := 1) rfl), zdp_4, rfl, zmh_12, plainFor_of_name zpn_12, (fun h => nomatch h), (fun _ => ⟨zsub_3 (List.mem_of_getElem? (i := 202) rfl), Or.inr (zsub_3 (List.mem_of_getElem? (i := 203) rfl))⟩)⟩
noncomputable abbrev zmd_148 : zMd := (⟨"RaysOfShapes", "wipe", "()I"⟩, prog_1_method_12_code, 2, some .int, false, 0, 12)
set_option maxRecDepth 100000 in
theorem zmo_148 : zmOK zmd_148 := ⟨zsub_3 (List.mem_of_getElem? (i := 220) rfl), zsub_1 (List.mem_of_getElem? (i := 1) rfl), zdp_2, rfl, zmh_12, plainFor_of_name zpn_12, (fun h => nomatch h), (fun _ => ⟨zsub_3 (List.mem_of_getElem? (i := 218) rfl), Or.inr (zsub_3 (List.mem_of_getElem? (i := 219) rfl))⟩)⟩
noncomputable abbrev zmd_149 : zMd := (⟨"RaysOfShapes", "shape", "()I"⟩, prog_1_method_13_code, 3, some .int, false, 0, 12)
set_option maxRecDepth 100000 in
theorem zmo_149 : zmOK zmd_149 := ⟨zsub_3 (List.mem_of_getElem? (i := 228) rfl), zsub_1 (List.mem_of_getElem? (i := 1) rfl), zdp_2, rfl, zmh_12, plainFor_of_name zpn_12, (fun h => nomatch h), (fun _ => ⟨zsub_3 (List.mem_of_getElem? (i := 226) rfl), Or.inr (zsub_3 (List.mem_of_getElem? (i := 227) rfl))⟩)⟩
noncomputable abbrev zmd_150 : zMd := (⟨"RaysOfShapes", "ball", "(IIII)I"⟩, prog_1_method_14_code, 5, some .int, false, 4, 12)
set_option maxRecDepth 100000 in
theorem zmo_150 : zmOK zmd_150 := ⟨zsub_4 (List.mem_of_getElem? (i := 172) rfl), zsub_1 (List.mem_of_getElem? (i := 1) rfl), zdp_51, rfl, zmh_12, plainFor_of_name zpn_12, (fun h => nomatch h), (fun _ => ⟨zsub_4 (List.mem_of_getElem? (i := 170) rfl), Or.inr (zsub_4 (List.mem_of_getElem? (i := 171) rfl))⟩)⟩
noncomputable abbrev zmd_151 : zMd := (⟨"RaysOfShapes", "box", "(IIIIII)I"⟩, prog_1_method_15_code, 7, some .int, false, 6, 12)
set_option maxRecDepth 100000 in
theorem zmo_151 : zmOK zmd_151 := ⟨zsub_4 (List.mem_of_getElem? (i := 192) rfl), zsub_1 (List.mem_of_getElem? (i := 1) rfl), zdp_52, rfl, zmh_12, plainFor_of_name zpn_12, (fun h => nomatch h), (fun _ => ⟨zsub_4 (List.mem_of_getElem? (i := 190) rfl), Or.inr (zsub_4 (List.mem_of_getElem? (i := 191) rfl))⟩)⟩
noncomputable abbrev zmd_152 : zMd := (⟨"RaysOfShapes", "half", "(IIII)I"⟩, prog_1_method_16_code, 5, some .int, false, 4, 12)
set_option maxRecDepth 100000 in
theorem zmo_152 : zmOK zmd_152 := ⟨zsub_4 (List.mem_of_getElem? (i := 196) rfl), zsub_1 (List.mem_of_getElem? (i := 1) rfl), zdp_51, rfl, zmh_12, plainFor_of_name zpn_12, (fun h => nomatch h), (fun _ => ⟨zsub_4 (List.mem_of_getElem? (i := 194) rfl), Or.inr (zsub_4 (List.mem_of_getElem? (i := 195) rfl))⟩)⟩
noncomputable abbrev zmd_153 : zMd := (⟨"RaysOfShapes", "pair", "(III)I"⟩, prog_1_method_17_code, 4, some .int, false, 3, 12)
set_option maxRecDepth 100000 in
theorem zmo_153 : zmOK zmd_153 := ⟨zsub_4 (List.mem_of_getElem? (i := 200) rfl), zsub_1 (List.mem_of_getElem? (i := 1) rfl), zdp_44, rfl, zmh_12, plainFor_of_name zpn_12, (fun h => nomatch h), (fun _ => ⟨zsub_4 (List.mem_of_getElem? (i := 198) rfl), Or.inr (zsub_4 (List.mem_of_getElem? (i := 199) rfl))⟩)⟩
noncomputable abbrev zmd_154 : zMd := (⟨"RaysOfShapes", "blend", "(IIII)I"⟩, prog_1_method_18_code, 5, some .int, false, 4, 12)
set_option maxRecDepth 100000 in
theorem zmo_154 : zmOK zmd_154 := ⟨zsub_4 (List.mem_of_getElem? (i := 204) rfl), zsub_1 (List.mem_of_getElem? (i := 1) rfl), zdp_51, rfl, zmh_12, plainFor_of_name zpn_12, (fun h => nomatch h), (fun _ => ⟨zsub_4 (List.mem_of_getElem? (i := 202) rfl), Or.inr (zsub_4 (List.mem_of_getElem? (i := 203) rfl))⟩)⟩
noncomputable abbrev zmd_155 : zMd := (⟨"RaysOfShapes", "shift", "(IIII)I"⟩, prog_1_method_19_code, 5, some .int, false, 4, 12)
set_option maxRecDepth 100000 in
theorem zmo_155 : zmOK zmd_155 := ⟨zsub_4 (List.mem_of_getElem? (i := 208) rfl), zsub_1 (List.mem_of_getElem? (i := 1) rfl), zdp_51, rfl, zmh_12, plainFor_of_name zpn_12, (fun h => nomatch h), (fun _ => ⟨zsub_4 (List.mem_of_getElem? (i := 206) rfl), Or.inr (zsub_4 (List.mem_of_getElem? (i := 207) rfl))⟩)⟩
noncomputable abbrev zmd_156 : zMd := (⟨"RaysOfShapes", "change", "(IIII)I"⟩, prog_1_method_20_code, 5, some .int, false, 4, 12)
set_option maxRecDepth 100000 in
theorem zmo_156 : zmOK zmd_156 := ⟨zsub_4 (List.mem_of_getElem? (i := 212) rfl), zsub_1 (List.mem_of_getElem? (i := 1) rfl), zdp_51, rfl, zmh_12, plainFor_of_name zpn_12, (fun h => nomatch h), (fun _ => ⟨zsub_4 (List.mem_of_getElem? (i := 210) rfl), Or.inr (zsub_4 (List.mem_of_getElem? (i := 211) rfl))⟩)⟩
noncomputable abbrev zmd_157 : zMd := (⟨"RaysOfShapes", "grown", "(IIII)I"⟩, prog_1_method_21_code, 5, some .int, false, 4, 12)
set_option maxRecDepth 100000 in
theorem zmo_157 : zmOK zmd_157 := ⟨zsub_4 (List.mem_of_getElem? (i := 216) rfl), zsub_1 (List.mem_of_getElem? (i := 1) rfl), zdp_51, rfl, zmh_12, plainFor_of_name zpn_12, (fun h => nomatch h), (fun _ => ⟨zsub_4 (List.mem_of_getElem? (i := 214) rfl), Or.inr (zsub_4 (List.mem_of_getElem? (i := 215) rfl))⟩)⟩
noncomputable abbrev zmd_158 : zMd := (⟨"RaysOfShapes", "putNumbers", "(III)V"⟩, prog_1_method_22_code, 4, none, false, 3, 12)
set_option maxRecDepth 100000 in
theorem zmo_158 : zmOK zmd_158 := ⟨zsub_4 (List.mem_of_getElem? (i := 176) rfl), zsub_1 (List.mem_of_getElem? (i := 1) rfl), zdp_35, rfl, zmh_12, plainFor_of_name zpn_12, (fun h => nomatch h), (fun _ => ⟨zsub_4 (List.mem_of_getElem? (i := 175) rfl), Or.inr (zsub_0 (List.mem_of_getElem? (i := 39) rfl))⟩)⟩
noncomputable abbrev zmd_159 : zMd := (⟨"RaysOfShapes", "built", "(III)I"⟩, prog_1_method_23_code, 4, some .int, false, 3, 12)
set_option maxRecDepth 100000 in
theorem zmo_159 : zmOK zmd_159 := ⟨zsub_4 (List.mem_of_getElem? (i := 180) rfl), zsub_1 (List.mem_of_getElem? (i := 1) rfl), zdp_44, rfl, zmh_12, plainFor_of_name zpn_12, (fun h => nomatch h), (fun _ => ⟨zsub_4 (List.mem_of_getElem? (i := 179) rfl), Or.inr (zsub_0 (List.mem_of_getElem? (i := 40) rfl))⟩)⟩
noncomputable abbrev zmd_160 : zMd := (⟨"RaysOfShapes", "added", "(I)I"⟩, prog_1_method_24_code, 2, some .int, false, 1, 12)
set_option maxRecDepth 100000 in
theorem zmo_160 : zmOK zmd_160 := ⟨zsub_4 (List.mem_of_getElem? (i := 158) rfl), zsub_1 (List.mem_of_getElem? (i := 1) rfl), zdp_4, rfl, zmh_12, plainFor_of_name zpn_12, (fun h => nomatch h), (fun _ => ⟨zsub_4 (List.mem_of_getElem? (i := 157) rfl), Or.inr (zsub_0 (List.mem_of_getElem? (i := 38) rfl))⟩)⟩
noncomputable abbrev zmd_161 : zMd := (⟨"RaysOfShapes", "drop", "()I"⟩, prog_1_method_25_code, 1, some .int, false, 0, 12)
set_option maxRecDepth 100000 in
theorem zmo_161 : zmOK zmd_161 := ⟨zsub_4 (List.mem_of_getElem? (i := 220) rfl), zsub_1 (List.mem_of_getElem? (i := 1) rfl), zdp_2, rfl, zmh_12, plainFor_of_name zpn_12, (fun h => nomatch h), (fun _ => ⟨zsub_4 (List.mem_of_getElem? (i := 218) rfl), Or.inr (zsub_4 (List.mem_of_getElem? (i := 219) rfl))⟩)⟩
noncomputable abbrev zmd_162 : zMd := (⟨"RaysOfShapes", "shapeOf", "(II)I"⟩, prog_1_method_26_code, 3, some .int, false, 2, 12)
set_option maxRecDepth 100000 in
theorem zmo_162 : zmOK zmd_162 := ⟨zsub_4 (List.mem_of_getElem? (i := 229) rfl), zsub_1 (List.mem_of_getElem? (i := 1) rfl), zdp_30, rfl, zmh_12, plainFor_of_name zpn_12, (fun h => nomatch h), (fun _ => ⟨zsub_4 (List.mem_of_getElem? (i := 227) rfl), Or.inr (zsub_4 (List.mem_of_getElem? (i := 228) rfl))⟩)⟩
noncomputable abbrev zmd_163 : zMd := (⟨"RaysOfShapes", "worth", "(IIIII)J"⟩, prog_1_method_27_code, 7, some .long, false, 5, 12)
set_option maxRecDepth 100000 in
theorem zmo_163 : zmOK zmd_163 := ⟨zsub_4 (List.mem_of_getElem? (i := 234) rfl), zsub_1 (List.mem_of_getElem? (i := 1) rfl), zdp_53, rfl, zmh_12, plainFor_of_name zpn_12, (fun h => nomatch h), (fun _ => ⟨zsub_4 (List.mem_of_getElem? (i := 232) rfl), Or.inr (zsub_4 (List.mem_of_getElem? (i := 233) rfl))⟩)⟩
noncomputable abbrev zmd_164 : zMd := (⟨"RaysOfShapes", "bounds", "(IIII)J"⟩, prog_1_method_28_code, 6, some .long, false, 4, 12)
set_option maxRecDepth 100000 in
theorem zmo_164 : zmOK zmd_164 := ⟨zsub_5 (List.mem_of_getElem? (i := 11) rfl), zsub_1 (List.mem_of_getElem? (i := 1) rfl), zdp_54, rfl, zmh_12, plainFor_of_name zpn_12, (fun h => nomatch h), (fun _ => ⟨zsub_5 (List.mem_of_getElem? (i := 9) rfl), Or.inr (zsub_5 (List.mem_of_getElem? (i := 10) rfl))⟩)⟩
noncomputable abbrev zmd_165 : zMd := (⟨"RaysOfShapes", "in", "(II)I"⟩, prog_1_method_29_code, 3, some .int, false, 2, 12)
set_option maxRecDepth 100000 in
theorem zmo_165 : zmOK zmd_165 := ⟨zsub_5 (List.mem_of_getElem? (i := 25) rfl), zsub_1 (List.mem_of_getElem? (i := 1) rfl), zdp_30, rfl, zmh_12, plainFor_of_name zpn_12, (fun h => nomatch h), (fun _ => ⟨zsub_5 (List.mem_of_getElem? (i := 23) rfl), Or.inr (zsub_5 (List.mem_of_getElem? (i := 24) rfl))⟩)⟩
noncomputable abbrev zmd_166 : zMd := (⟨"RaysOfShapes", "count", "(II)I"⟩, prog_1_method_30_code, 3, some .int, false, 2, 12)
set_option maxRecDepth 100000 in
theorem zmo_166 : zmOK zmd_166 := ⟨zsub_5 (List.mem_of_getElem? (i := 33) rfl), zsub_1 (List.mem_of_getElem? (i := 1) rfl), zdp_30, rfl, zmh_12, plainFor_of_name zpn_12, (fun h => nomatch h), (fun _ => ⟨zsub_5 (List.mem_of_getElem? (i := 31) rfl), Or.inr (zsub_5 (List.mem_of_getElem? (i := 32) rfl))⟩)⟩
noncomputable abbrev zmd_167 : zMd := (⟨"RaysOfShapes", "placeOf", "(II)I"⟩, prog_1_method_31_code, 4, some .int, false, 2, 12)
set_option maxRecDepth 100000 in
theorem zmo_167 : zmOK zmd_167 := ⟨zsub_5 (List.mem_of_getElem? (i := 42) rfl), zsub_1 (List.mem_of_getElem? (i := 1) rfl), zdp_30, rfl, zmh_12, plainFor_of_name zpn_12, (fun h => nomatch h), (fun _ => ⟨zsub_5 (List.mem_of_getElem? (i := 40) rfl), Or.inr (zsub_5 (List.mem_of_getElem? (i := 41) rfl))⟩)⟩
noncomputable abbrev zmd_168 : zMd := (⟨"RaysOfShapes", "slice", "(III)I"⟩, prog_1_method_32_code, 4, some .int, false, 3, 12)
set_option maxRecDepth 100000 in
theorem zmo_168 : zmOK zmd_168 := ⟨zsub_5 (List.mem_of_getElem? (i := 51) rfl), zsub_1 (List.mem_of_getElem? (i := 1) rfl), zdp_44, rfl, zmh_12, plainFor_of_name zpn_12, (fun h => nomatch h), (fun _ => ⟨zsub_5 (List.mem_of_getElem? (i := 49) rfl), Or.inr (zsub_5 (List.mem_of_getElem? (i := 50) rfl))⟩)⟩
noncomputable abbrev zmd_169 : zMd := (⟨"RaysOfShapes", "reach", "(III)I"⟩, prog_1_method_33_code, 7, some .int, false, 3, 12)
set_option maxRecDepth 100000 in
theorem zmo_169 : zmOK zmd_169 := ⟨zsub_5 (List.mem_of_getElem? (i := 60) rfl), zsub_1 (List.mem_of_getElem? (i := 1) rfl), zdp_44, rfl, zmh_12, plainFor_of_name zpn_12, (fun h => nomatch h), (fun _ => ⟨zsub_5 (List.mem_of_getElem? (i := 58) rfl), Or.inr (zsub_5 (List.mem_of_getElem? (i := 59) rfl))⟩)⟩
noncomputable abbrev zmd_170 : zMd := (⟨"RaysOfShapes", "ray", "(IIIIII)I"⟩, prog_1_method_34_code, 7, some .int, false, 6, 12)
set_option maxRecDepth 100000 in
theorem zmo_170 : zmOK zmd_170 := ⟨zsub_5 (List.mem_of_getElem? (i := 64) rfl), zsub_1 (List.mem_of_getElem? (i := 1) rfl), zdp_52, rfl, zmh_12, plainFor_of_name zpn_12, (fun h => nomatch h), (fun _ => ⟨zsub_5 (List.mem_of_getElem? (i := 62) rfl), Or.inr (zsub_5 (List.mem_of_getElem? (i := 63) rfl))⟩)⟩
noncomputable abbrev zmd_171 : zMd := (⟨"RaysOfShapes", "skin", "(I)I"⟩, prog_1_method_35_code, 2, some .int, false, 1, 12)
set_option maxRecDepth 100000 in
theorem zmo_171 : zmOK zmd_171 := ⟨zsub_5 (List.mem_of_getElem? (i := 91) rfl), zsub_1 (List.mem_of_getElem? (i := 1) rfl), zdp_4, rfl, zmh_12, plainFor_of_name zpn_12, (fun h => nomatch h), (fun _ => ⟨zsub_5 (List.mem_of_getElem? (i := 89) rfl), Or.inr (zsub_5 (List.mem_of_getElem? (i := 90) rfl))⟩)⟩
noncomputable abbrev zmd_172 : zMd := (⟨"RaysOfShapes", "pieces", "(II)I"⟩, prog_1_method_36_code, 3, some .int, false, 2, 12)
set_option maxRecDepth 100000 in
theorem zmo_172 : zmOK zmd_172 := ⟨zsub_5 (List.mem_of_getElem? (i := 105) rfl), zsub_1 (List.mem_of_getElem? (i := 1) rfl), zdp_30, rfl, zmh_12, plainFor_of_name zpn_12, (fun h => nomatch h), (fun _ => ⟨zsub_5 (List.mem_of_getElem? (i := 103) rfl), Or.inr (zsub_5 (List.mem_of_getElem? (i := 104) rfl))⟩)⟩
noncomputable abbrev zmd_173 : zMd := (⟨"RaysOfShapes", "even", "(II)I"⟩, prog_1_method_37_code, 6, some .int, false, 2, 12)
set_option maxRecDepth 100000 in
theorem zmo_173 : zmOK zmd_173 := ⟨zsub_5 (List.mem_of_getElem? (i := 131) rfl), zsub_1 (List.mem_of_getElem? (i := 1) rfl), zdp_30, rfl, zmh_12, plainFor_of_name zpn_12, (fun h => nomatch h), (fun _ => ⟨zsub_5 (List.mem_of_getElem? (i := 129) rfl), Or.inr (zsub_5 (List.mem_of_getElem? (i := 130) rfl))⟩)⟩
noncomputable abbrev zmd_174 : zMd := (⟨"RaysOfShapes", "both", "(II)I"⟩, prog_1_method_38_code, 3, some .int, false, 2, 12)
set_option maxRecDepth 100000 in
theorem zmo_174 : zmOK zmd_174 := ⟨zsub_5 (List.mem_of_getElem? (i := 136) rfl), zsub_1 (List.mem_of_getElem? (i := 1) rfl), zdp_30, rfl, zmh_12, plainFor_of_name zpn_12, (fun h => nomatch h), (fun _ => ⟨zsub_5 (List.mem_of_getElem? (i := 134) rfl), Or.inr (zsub_5 (List.mem_of_getElem? (i := 135) rfl))⟩)⟩
noncomputable abbrev zmd_175 : zMd := (⟨"RaysOfShapes", "differ", "(II)I"⟩, prog_1_method_39_code, 6, some .int, false, 2, 12)
set_option maxRecDepth 100000 in
theorem zmo_175 : zmOK zmd_175 := ⟨zsub_5 (List.mem_of_getElem? (i := 140) rfl), zsub_1 (List.mem_of_getElem? (i := 1) rfl), zdp_30, rfl, zmh_12, plainFor_of_name zpn_12, (fun h => nomatch h), (fun _ => ⟨zsub_5 (List.mem_of_getElem? (i := 138) rfl), Or.inr (zsub_5 (List.mem_of_getElem? (i := 139) rfl))⟩)⟩
noncomputable abbrev zmd_176 : zMd := (⟨"RaysOfShapes", "apart", "(III)I"⟩, prog_1_method_40_code, 7, some .int, false, 3, 12)
set_option maxRecDepth 100000 in
theorem zmo_176 : zmOK zmd_176 := ⟨zsub_5 (List.mem_of_getElem? (i := 144) rfl), zsub_1 (List.mem_of_getElem? (i := 1) rfl), zdp_44, rfl, zmh_12, plainFor_of_name zpn_12, (fun h => nomatch h), (fun _ => ⟨zsub_5 (List.mem_of_getElem? (i := 142) rfl), Or.inr (zsub_5 (List.mem_of_getElem? (i := 143) rfl))⟩)⟩
noncomputable abbrev zmd_177 : zMd := (⟨"RaysOfShapes", "meets", "(LRaysOfShapes$Places;LRaysOfShapes$Places;II)Z"⟩, prog_1_method_41_code, 5, some .boolean, true, 4, 12)
set_option maxRecDepth 100000 in
theorem zmo_177 : zmOK zmd_177 := ⟨zsub_5 (List.mem_of_getElem? (i := 147) rfl), zsub_1 (List.mem_of_getElem? (i := 1) rfl), zdp_55, rfl, zmh_12, plainFor_of_name zpn_12, (fun _ => zsub_5 (List.mem_of_getElem? (i := 146) rfl)), (fun h => nomatch h)⟩
noncomputable abbrev zmd_178 : zMd := (⟨"RaysOfShapes", "enough", "(IIII)I"⟩, prog_1_method_42_code, 6, some .int, false, 4, 12)
set_option maxRecDepth 100000 in
theorem zmo_178 : zmOK zmd_178 := ⟨zsub_5 (List.mem_of_getElem? (i := 151) rfl), zsub_1 (List.mem_of_getElem? (i := 1) rfl), zdp_51, rfl, zmh_12, plainFor_of_name zpn_12, (fun h => nomatch h), (fun _ => ⟨zsub_5 (List.mem_of_getElem? (i := 149) rfl), Or.inr (zsub_5 (List.mem_of_getElem? (i := 150) rfl))⟩)⟩
noncomputable abbrev zmd_179 : zMd := (⟨"RaysOfShapes", "countBlends", "(III)V"⟩, prog_1_method_43_code, 13, none, false, 3, 12)
set_option maxRecDepth 100000 in
theorem zmo_179 : zmOK zmd_179 := ⟨zsub_5 (List.mem_of_getElem? (i := 155) rfl), zsub_1 (List.mem_of_getElem? (i := 1) rfl), zdp_35, rfl, zmh_12, plainFor_of_name zpn_12, (fun h => nomatch h), (fun _ => ⟨zsub_5 (List.mem_of_getElem? (i := 154) rfl), Or.inr (zsub_0 (List.mem_of_getElem? (i := 42) rfl))⟩)⟩
noncomputable abbrev zmd_180 : zMd := (⟨"RaysOfShapes", "kinds", "(IIII)I"⟩, prog_1_method_44_code, 8, some .int, false, 4, 12)
set_option maxRecDepth 100000 in
theorem zmo_180 : zmOK zmd_180 := ⟨zsub_5 (List.mem_of_getElem? (i := 163) rfl), zsub_1 (List.mem_of_getElem? (i := 1) rfl), zdp_51, rfl, zmh_12, plainFor_of_name zpn_12, (fun h => nomatch h), (fun _ => ⟨zsub_5 (List.mem_of_getElem? (i := 161) rfl), Or.inr (zsub_5 (List.mem_of_getElem? (i := 162) rfl))⟩)⟩
noncomputable abbrev zmd_181 : zMd := (⟨"RaysOfShapes", "isSoOfPair", "(IIIII)Z"⟩, prog_1_method_45_code, 8, some .boolean, false, 5, 12)
set_option maxRecDepth 100000 in
theorem zmo_181 : zmOK zmd_181 := ⟨zsub_5 (List.mem_of_getElem? (i := 172) rfl), zsub_1 (List.mem_of_getElem? (i := 1) rfl), zdp_56, rfl, zmh_12, plainFor_of_name zpn_12, (fun h => nomatch h), (fun _ => ⟨zsub_5 (List.mem_of_getElem? (i := 171) rfl), Or.inr (zsub_0 (List.mem_of_getElem? (i := 45) rfl))⟩)⟩
noncomputable abbrev zmd_182 : zMd := (⟨"RaysOfShapes", "isInPair", "(IIII)Z"⟩, prog_1_method_46_code, 7, some .boolean, false, 4, 12)
set_option maxRecDepth 100000 in
theorem zmo_182 : zmOK zmd_182 := ⟨zsub_5 (List.mem_of_getElem? (i := 176) rfl), zsub_1 (List.mem_of_getElem? (i := 1) rfl), zdp_57, rfl, zmh_12, plainFor_of_name zpn_12, (fun h => nomatch h), (fun _ => ⟨zsub_5 (List.mem_of_getElem? (i := 175) rfl), Or.inr (zsub_0 (List.mem_of_getElem? (i := 46) rfl))⟩)⟩
noncomputable abbrev zmd_183 : zMd := (⟨"RaysOfShapes", "judge", "(III)I"⟩, prog_1_method_47_code, 7, some .int, false, 3, 12)
set_option maxRecDepth 100000 in
theorem zmo_183 : zmOK zmd_183 := ⟨zsub_5 (List.mem_of_getElem? (i := 182) rfl), zsub_1 (List.mem_of_getElem? (i := 1) rfl), zdp_44, rfl, zmh_12, plainFor_of_name zpn_12, (fun h => nomatch h), (fun _ => ⟨zsub_5 (List.mem_of_getElem? (i := 180) rfl), Or.inr (zsub_5 (List.mem_of_getElem? (i := 181) rfl))⟩)⟩
noncomputable abbrev zmd_184 : zMd := (⟨"RaysOfShapes", "carve", "(II)I"⟩, prog_1_method_48_code, 3, some .int, false, 2, 12)
set_option maxRecDepth 100000 in
theorem zmo_184 : zmOK zmd_184 := ⟨zsub_5 (List.mem_of_getElem? (i := 186) rfl), zsub_1 (List.mem_of_getElem? (i := 1) rfl), zdp_30, rfl, zmh_12, plainFor_of_name zpn_12, (fun h => nomatch h), (fun _ => ⟨zsub_5 (List.mem_of_getElem? (i := 184) rfl), Or.inr (zsub_5 (List.mem_of_getElem? (i := 185) rfl))⟩)⟩
noncomputable abbrev zmd_185 : zMd := (⟨"RaysOfShapes", "undo", "()I"⟩, prog_1_method_49_code, 1, some .int, false, 0, 12)
set_option maxRecDepth 100000 in
theorem zmo_185 : zmOK zmd_185 := ⟨zsub_5 (List.mem_of_getElem? (i := 206) rfl), zsub_1 (List.mem_of_getElem? (i := 1) rfl), zdp_2, rfl, zmh_12, plainFor_of_name zpn_12, (fun h => nomatch h), (fun _ => ⟨zsub_5 (List.mem_of_getElem? (i := 204) rfl), Or.inr (zsub_5 (List.mem_of_getElem? (i := 205) rfl))⟩)⟩
noncomputable abbrev zmd_186 : zMd := (⟨"RaysOfShapes", "block", "(I)I"⟩, prog_1_method_50_code, 2, some .int, false, 1, 12)
set_option maxRecDepth 100000 in
theorem zmo_186 : zmOK zmd_186 := ⟨zsub_5 (List.mem_of_getElem? (i := 218) rfl), zsub_1 (List.mem_of_getElem? (i := 1) rfl), zdp_4, rfl, zmh_12, plainFor_of_name zpn_12, (fun h => nomatch h), (fun _ => ⟨zsub_5 (List.mem_of_getElem? (i := 216) rfl), Or.inr (zsub_5 (List.mem_of_getElem? (i := 217) rfl))⟩)⟩
noncomputable abbrev zmd_187 : zMd := (⟨"RaysOfShapes", "has", "(I)I"⟩, prog_1_method_51_code, 2, some .int, false, 1, 12)
set_option maxRecDepth 100000 in
theorem zmo_187 : zmOK zmd_187 := ⟨zsub_5 (List.mem_of_getElem? (i := 226) rfl), zsub_1 (List.mem_of_getElem? (i := 1) rfl), zdp_4, rfl, zmh_12, plainFor_of_name zpn_12, (fun h => nomatch h), (fun _ => ⟨zsub_5 (List.mem_of_getElem? (i := 224) rfl), Or.inr (zsub_5 (List.mem_of_getElem? (i := 225) rfl))⟩)⟩
noncomputable abbrev zmd_188 : zMd := (⟨"RaysOfShapes", "off", "(I)I"⟩, prog_1_method_52_code, 2, some .int, false, 1, 12)
set_option maxRecDepth 100000 in
theorem zmo_188 : zmOK zmd_188 := ⟨zsub_5 (List.mem_of_getElem? (i := 230) rfl), zsub_1 (List.mem_of_getElem? (i := 1) rfl), zdp_4, rfl, zmh_12, plainFor_of_name zpn_12, (fun h => nomatch h), (fun _ => ⟨zsub_5 (List.mem_of_getElem? (i := 228) rfl), Or.inr (zsub_5 (List.mem_of_getElem? (i := 229) rfl))⟩)⟩
noncomputable abbrev zmd_189 : zMd := (⟨"RaysOfShapes", "days", "(I)I"⟩, prog_1_method_53_code, 7, some .int, false, 1, 12)
set_option maxRecDepth 100000 in
theorem zmo_189 : zmOK zmd_189 := ⟨zsub_5 (List.mem_of_getElem? (i := 234) rfl), zsub_1 (List.mem_of_getElem? (i := 1) rfl), zdp_4, rfl, zmh_12, plainFor_of_name zpn_12, (fun h => nomatch h), (fun _ => ⟨zsub_5 (List.mem_of_getElem? (i := 232) rfl), Or.inr (zsub_5 (List.mem_of_getElem? (i := 233) rfl))⟩)⟩
noncomputable abbrev zmd_190 : zMd := (⟨"RaysOfShapes", "seed", "(I)I"⟩, prog_1_method_54_code, 3, some .int, false, 1, 12)
set_option maxRecDepth 100000 in
theorem zmo_190 : zmOK zmd_190 := ⟨zsub_6 (List.mem_of_getElem? (i := 10) rfl), zsub_1 (List.mem_of_getElem? (i := 1) rfl), zdp_4, rfl, zmh_12, plainFor_of_name zpn_12, (fun h => nomatch h), (fun _ => ⟨zsub_6 (List.mem_of_getElem? (i := 8) rfl), Or.inr (zsub_6 (List.mem_of_getElem? (i := 9) rfl))⟩)⟩
noncomputable abbrev zmd_191 : zMd := (⟨"RaysOfShapes", "image", "()I"⟩, prog_1_method_55_code, 1, some .int, false, 0, 12)
set_option maxRecDepth 100000 in
theorem zmo_191 : zmOK zmd_191 := ⟨zsub_6 (List.mem_of_getElem? (i := 22) rfl), zsub_1 (List.mem_of_getElem? (i := 1) rfl), zdp_2, rfl, zmh_12, plainFor_of_name zpn_12, (fun h => nomatch h), (fun _ => ⟨zsub_6 (List.mem_of_getElem? (i := 20) rfl), Or.inr (zsub_6 (List.mem_of_getElem? (i := 21) rfl))⟩)⟩
noncomputable abbrev zmd_192 : zMd := (⟨"RaysOfShapes", "back", "()I"⟩, prog_1_method_56_code, 1, some .int, false, 0, 12)
set_option maxRecDepth 100000 in
theorem zmo_192 : zmOK zmd_192 := ⟨zsub_6 (List.mem_of_getElem? (i := 39) rfl), zsub_1 (List.mem_of_getElem? (i := 1) rfl), zdp_2, rfl, zmh_12, plainFor_of_name zpn_12, (fun h => nomatch h), (fun _ => ⟨zsub_6 (List.mem_of_getElem? (i := 37) rfl), Or.inr (zsub_6 (List.mem_of_getElem? (i := 38) rfl))⟩)⟩
noncomputable abbrev zmd_193 : zMd := (⟨"RaysOfShapes", "status", "(I)I"⟩, prog_1_method_57_code, 2, some .int, false, 1, 12)
set_option maxRecDepth 100000 in
theorem zmo_193 : zmOK zmd_193 := ⟨zsub_6 (List.mem_of_getElem? (i := 43) rfl), zsub_1 (List.mem_of_getElem? (i := 1) rfl), zdp_4, rfl, zmh_12, plainFor_of_name zpn_12, (fun h => nomatch h), (fun _ => ⟨zsub_6 (List.mem_of_getElem? (i := 41) rfl), Or.inr (zsub_6 (List.mem_of_getElem? (i := 42) rfl))⟩)⟩
noncomputable abbrev zmd_194 : zMd := (⟨"RaysOfShapes", "refused", "(I)I"⟩, prog_1_method_58_code, 3, some .int, false, 1, 12)
set_option maxRecDepth 100000 in
theorem zmo_194 : zmOK zmd_194 := ⟨zsub_2 (List.mem_of_getElem? (i := 84) rfl), zsub_1 (List.mem_of_getElem? (i := 1) rfl), zdp_4, rfl, zmh_12, plainFor_of_name zpn_12, (fun h => nomatch h), (fun _ => ⟨zsub_2 (List.mem_of_getElem? (i := 83) rfl), Or.inr (zsub_0 (List.mem_of_getElem? (i := 0) rfl))⟩)⟩
noncomputable abbrev zmd_195 : zMd := (⟨"RaysOfShapes", "rowRefusal", "(I)I"⟩, prog_1_method_59_code, 3, some .int, false, 1, 12)
set_option maxRecDepth 100000 in
theorem zmo_195 : zmOK zmd_195 := ⟨zsub_2 (List.mem_of_getElem? (i := 97) rfl), zsub_1 (List.mem_of_getElem? (i := 1) rfl), zdp_4, rfl, zmh_12, plainFor_of_name zpn_12, (fun h => nomatch h), (fun _ => ⟨zsub_2 (List.mem_of_getElem? (i := 96) rfl), Or.inr (zsub_0 (List.mem_of_getElem? (i := 1) rfl))⟩)⟩
noncomputable abbrev zmd_196 : zMd := (⟨"RaysOfShapes", "toldRefusal", "(II)I"⟩, prog_1_method_60_code, 9, some .int, false, 2, 12)
set_option maxRecDepth 100000 in
theorem zmo_196 : zmOK zmd_196 := ⟨zsub_5 (List.mem_of_getElem? (i := 167) rfl), zsub_1 (List.mem_of_getElem? (i := 1) rfl), zdp_30, rfl, zmh_12, plainFor_of_name zpn_12, (fun h => nomatch h), (fun _ => ⟨zsub_5 (List.mem_of_getElem? (i := 166) rfl), Or.inr (zsub_0 (List.mem_of_getElem? (i := 44) rfl))⟩)⟩
noncomputable abbrev zmd_197 : zMd := (⟨"RaysOfShapes", "isShape", "(I)Z"⟩, prog_1_method_61_code, 2, some .boolean, false, 1, 12)
set_option maxRecDepth 100000 in
theorem zmo_197 : zmOK zmd_197 := ⟨zsub_2 (List.mem_of_getElem? (i := 151) rfl), zsub_1 (List.mem_of_getElem? (i := 1) rfl), zdp_16, rfl, zmh_12, plainFor_of_name zpn_12, (fun h => nomatch h), (fun _ => ⟨zsub_2 (List.mem_of_getElem? (i := 150) rfl), Or.inr (zsub_0 (List.mem_of_getElem? (i := 3) rfl))⟩)⟩
noncomputable abbrev zmd_198 : zMd := (⟨"RaysOfShapes", "placesOf", "(I)LRaysOfShapes$Places;"⟩, prog_1_method_62_code, 2, some (.object "RaysOfShapes$Places"), false, 1, 12)
set_option maxRecDepth 100000 in
theorem zmo_198 : zmOK zmd_198 := ⟨zsub_2 (List.mem_of_getElem? (i := 192) rfl), zsub_1 (List.mem_of_getElem? (i := 1) rfl), zdp_58, rfl, zmh_12, plainFor_of_name zpn_12, (fun h => nomatch h), (fun _ => ⟨zsub_2 (List.mem_of_getElem? (i := 191) rfl), Or.inr (zsub_0 (List.mem_of_getElem? (i := 5) rfl))⟩)⟩
noncomputable abbrev zmd_199 : zMd := (⟨"RaysOfShapes", "worthIn", "(II)LRaysOfShapes$Fraction;"⟩, prog_1_method_63_code, 3, some (.object "RaysOfShapes$Fraction"), false, 2, 12)
set_option maxRecDepth 100000 in
theorem zmo_199 : zmOK zmd_199 := ⟨zsub_5 (List.mem_of_getElem? (i := 159) rfl), zsub_1 (List.mem_of_getElem? (i := 1) rfl), zdp_59, rfl, zmh_12, plainFor_of_name zpn_12, (fun h => nomatch h), (fun _ => ⟨zsub_5 (List.mem_of_getElem? (i := 158) rfl), Or.inr (zsub_0 (List.mem_of_getElem? (i := 43) rfl))⟩)⟩
noncomputable abbrev zmd_200 : zMd := (⟨"RaysOfShapes", "isBetween", "(III)Z"⟩, prog_1_method_64_code, 3, some .boolean, true, 3, 12)
set_option maxRecDepth 100000 in
theorem zmo_200 : zmOK zmd_200 := ⟨zsub_2 (List.mem_of_getElem? (i := 80) rfl), zsub_1 (List.mem_of_getElem? (i := 1) rfl), zdp_43, rfl, zmh_12, plainFor_of_name zpn_12, (fun _ => zsub_2 (List.mem_of_getElem? (i := 79) rfl)), (fun h => nomatch h)⟩
noncomputable abbrev zmd_201 : zMd := (⟨"RaysOfShapes", "isShelf", "(I)Z"⟩, prog_1_method_65_code, 1, some .boolean, true, 1, 12)
set_option maxRecDepth 100000 in
theorem zmo_201 : zmOK zmd_201 := ⟨zsub_2 (List.mem_of_getElem? (i := 77) rfl), zsub_1 (List.mem_of_getElem? (i := 1) rfl), zdp_16, rfl, zmh_12, plainFor_of_name zpn_12, (fun _ => zsub_2 (List.mem_of_getElem? (i := 76) rfl)), (fun h => nomatch h)⟩
noncomputable abbrev zmd_202 : zMd := (⟨"RaysOfShapes", "isPlace", "(I)Z"⟩, prog_1_method_66_code, 1, some .boolean, true, 1, 12)
set_option maxRecDepth 100000 in
theorem zmo_202 : zmOK zmd_202 := ⟨zsub_3 (List.mem_of_getElem? (i := 72) rfl), zsub_1 (List.mem_of_getElem? (i := 1) rfl), zdp_16, rfl, zmh_12, plainFor_of_name zpn_12, (fun _ => zsub_3 (List.mem_of_getElem? (i := 71) rfl)), (fun h => nomatch h)⟩
noncomputable abbrev zmd_203 : zMd := (⟨"RaysOfShapes", "isAxis", "(I)Z"⟩, prog_1_method_67_code, 1, some .boolean, true, 1, 12)
set_option maxRecDepth 100000 in
theorem zmo_203 : zmOK zmd_203 := ⟨zsub_3 (List.mem_of_getElem? (i := 53) rfl), zsub_1 (List.mem_of_getElem? (i := 1) rfl), zdp_16, rfl, zmh_12, plainFor_of_name zpn_12, (fun _ => zsub_3 (List.mem_of_getElem? (i := 52) rfl)), (fun h => nomatch h)⟩
noncomputable abbrev zmd_204 : zMd := (⟨"RaysOfShapes", "isNear", "(I)Z"⟩, prog_1_method_68_code, 1, some .boolean, true, 1, 12)
set_option maxRecDepth 100000 in
theorem zmo_204 : zmOK zmd_204 := ⟨zsub_4 (List.mem_of_getElem? (i := 237) rfl), zsub_1 (List.mem_of_getElem? (i := 1) rfl), zdp_16, rfl, zmh_12, plainFor_of_name zpn_12, (fun _ => zsub_4 (List.mem_of_getElem? (i := 236) rfl)), (fun h => nomatch h)⟩
noncomputable abbrev zmd_205 : zMd := (⟨"RaysOfShapes", "isStep", "(I)Z"⟩, prog_1_method_69_code, 1, some .boolean, true, 1, 12)
set_option maxRecDepth 100000 in
theorem zmo_205 : zmOK zmd_205 := ⟨zsub_5 (List.mem_of_getElem? (i := 67) rfl), zsub_1 (List.mem_of_getElem? (i := 1) rfl), zdp_16, rfl, zmh_12, plainFor_of_name zpn_12, (fun _ => zsub_5 (List.mem_of_getElem? (i := 66) rfl)), (fun h => nomatch h)⟩
noncomputable abbrev zmd_206 : zMd := (⟨"RaysOfShapes", "isRun", "(III)Z"⟩, prog_1_method_70_code, 3, some .boolean, true, 3, 12)
set_option maxRecDepth 100000 in
theorem zmo_206 : zmOK zmd_206 := ⟨zsub_2 (List.mem_of_getElem? (i := 124) rfl), zsub_1 (List.mem_of_getElem? (i := 1) rfl), zdp_43, rfl, zmh_12, plainFor_of_name zpn_12, (fun _ => zsub_2 (List.mem_of_getElem? (i := 123) rfl)), (fun h => nomatch h)⟩
noncomputable abbrev zmd_207 : zMd := (⟨"RaysOfShapes", "isRegion", "(II)Z"⟩, prog_1_method_71_code, 3, some .boolean, true, 2, 12)
set_option maxRecDepth 100000 in
theorem zmo_207 : zmOK zmd_207 := ⟨zsub_5 (List.mem_of_getElem? (i := 14) rfl), zsub_1 (List.mem_of_getElem? (i := 1) rfl), zdp_15, rfl, zmh_12, plainFor_of_name zpn_12, (fun _ => zsub_5 (List.mem_of_getElem? (i := 13) rfl)), (fun h => nomatch h)⟩
noncomputable abbrev zmd_208 : zMd := (⟨"RaysOfShapes", "placeAt", "(III)I"⟩, prog_1_method_72_code, 3, some .int, true, 3, 12)
set_option maxRecDepth 100000 in
theorem zmo_208 : zmOK zmd_208 := ⟨zsub_3 (List.mem_of_getElem? (i := 167) rfl), zsub_1 (List.mem_of_getElem? (i := 1) rfl), zdp_44, rfl, zmh_12, plainFor_of_name zpn_12, (fun _ => zsub_3 (List.mem_of_getElem? (i := 166) rfl)), (fun h => nomatch h)⟩
noncomputable abbrev zmd_209 : zMd := (⟨"RaysOfShapes", "numberOn", "(II)I"⟩, prog_1_method_73_code, 2, some .int, true, 2, 12)
set_option maxRecDepth 100000 in
theorem zmo_209 : zmOK zmd_209 := ⟨zsub_2 (List.mem_of_getElem? (i := 207) rfl), zsub_1 (List.mem_of_getElem? (i := 1) rfl), zdp_30, rfl, zmh_12, plainFor_of_name zpn_12, (fun _ => zsub_2 (List.mem_of_getElem? (i := 206) rfl)), (fun h => nomatch h)⟩
noncomputable abbrev zmd_210 : zMd := (⟨"RaysOfShapes", "shiftOf", "(I)I"⟩, prog_1_method_74_code, 1, some .int, true, 1, 12)
set_option maxRecDepth 100000 in
theorem zmo_210 : zmOK zmd_210 := ⟨zsub_2 (List.mem_of_getElem? (i := 210) rfl), zsub_1 (List.mem_of_getElem? (i := 1) rfl), zdp_4, rfl, zmh_12, plainFor_of_name zpn_12, (fun _ => zsub_2 (List.mem_of_getElem? (i := 209) rfl)), (fun h => nomatch h)⟩
noncomputable abbrev zmd_211 : zMd := (⟨"RaysOfShapes", "moved", "(III)I"⟩, prog_1_method_75_code, 3, some .int, true, 3, 12)
set_option maxRecDepth 100000 in
theorem zmo_211 : zmOK zmd_211 := ⟨zsub_5 (List.mem_of_getElem? (i := 75) rfl), zsub_1 (List.mem_of_getElem? (i := 1) rfl), zdp_44, rfl, zmh_12, plainFor_of_name zpn_12, (fun _ => zsub_5 (List.mem_of_getElem? (i := 74) rfl)), (fun h => nomatch h)⟩
noncomputable abbrev zmd_212 : zMd := (⟨"RaysOfShapesModel", "<init>", "()V"⟩, prog_14_method_1_code, 1, none, false, 0, 13)
set_option maxRecDepth 100000 in
theorem zmo_212 : zmOK zmd_212 := ⟨zsub_6 (List.mem_of_getElem? (i := 56) rfl), zsub_1 (List.mem_of_getElem? (i := 12) rfl), zdp_0, rfl, zmh_13, plainFor_of_name zpn_13, (fun h => nomatch h), (fun _ => ⟨zsub_6 (List.mem_of_getElem? (i := 55) rfl), Or.inl rfl⟩)⟩
noncomputable abbrev zmd_213 : zMd := (⟨"RaysOfShapesModel", "is", "(JJJ)Z"⟩, prog_14_method_2_code, 6, some .boolean, true, 3, 13)
set_option maxRecDepth 100000 in
theorem zmo_213 : zmOK zmd_213 := ⟨zsub_6 (List.mem_of_getElem? (i := 183) rfl), zsub_1 (List.mem_of_getElem? (i := 12) rfl), zdp_60, rfl, zmh_13, plainFor_of_name zpn_13, (fun _ => zsub_6 (List.mem_of_getElem? (i := 182) rfl)), (fun h => nomatch h)⟩
noncomputable abbrev zmd_214 : zMd := (⟨"RaysOfShapesModel", "refused", "(I)I"⟩, prog_14_method_3_code, 2, some .int, false, 1, 13)
set_option maxRecDepth 100000 in
theorem zmo_214 : zmOK zmd_214 := ⟨zsub_6 (List.mem_of_getElem? (i := 193) rfl), zsub_1 (List.mem_of_getElem? (i := 12) rfl), zdp_4, rfl, zmh_13, plainFor_of_name zpn_13, (fun h => nomatch h), (fun _ => ⟨zsub_6 (List.mem_of_getElem? (i := 192) rfl), Or.inr (zsub_0 (List.mem_of_getElem? (i := 49) rfl))⟩)⟩
noncomputable abbrev zmd_215 : zMd := (⟨"RaysOfShapesModel", "refusedLong", "(I)J"⟩, prog_14_method_4_code, 2, some .long, false, 1, 13)
set_option maxRecDepth 100000 in
theorem zmo_215 : zmOK zmd_215 := ⟨zsub_6 (List.mem_of_getElem? (i := 189) rfl), zsub_1 (List.mem_of_getElem? (i := 12) rfl), zdp_61, rfl, zmh_13, plainFor_of_name zpn_13, (fun h => nomatch h), (fun _ => ⟨zsub_6 (List.mem_of_getElem? (i := 188) rfl), Or.inr (zsub_0 (List.mem_of_getElem? (i := 48) rfl))⟩)⟩
noncomputable abbrev zmd_216 : zMd := (⟨"RaysOfShapesModel", "of", "(II)I"⟩, prog_14_method_5_code, 3, some .int, false, 2, 13)
set_option maxRecDepth 100000 in
theorem zmo_216 : zmOK zmd_216 := ⟨zsub_6 (List.mem_of_getElem? (i := 202) rfl), zsub_1 (List.mem_of_getElem? (i := 12) rfl), zdp_30, rfl, zmh_13, plainFor_of_name zpn_13, (fun h => nomatch h), (fun _ => ⟨zsub_6 (List.mem_of_getElem? (i := 201) rfl), Or.inr (zsub_0 (List.mem_of_getElem? (i := 51) rfl))⟩)⟩
noncomputable abbrev zmd_217 : zMd := (⟨"RaysOfShapesModel", "number", "(II)I"⟩, prog_14_method_6_code, 3, some .int, false, 2, 13)
set_option maxRecDepth 100000 in
theorem zmo_217 : zmOK zmd_217 := ⟨zsub_6 (List.mem_of_getElem? (i := 206) rfl), zsub_1 (List.mem_of_getElem? (i := 12) rfl), zdp_30, rfl, zmh_13, plainFor_of_name zpn_13, (fun h => nomatch h), (fun _ => ⟨zsub_6 (List.mem_of_getElem? (i := 205) rfl), Or.inr (zsub_0 (List.mem_of_getElem? (i := 52) rfl))⟩)⟩
noncomputable abbrev zmd_218 : zMd := (⟨"RaysOfShapesModel", "isShape", "(I)Z"⟩, prog_14_method_7_code, 2, some .boolean, false, 1, 13)
set_option maxRecDepth 100000 in
theorem zmo_218 : zmOK zmd_218 := ⟨zsub_6 (List.mem_of_getElem? (i := 180) rfl), zsub_1 (List.mem_of_getElem? (i := 12) rfl), zdp_16, rfl, zmh_13, plainFor_of_name zpn_13, (fun h => nomatch h), (fun _ => ⟨zsub_6 (List.mem_of_getElem? (i := 179) rfl), Or.inr (zsub_0 (List.mem_of_getElem? (i := 47) rfl))⟩)⟩
noncomputable abbrev zmd_219 : zMd := (⟨"RaysOfShapesModel", "worthAt", "(IIII)J"⟩, prog_14_method_8_code, 13, some .long, false, 4, 13)
set_option maxRecDepth 100000 in
theorem zmo_219 : zmOK zmd_219 := ⟨zsub_6 (List.mem_of_getElem? (i := 198) rfl), zsub_1 (List.mem_of_getElem? (i := 12) rfl), zdp_54, rfl, zmh_13, plainFor_of_name zpn_13, (fun h => nomatch h), (fun _ => ⟨zsub_6 (List.mem_of_getElem? (i := 197) rfl), Or.inr (zsub_0 (List.mem_of_getElem? (i := 50) rfl))⟩)⟩
noncomputable abbrev zmd_220 : zMd := (⟨"RaysOfShapesModel", "beyond", "(III)J"⟩, prog_14_method_9_code, 4, some .long, false, 3, 13)
set_option maxRecDepth 100000 in
theorem zmo_220 : zmOK zmd_220 := ⟨zsub_6 (List.mem_of_getElem? (i := 211) rfl), zsub_1 (List.mem_of_getElem? (i := 12) rfl), zdp_62, rfl, zmh_13, plainFor_of_name zpn_13, (fun h => nomatch h), (fun _ => ⟨zsub_6 (List.mem_of_getElem? (i := 210) rfl), Or.inr (zsub_0 (List.mem_of_getElem? (i := 53) rfl))⟩)⟩
noncomputable abbrev zmd_221 : zMd := (⟨"RaysOfShapesModel", "blended", "(IJJ)J"⟩, prog_14_method_10_code, 8, some .long, false, 3, 13)
set_option maxRecDepth 100000 in
theorem zmo_221 : zmOK zmd_221 := ⟨zsub_6 (List.mem_of_getElem? (i := 222) rfl), zsub_1 (List.mem_of_getElem? (i := 12) rfl), zdp_63, rfl, zmh_13, plainFor_of_name zpn_13, (fun h => nomatch h), (fun _ => ⟨zsub_6 (List.mem_of_getElem? (i := 221) rfl), Or.inr (zsub_0 (List.mem_of_getElem? (i := 54) rfl))⟩)⟩
noncomputable abbrev zmd_222 : zMd := (⟨"RaysOfShapesModel", "grownBy", "(I)J"⟩, prog_14_method_11_code, 2, some .long, false, 1, 13)
set_option maxRecDepth 100000 in
theorem zmo_222 : zmOK zmd_222 := ⟨zsub_6 (List.mem_of_getElem? (i := 234) rfl), zsub_1 (List.mem_of_getElem? (i := 12) rfl), zdp_61, rfl, zmh_13, plainFor_of_name zpn_13, (fun h => nomatch h), (fun _ => ⟨zsub_6 (List.mem_of_getElem? (i := 233) rfl), Or.inr (zsub_0 (List.mem_of_getElem? (i := 56) rfl))⟩)⟩
noncomputable abbrev zmd_223 : zMd := (⟨"RaysOfShapesModel", "pick", "(IIII)I"⟩, prog_14_method_12_code, 4, some .int, true, 4, 13)
set_option maxRecDepth 100000 in
theorem zmo_223 : zmOK zmd_223 := ⟨zsub_6 (List.mem_of_getElem? (i := 230) rfl), zsub_1 (List.mem_of_getElem? (i := 12) rfl), zdp_51, rfl, zmh_13, plainFor_of_name zpn_13, (fun _ => zsub_6 (List.mem_of_getElem? (i := 229) rfl)), (fun h => nomatch h)⟩
noncomputable abbrev zmd_224 : zMd := (⟨"RaysOfShapesModel", "changed", "(IIII)J"⟩, prog_14_method_13_code, 10, some .long, false, 4, 13)
set_option maxRecDepth 100000 in
theorem zmo_224 : zmOK zmd_224 := ⟨zsub_6 (List.mem_of_getElem? (i := 226) rfl), zsub_1 (List.mem_of_getElem? (i := 12) rfl), zdp_54, rfl, zmh_13, plainFor_of_name zpn_13, (fun h => nomatch h), (fun _ => ⟨zsub_6 (List.mem_of_getElem? (i := 225) rfl), Or.inr (zsub_0 (List.mem_of_getElem? (i := 55) rfl))⟩)⟩
noncomputable abbrev zmd_225 : zMd := (⟨"RaysOfShapesModel", "common", "(JJ)J"⟩, prog_14_method_14_code, 10, some .long, true, 2, 13)
set_option maxRecDepth 100000 in
theorem zmo_225 : zmOK zmd_225 := ⟨zsub_7 (List.mem_of_getElem? (i := 1) rfl), zsub_1 (List.mem_of_getElem? (i := 12) rfl), zdp_64, rfl, zmh_13, plainFor_of_name zpn_13, (fun _ => zsub_7 (List.mem_of_getElem? (i := 0) rfl)), (fun h => nomatch h)⟩
noncomputable abbrev zmd_226 : zMd := (⟨"RaysOfShapesModel", "lowest", "(JZ)J"⟩, prog_14_method_15_code, 5, some .long, true, 2, 13)
set_option maxRecDepth 100000 in
theorem zmo_226 : zmOK zmd_226 := ⟨zsub_6 (List.mem_of_getElem? (i := 238) rfl), zsub_1 (List.mem_of_getElem? (i := 12) rfl), zdp_65, rfl, zmh_13, plainFor_of_name zpn_13, (fun _ => zsub_6 (List.mem_of_getElem? (i := 237) rfl)), (fun h => nomatch h)⟩
noncomputable abbrev zmd_227 : zMd := (⟨"RaysOfShapesModel", "worth", "(IIIII)J"⟩, prog_14_method_16_code, 6, some .long, false, 5, 13)
set_option maxRecDepth 100000 in
theorem zmo_227 : zmOK zmd_227 := ⟨zsub_6 (List.mem_of_getElem? (i := 176) rfl), zsub_1 (List.mem_of_getElem? (i := 12) rfl), zdp_53, rfl, zmh_13, plainFor_of_name zpn_13, (fun h => nomatch h), (fun _ => ⟨zsub_6 (List.mem_of_getElem? (i := 174) rfl), Or.inr (zsub_6 (List.mem_of_getElem? (i := 175) rfl))⟩)⟩
noncomputable abbrev zmd_228 : zMd := (⟨"RaysOfShapesModel", "leastSquare", "(JJ)J"⟩, prog_14_method_17_code, 4, some .long, true, 2, 13)
set_option maxRecDepth 100000 in
theorem zmo_228 : zmOK zmd_228 := ⟨zsub_7 (List.mem_of_getElem? (i := 26) rfl), zsub_1 (List.mem_of_getElem? (i := 12) rfl), zdp_64, rfl, zmh_13, plainFor_of_name zpn_13, (fun _ => zsub_7 (List.mem_of_getElem? (i := 25) rfl)), (fun h => nomatch h)⟩
noncomputable abbrev zmd_229 : zMd := (⟨"RaysOfShapesModel", "greatestSquare", "(JJ)J"⟩, prog_14_method_18_code, 4, some .long, true, 2, 13)
set_option maxRecDepth 100000 in
theorem zmo_229 : zmOK zmd_229 := ⟨zsub_7 (List.mem_of_getElem? (i := 29) rfl), zsub_1 (List.mem_of_getElem? (i := 12) rfl), zdp_64, rfl, zmh_13, plainFor_of_name zpn_13, (fun _ => zsub_7 (List.mem_of_getElem? (i := 28) rfl)), (fun h => nomatch h)⟩
noncomputable abbrev zmd_230 : zMd := (⟨"RaysOfShapesModel", "bound", "(IIIIIIII)V"⟩, prog_14_method_19_code, 17, none, false, 8, 13)
set_option maxRecDepth 100000 in
theorem zmo_230 : zmOK zmd_230 := ⟨zsub_7 (List.mem_of_getElem? (i := 23) rfl), zsub_1 (List.mem_of_getElem? (i := 12) rfl), zdp_66, rfl, zmh_13, plainFor_of_name zpn_13, (fun h => nomatch h), (fun _ => ⟨zsub_7 (List.mem_of_getElem? (i := 22) rfl), Or.inr (zsub_0 (List.mem_of_getElem? (i := 57) rfl))⟩)⟩
noncomputable abbrev zmd_231 : zMd := (⟨"RaysOfShapesModel", "lowBeyond", "(IIII)J"⟩, prog_14_method_20_code, 5, some .long, false, 4, 13)
set_option maxRecDepth 100000 in
theorem zmo_231 : zmOK zmd_231 := ⟨zsub_7 (List.mem_of_getElem? (i := 33) rfl), zsub_1 (List.mem_of_getElem? (i := 12) rfl), zdp_54, rfl, zmh_13, plainFor_of_name zpn_13, (fun h => nomatch h), (fun _ => ⟨zsub_7 (List.mem_of_getElem? (i := 32) rfl), Or.inr (zsub_0 (List.mem_of_getElem? (i := 58) rfl))⟩)⟩
noncomputable abbrev zmd_232 : zMd := (⟨"RaysOfShapesModel", "highBeyond", "(IIII)J"⟩, prog_14_method_21_code, 5, some .long, false, 4, 13)
set_option maxRecDepth 100000 in
theorem zmo_232 : zmOK zmd_232 := ⟨zsub_7 (List.mem_of_getElem? (i := 37) rfl), zsub_1 (List.mem_of_getElem? (i := 12) rfl), zdp_54, rfl, zmh_13, plainFor_of_name zpn_13, (fun h => nomatch h), (fun _ => ⟨zsub_7 (List.mem_of_getElem? (i := 36) rfl), Or.inr (zsub_0 (List.mem_of_getElem? (i := 59) rfl))⟩)⟩
noncomputable abbrev zmd_233 : zMd := (⟨"RaysOfShapesModel", "lesser", "(JJJ)J"⟩, prog_14_method_22_code, 6, some .long, true, 3, 13)
set_option maxRecDepth 100000 in
theorem zmo_233 : zmOK zmd_233 := ⟨zsub_7 (List.mem_of_getElem? (i := 40) rfl), zsub_1 (List.mem_of_getElem? (i := 12) rfl), zdp_67, rfl, zmh_13, plainFor_of_name zpn_13, (fun _ => zsub_7 (List.mem_of_getElem? (i := 39) rfl)), (fun h => nomatch h)⟩
noncomputable abbrev zmd_234 : zMd := (⟨"RaysOfShapesModel", "boundPair", "(IIIIIIII)V"⟩, prog_14_method_23_code, 15, none, false, 8, 13)
set_option maxRecDepth 100000 in
theorem zmo_234 : zmOK zmd_234 := ⟨zsub_7 (List.mem_of_getElem? (i := 44) rfl), zsub_1 (List.mem_of_getElem? (i := 12) rfl), zdp_66, rfl, zmh_13, plainFor_of_name zpn_13, (fun h => nomatch h), (fun _ => ⟨zsub_7 (List.mem_of_getElem? (i := 43) rfl), Or.inr (zsub_0 (List.mem_of_getElem? (i := 60) rfl))⟩)⟩
noncomputable abbrev zmd_235 : zMd := (⟨"RaysOfShapesModel", "isWithin", "(III)Z"⟩, prog_14_method_24_code, 3, some .boolean, true, 3, 13)
set_option maxRecDepth 100000 in
theorem zmo_235 : zmOK zmd_235 := ⟨zsub_7 (List.mem_of_getElem? (i := 54) rfl), zsub_1 (List.mem_of_getElem? (i := 12) rfl), zdp_43, rfl, zmh_13, plainFor_of_name zpn_13, (fun _ => zsub_7 (List.mem_of_getElem? (i := 53) rfl)), (fun h => nomatch h)⟩
noncomputable abbrev zmd_236 : zMd := (⟨"RaysOfShapesModel", "repeatFrom", "(III)I"⟩, prog_14_method_25_code, 3, some .int, true, 3, 13)
set_option maxRecDepth 100000 in
theorem zmo_236 : zmOK zmd_236 := ⟨zsub_7 (List.mem_of_getElem? (i := 51) rfl), zsub_1 (List.mem_of_getElem? (i := 12) rfl), zdp_44, rfl, zmh_13, plainFor_of_name zpn_13, (fun _ => zsub_7 (List.mem_of_getElem? (i := 50) rfl)), (fun h => nomatch h)⟩
noncomputable abbrev zmd_237 : zMd := (⟨"RaysOfShapesModel", "repeatTo", "(III)I"⟩, prog_14_method_26_code, 3, some .int, true, 3, 13)
set_option maxRecDepth 100000 in
theorem zmo_237 : zmOK zmd_237 := ⟨zsub_7 (List.mem_of_getElem? (i := 57) rfl), zsub_1 (List.mem_of_getElem? (i := 12) rfl), zdp_44, rfl, zmh_13, plainFor_of_name zpn_13, (fun _ => zsub_7 (List.mem_of_getElem? (i := 56) rfl)), (fun h => nomatch h)⟩
noncomputable abbrev zmd_238 : zMd := (⟨"RaysOfShapesModel", "mirrorFrom", "(III)I"⟩, prog_14_method_27_code, 3, some .int, true, 3, 13)
set_option maxRecDepth 100000 in
theorem zmo_238 : zmOK zmd_238 := ⟨zsub_7 (List.mem_of_getElem? (i := 60) rfl), zsub_1 (List.mem_of_getElem? (i := 12) rfl), zdp_44, rfl, zmh_13, plainFor_of_name zpn_13, (fun _ => zsub_7 (List.mem_of_getElem? (i := 59) rfl)), (fun h => nomatch h)⟩
noncomputable abbrev zmd_239 : zMd := (⟨"RaysOfShapesModel", "mirrorTo", "(III)I"⟩, prog_14_method_28_code, 3, some .int, true, 3, 13)
set_option maxRecDepth 100000 in
theorem zmo_239 : zmOK zmd_239 := ⟨zsub_7 (List.mem_of_getElem? (i := 64) rfl), zsub_1 (List.mem_of_getElem? (i := 12) rfl), zdp_44, rfl, zmh_13, plainFor_of_name zpn_13, (fun _ => zsub_7 (List.mem_of_getElem? (i := 63) rfl)), (fun h => nomatch h)⟩
noncomputable abbrev zmd_240 : zMd := (⟨"RaysOfShapesModel", "boundChange", "(IIIIIIII)V"⟩, prog_14_method_29_code, 13, none, false, 8, 13)
set_option maxRecDepth 100000 in
theorem zmo_240 : zmOK zmd_240 := ⟨zsub_7 (List.mem_of_getElem? (i := 48) rfl), zsub_1 (List.mem_of_getElem? (i := 12) rfl), zdp_66, rfl, zmh_13, plainFor_of_name zpn_13, (fun h => nomatch h), (fun _ => ⟨zsub_7 (List.mem_of_getElem? (i := 47) rfl), Or.inr (zsub_0 (List.mem_of_getElem? (i := 61) rfl))⟩)⟩
noncomputable abbrev zmd_241 : zMd := (⟨"RaysOfShapesModel", "boundTurn", "(IIIIIIIIII)V"⟩, prog_14_method_30_code, 15, none, false, 10, 13)
set_option maxRecDepth 100000 in
theorem zmo_241 : zmOK zmd_241 := ⟨zsub_7 (List.mem_of_getElem? (i := 68) rfl), zsub_1 (List.mem_of_getElem? (i := 12) rfl), zdp_68, rfl, zmh_13, plainFor_of_name zpn_13, (fun h => nomatch h), (fun _ => ⟨zsub_7 (List.mem_of_getElem? (i := 67) rfl), Or.inr (zsub_0 (List.mem_of_getElem? (i := 62) rfl))⟩)⟩
noncomputable abbrev zmd_242 : zMd := (⟨"RaysOfShapesModel", "boundGrown", "(II)V"⟩, prog_14_method_31_code, 7, none, false, 2, 13)
set_option maxRecDepth 100000 in
theorem zmo_242 : zmOK zmd_242 := ⟨zsub_7 (List.mem_of_getElem? (i := 72) rfl), zsub_1 (List.mem_of_getElem? (i := 12) rfl), zdp_13, rfl, zmh_13, plainFor_of_name zpn_13, (fun h => nomatch h), (fun _ => ⟨zsub_7 (List.mem_of_getElem? (i := 71) rfl), Or.inr (zsub_0 (List.mem_of_getElem? (i := 63) rfl))⟩)⟩
noncomputable abbrev zmd_243 : zMd := (⟨"RaysOfShapesModel", "xOf", "(I)I"⟩, prog_14_method_32_code, 1, some .int, true, 1, 13)
set_option maxRecDepth 100000 in
theorem zmo_243 : zmOK zmd_243 := ⟨zsub_7 (List.mem_of_getElem? (i := 12) rfl), zsub_1 (List.mem_of_getElem? (i := 12) rfl), zdp_4, rfl, zmh_13, plainFor_of_name zpn_13, (fun _ => zsub_7 (List.mem_of_getElem? (i := 11) rfl)), (fun h => nomatch h)⟩
noncomputable abbrev zmd_244 : zMd := (⟨"RaysOfShapesModel", "yOf", "(I)I"⟩, prog_14_method_33_code, 1, some .int, true, 1, 13)
set_option maxRecDepth 100000 in
theorem zmo_244 : zmOK zmd_244 := ⟨zsub_7 (List.mem_of_getElem? (i := 15) rfl), zsub_1 (List.mem_of_getElem? (i := 12) rfl), zdp_4, rfl, zmh_13, plainFor_of_name zpn_13, (fun _ => zsub_7 (List.mem_of_getElem? (i := 14) rfl)), (fun h => nomatch h)⟩
noncomputable abbrev zmd_245 : zMd := (⟨"RaysOfShapesModel", "zOf", "(I)I"⟩, prog_14_method_34_code, 1, some .int, true, 1, 13)
set_option maxRecDepth 100000 in
theorem zmo_245 : zmOK zmd_245 := ⟨zsub_7 (List.mem_of_getElem? (i := 18) rfl), zsub_1 (List.mem_of_getElem? (i := 12) rfl), zdp_4, rfl, zmh_13, plainFor_of_name zpn_13, (fun _ => zsub_7 (List.mem_of_getElem? (i := 17) rfl)), (fun h => nomatch h)⟩
noncomputable abbrev zmd_246 : zMd := (⟨"RaysOfShapesModel", "isPlace", "(I)Z"⟩, prog_14_method_35_code, 1, some .boolean, true, 1, 13)
set_option maxRecDepth 100000 in
theorem zmo_246 : zmOK zmd_246 := ⟨zsub_7 (List.mem_of_getElem? (i := 8) rfl), zsub_1 (List.mem_of_getElem? (i := 12) rfl), zdp_16, rfl, zmh_13, plainFor_of_name zpn_13, (fun _ => zsub_7 (List.mem_of_getElem? (i := 7) rfl)), (fun h => nomatch h)⟩
noncomputable abbrev zmd_247 : zMd := (⟨"RaysOfShapesModel", "bounds", "(IIII)J"⟩, prog_14_method_36_code, 5, some .long, false, 4, 13)
set_option maxRecDepth 100000 in
theorem zmo_247 : zmOK zmd_247 := ⟨zsub_7 (List.mem_of_getElem? (i := 5) rfl), zsub_1 (List.mem_of_getElem? (i := 12) rfl), zdp_54, rfl, zmh_13, plainFor_of_name zpn_13, (fun h => nomatch h), (fun _ => ⟨zsub_7 (List.mem_of_getElem? (i := 3) rfl), Or.inr (zsub_7 (List.mem_of_getElem? (i := 4) rfl))⟩)⟩
noncomputable abbrev zmd_248 : zMd := (⟨"RaysOfShapesModel", "isInside", "(II)Z"⟩, prog_14_method_37_code, 3, some .boolean, false, 2, 13)
set_option maxRecDepth 100000 in
theorem zmo_248 : zmOK zmd_248 := ⟨zsub_7 (List.mem_of_getElem? (i := 80) rfl), zsub_1 (List.mem_of_getElem? (i := 12) rfl), zdp_15, rfl, zmh_13, plainFor_of_name zpn_13, (fun h => nomatch h), (fun _ => ⟨zsub_7 (List.mem_of_getElem? (i := 79) rfl), Or.inr (zsub_0 (List.mem_of_getElem? (i := 64) rfl))⟩)⟩
noncomputable abbrev zmd_249 : zMd := (⟨"RaysOfShapesModel", "fills", "(II)I"⟩, prog_14_method_38_code, 5, some .int, false, 2, 13)
set_option maxRecDepth 100000 in
theorem zmo_249 : zmOK zmd_249 := ⟨zsub_7 (List.mem_of_getElem? (i := 88) rfl), zsub_1 (List.mem_of_getElem? (i := 12) rfl), zdp_30, rfl, zmh_13, plainFor_of_name zpn_13, (fun h => nomatch h), (fun _ => ⟨zsub_7 (List.mem_of_getElem? (i := 87) rfl), Or.inr (zsub_0 (List.mem_of_getElem? (i := 65) rfl))⟩)⟩
noncomputable abbrev zmd_250 : zMd := (⟨"RaysOfShapesModel", "in", "(II)I"⟩, prog_14_method_39_code, 3, some .int, false, 2, 13)
set_option maxRecDepth 100000 in
theorem zmo_250 : zmOK zmd_250 := ⟨zsub_7 (List.mem_of_getElem? (i := 76) rfl), zsub_1 (List.mem_of_getElem? (i := 12) rfl), zdp_30, rfl, zmh_13, plainFor_of_name zpn_13, (fun h => nomatch h), (fun _ => ⟨zsub_7 (List.mem_of_getElem? (i := 74) rfl), Or.inr (zsub_7 (List.mem_of_getElem? (i := 75) rfl))⟩)⟩
noncomputable abbrev zmd_251 : zMd := (⟨"RaysOfShapesModel", "looked", "(IIIII)I"⟩, prog_14_method_40_code, 9, some .int, false, 5, 13)
set_option maxRecDepth 100000 in
theorem zmo_251 : zmOK zmd_251 := ⟨zsub_7 (List.mem_of_getElem? (i := 92) rfl), zsub_1 (List.mem_of_getElem? (i := 12) rfl), zdp_50, rfl, zmh_13, plainFor_of_name zpn_13, (fun h => nomatch h), (fun _ => ⟨zsub_7 (List.mem_of_getElem? (i := 91) rfl), Or.inr (zsub_0 (List.mem_of_getElem? (i := 66) rfl))⟩)⟩
noncomputable abbrev zmd_252 : zMd := (⟨"RaysOfShapesModel", "count", "(II)I"⟩, prog_14_method_41_code, 3, some .int, false, 2, 13)
set_option maxRecDepth 100000 in
theorem zmo_252 : zmOK zmd_252 := ⟨zsub_7 (List.mem_of_getElem? (i := 84) rfl), zsub_1 (List.mem_of_getElem? (i := 12) rfl), zdp_30, rfl, zmh_13, plainFor_of_name zpn_13, (fun h => nomatch h), (fun _ => ⟨zsub_7 (List.mem_of_getElem? (i := 82) rfl), Or.inr (zsub_7 (List.mem_of_getElem? (i := 83) rfl))⟩)⟩
noncomputable abbrev zmd_253 : zMd := (⟨"RaysOfShapesModel", "placeOf", "(II)I"⟩, prog_14_method_42_code, 5, some .int, false, 2, 13)
set_option maxRecDepth 100000 in
theorem zmo_253 : zmOK zmd_253 := ⟨zsub_7 (List.mem_of_getElem? (i := 96) rfl), zsub_1 (List.mem_of_getElem? (i := 12) rfl), zdp_30, rfl, zmh_13, plainFor_of_name zpn_13, (fun h => nomatch h), (fun _ => ⟨zsub_7 (List.mem_of_getElem? (i := 94) rfl), Or.inr (zsub_7 (List.mem_of_getElem? (i := 95) rfl))⟩)⟩
noncomputable abbrev zmd_254 : zMd := (⟨"RaysOfShapesModel", "axisOf", "(II)I"⟩, prog_14_method_43_code, 2, some .int, true, 2, 13)
set_option maxRecDepth 100000 in
theorem zmo_254 : zmOK zmd_254 := ⟨zsub_7 (List.mem_of_getElem? (i := 105) rfl), zsub_1 (List.mem_of_getElem? (i := 12) rfl), zdp_30, rfl, zmh_13, plainFor_of_name zpn_13, (fun _ => zsub_7 (List.mem_of_getElem? (i := 104) rfl)), (fun h => nomatch h)⟩
noncomputable abbrev zmd_255 : zMd := (⟨"RaysOfShapesModel", "slice", "(III)I"⟩, prog_14_method_44_code, 6, some .int, false, 3, 13)
set_option maxRecDepth 100000 in
theorem zmo_255 : zmOK zmd_255 := ⟨zsub_7 (List.mem_of_getElem? (i := 100) rfl), zsub_1 (List.mem_of_getElem? (i := 12) rfl), zdp_44, rfl, zmh_13, plainFor_of_name zpn_13, (fun h => nomatch h), (fun _ => ⟨zsub_7 (List.mem_of_getElem? (i := 98) rfl), Or.inr (zsub_7 (List.mem_of_getElem? (i := 99) rfl))⟩)⟩
noncomputable abbrev zmd_256 : zMd := (⟨"RaysOfShapesModel", "reach", "(III)I"⟩, prog_14_method_45_code, 7, some .int, false, 3, 13)
set_option maxRecDepth 100000 in
theorem zmo_256 : zmOK zmd_256 := ⟨zsub_7 (List.mem_of_getElem? (i := 109) rfl), zsub_1 (List.mem_of_getElem? (i := 12) rfl), zdp_44, rfl, zmh_13, plainFor_of_name zpn_13, (fun h => nomatch h), (fun _ => ⟨zsub_7 (List.mem_of_getElem? (i := 107) rfl), Or.inr (zsub_7 (List.mem_of_getElem? (i := 108) rfl))⟩)⟩
noncomputable abbrev zmd_257 : zMd := (⟨"RaysOfShapesModel", "ray", "(IIIIII)I"⟩, prog_14_method_46_code, 16, some .int, false, 6, 13)
set_option maxRecDepth 100000 in
theorem zmo_257 : zmOK zmd_257 := ⟨zsub_7 (List.mem_of_getElem? (i := 113) rfl), zsub_1 (List.mem_of_getElem? (i := 12) rfl), zdp_52, rfl, zmh_13, plainFor_of_name zpn_13, (fun h => nomatch h), (fun _ => ⟨zsub_7 (List.mem_of_getElem? (i := 111) rfl), Or.inr (zsub_7 (List.mem_of_getElem? (i := 112) rfl))⟩)⟩
noncomputable abbrev zmd_258 : zMd := (⟨"RaysOfShapesModel", "neighbour", "(II)I"⟩, prog_14_method_47_code, 4, some .int, true, 2, 13)
set_option maxRecDepth 100000 in
theorem zmo_258 : zmOK zmd_258 := ⟨zsub_7 (List.mem_of_getElem? (i := 126) rfl), zsub_1 (List.mem_of_getElem? (i := 12) rfl), zdp_30, rfl, zmh_13, plainFor_of_name zpn_13, (fun _ => zsub_7 (List.mem_of_getElem? (i := 125) rfl)), (fun h => nomatch h)⟩
noncomputable abbrev zmd_259 : zMd := (⟨"RaysOfShapesModel", "skinOf", "(I)I"⟩, prog_14_method_48_code, 7, some .int, false, 1, 13)
set_option maxRecDepth 100000 in
theorem zmo_259 : zmOK zmd_259 := ⟨zsub_7 (List.mem_of_getElem? (i := 123) rfl), zsub_1 (List.mem_of_getElem? (i := 12) rfl), zdp_4, rfl, zmh_13, plainFor_of_name zpn_13, (fun h => nomatch h), (fun _ => ⟨zsub_7 (List.mem_of_getElem? (i := 122) rfl), Or.inr (zsub_0 (List.mem_of_getElem? (i := 67) rfl))⟩)⟩
noncomputable abbrev zmd_260 : zMd := (⟨"RaysOfShapesModel", "piece", "(II)I"⟩, prog_14_method_49_code, 7, some .int, false, 2, 13)
set_option maxRecDepth 100000 in
theorem zmo_260 : zmOK zmd_260 := ⟨zsub_7 (List.mem_of_getElem? (i := 138) rfl), zsub_1 (List.mem_of_getElem? (i := 12) rfl), zdp_30, rfl, zmh_13, plainFor_of_name zpn_13, (fun h => nomatch h), (fun _ => ⟨zsub_7 (List.mem_of_getElem? (i := 137) rfl), Or.inr (zsub_0 (List.mem_of_getElem? (i := 69) rfl))⟩)⟩
noncomputable abbrev zmd_261 : zMd := (⟨"RaysOfShapesModel", "piecesOf", "(II)I"⟩, prog_14_method_50_code, 8, some .int, false, 2, 13)
set_option maxRecDepth 100000 in
theorem zmo_261 : zmOK zmd_261 := ⟨zsub_7 (List.mem_of_getElem? (i := 134) rfl), zsub_1 (List.mem_of_getElem? (i := 12) rfl), zdp_30, rfl, zmh_13, plainFor_of_name zpn_13, (fun h => nomatch h), (fun _ => ⟨zsub_7 (List.mem_of_getElem? (i := 133) rfl), Or.inr (zsub_0 (List.mem_of_getElem? (i := 68) rfl))⟩)⟩
noncomputable abbrev zmd_262 : zMd := (⟨"RaysOfShapesModel", "skin", "(I)I"⟩, prog_14_method_51_code, 3, some .int, false, 1, 13)
set_option maxRecDepth 100000 in
theorem zmo_262 : zmOK zmd_262 := ⟨zsub_7 (List.mem_of_getElem? (i := 119) rfl), zsub_1 (List.mem_of_getElem? (i := 12) rfl), zdp_4, rfl, zmh_13, plainFor_of_name zpn_13, (fun h => nomatch h), (fun _ => ⟨zsub_7 (List.mem_of_getElem? (i := 117) rfl), Or.inr (zsub_7 (List.mem_of_getElem? (i := 118) rfl))⟩)⟩
noncomputable abbrev zmd_263 : zMd := (⟨"RaysOfShapesModel", "pieces", "(II)I"⟩, prog_14_method_52_code, 4, some .int, false, 2, 13)
set_option maxRecDepth 100000 in
theorem zmo_263 : zmOK zmd_263 := ⟨zsub_7 (List.mem_of_getElem? (i := 130) rfl), zsub_1 (List.mem_of_getElem? (i := 12) rfl), zdp_30, rfl, zmh_13, plainFor_of_name zpn_13, (fun h => nomatch h), (fun _ => ⟨zsub_7 (List.mem_of_getElem? (i := 128) rfl), Or.inr (zsub_7 (List.mem_of_getElem? (i := 129) rfl))⟩)⟩
noncomputable abbrev zmd_264 : zMd := (⟨"RaysOfShapesModel", "fillsBoth", "(II)I"⟩, prog_14_method_53_code, 7, some .int, false, 2, 13)
set_option maxRecDepth 100000 in
theorem zmo_264 : zmOK zmd_264 := ⟨zsub_7 (List.mem_of_getElem? (i := 146) rfl), zsub_1 (List.mem_of_getElem? (i := 12) rfl), zdp_30, rfl, zmh_13, plainFor_of_name zpn_13, (fun h => nomatch h), (fun _ => ⟨zsub_7 (List.mem_of_getElem? (i := 145) rfl), Or.inr (zsub_0 (List.mem_of_getElem? (i := 70) rfl))⟩)⟩
noncomputable abbrev zmd_265 : zMd := (⟨"RaysOfShapesModel", "both", "(II)I"⟩, prog_14_method_54_code, 3, some .int, false, 2, 13)
set_option maxRecDepth 100000 in
theorem zmo_265 : zmOK zmd_265 := ⟨zsub_7 (List.mem_of_getElem? (i := 142) rfl), zsub_1 (List.mem_of_getElem? (i := 12) rfl), zdp_30, rfl, zmh_13, plainFor_of_name zpn_13, (fun h => nomatch h), (fun _ => ⟨zsub_7 (List.mem_of_getElem? (i := 140) rfl), Or.inr (zsub_7 (List.mem_of_getElem? (i := 141) rfl))⟩)⟩
noncomputable abbrev zmd_266 : zMd := (⟨"RaysOfShapesModel", "differ", "(II)I"⟩, prog_14_method_55_code, 4, some .int, false, 2, 13)
set_option maxRecDepth 100000 in
theorem zmo_266 : zmOK zmd_266 := ⟨zsub_7 (List.mem_of_getElem? (i := 150) rfl), zsub_1 (List.mem_of_getElem? (i := 12) rfl), zdp_30, rfl, zmh_13, plainFor_of_name zpn_13, (fun h => nomatch h), (fun _ => ⟨zsub_7 (List.mem_of_getElem? (i := 148) rfl), Or.inr (zsub_7 (List.mem_of_getElem? (i := 149) rfl))⟩)⟩
noncomputable abbrev zmd_267 : zMd := (⟨"RaysOfShapesModel", "turned", "(II)I"⟩, prog_14_method_56_code, 3, some .int, true, 2, 13)
set_option maxRecDepth 100000 in
theorem zmo_267 : zmOK zmd_267 := ⟨zsub_7 (List.mem_of_getElem? (i := 157) rfl), zsub_1 (List.mem_of_getElem? (i := 12) rfl), zdp_30, rfl, zmh_13, plainFor_of_name zpn_13, (fun _ => zsub_7 (List.mem_of_getElem? (i := 156) rfl)), (fun h => nomatch h)⟩
noncomputable abbrev zmd_268 : zMd := (⟨"RaysOfShapesModel", "even", "(II)I"⟩, prog_14_method_57_code, 5, some .int, false, 2, 13)
set_option maxRecDepth 100000 in
theorem zmo_268 : zmOK zmd_268 := ⟨zsub_7 (List.mem_of_getElem? (i := 154) rfl), zsub_1 (List.mem_of_getElem? (i := 12) rfl), zdp_30, rfl, zmh_13, plainFor_of_name zpn_13, (fun h => nomatch h), (fun _ => ⟨zsub_7 (List.mem_of_getElem? (i := 152) rfl), Or.inr (zsub_7 (List.mem_of_getElem? (i := 153) rfl))⟩)⟩
noncomputable abbrev zmd_269 : zMd := (⟨"RaysOfShapesModel", "meets", "(II)Z"⟩, prog_14_method_58_code, 5, some .boolean, false, 2, 13)
set_option maxRecDepth 100000 in
theorem zmo_269 : zmOK zmd_269 := ⟨zsub_7 (List.mem_of_getElem? (i := 165) rfl), zsub_1 (List.mem_of_getElem? (i := 12) rfl), zdp_15, rfl, zmh_13, plainFor_of_name zpn_13, (fun h => nomatch h), (fun _ => ⟨zsub_7 (List.mem_of_getElem? (i := 164) rfl), Or.inr (zsub_0 (List.mem_of_getElem? (i := 71) rfl))⟩)⟩
noncomputable abbrev zmd_270 : zMd := (⟨"RaysOfShapesModel", "apart", "(III)I"⟩, prog_14_method_59_code, 6, some .int, false, 3, 13)
set_option maxRecDepth 100000 in
theorem zmo_270 : zmOK zmd_270 := ⟨zsub_7 (List.mem_of_getElem? (i := 161) rfl), zsub_1 (List.mem_of_getElem? (i := 12) rfl), zdp_44, rfl, zmh_13, plainFor_of_name zpn_13, (fun h => nomatch h), (fun _ => ⟨zsub_7 (List.mem_of_getElem? (i := 159) rfl), Or.inr (zsub_7 (List.mem_of_getElem? (i := 160) rfl))⟩)⟩
noncomputable abbrev zmd_271 : zMd := (⟨"RaysOfShapesModel", "blendsOver", "(II)I"⟩, prog_14_method_60_code, 3, some .int, false, 2, 13)
set_option maxRecDepth 100000 in
theorem zmo_271 : zmOK zmd_271 := ⟨zsub_7 (List.mem_of_getElem? (i := 179) rfl), zsub_1 (List.mem_of_getElem? (i := 12) rfl), zdp_30, rfl, zmh_13, plainFor_of_name zpn_13, (fun h => nomatch h), (fun _ => ⟨zsub_7 (List.mem_of_getElem? (i := 178) rfl), Or.inr (zsub_0 (List.mem_of_getElem? (i := 73) rfl))⟩)⟩
noncomputable abbrev zmd_272 : zMd := (⟨"RaysOfShapesModel", "deepOver", "(II)I"⟩, prog_14_method_61_code, 3, some .int, false, 2, 13)
set_option maxRecDepth 100000 in
theorem zmo_272 : zmOK zmd_272 := ⟨zsub_7 (List.mem_of_getElem? (i := 175) rfl), zsub_1 (List.mem_of_getElem? (i := 12) rfl), zdp_30, rfl, zmh_13, plainFor_of_name zpn_13, (fun h => nomatch h), (fun _ => ⟨zsub_7 (List.mem_of_getElem? (i := 174) rfl), Or.inr (zsub_0 (List.mem_of_getElem? (i := 72) rfl))⟩)⟩
noncomputable abbrev zmd_273 : zMd := (⟨"RaysOfShapesModel", "enough", "(IIII)I"⟩, prog_14_method_62_code, 12, some .int, false, 4, 13)
set_option maxRecDepth 100000 in
theorem zmo_273 : zmOK zmd_273 := ⟨zsub_7 (List.mem_of_getElem? (i := 169) rfl), zsub_1 (List.mem_of_getElem? (i := 12) rfl), zdp_51, rfl, zmh_13, plainFor_of_name zpn_13, (fun h => nomatch h), (fun _ => ⟨zsub_7 (List.mem_of_getElem? (i := 167) rfl), Or.inr (zsub_7 (List.mem_of_getElem? (i := 168) rfl))⟩)⟩
noncomputable abbrev zmd_274 : zMd := (⟨"RaysOfShapesModel", "isNumber", "(IIII)Z"⟩, prog_14_method_63_code, 4, some .boolean, true, 4, 13)
set_option maxRecDepth 100000 in
theorem zmo_274 : zmOK zmd_274 := ⟨zsub_7 (List.mem_of_getElem? (i := 204) rfl), zsub_1 (List.mem_of_getElem? (i := 12) rfl), zdp_57, rfl, zmh_13, plainFor_of_name zpn_13, (fun _ => zsub_7 (List.mem_of_getElem? (i := 203) rfl)), (fun h => nomatch h)⟩
noncomputable abbrev zmd_275 : zMd := (⟨"RaysOfShapesModel", "aheadOf", "([III)I"⟩, prog_14_method_64_code, 3, some .int, true, 3, 13)
set_option maxRecDepth 100000 in
theorem zmo_275 : zmOK zmd_275 := ⟨zsub_7 (List.mem_of_getElem? (i := 201) rfl), zsub_1 (List.mem_of_getElem? (i := 12) rfl), zdp_69, rfl, zmh_13, plainFor_of_name zpn_13, (fun _ => zsub_7 (List.mem_of_getElem? (i := 200) rfl)), (fun h => nomatch h)⟩
noncomputable abbrev zmd_276 : zMd := (⟨"RaysOfShapesModel", "numbersOf", "(I)I"⟩, prog_14_method_65_code, 1, some .int, true, 1, 13)
set_option maxRecDepth 100000 in
theorem zmo_276 : zmOK zmd_276 := ⟨zsub_7 (List.mem_of_getElem? (i := 198) rfl), zsub_1 (List.mem_of_getElem? (i := 12) rfl), zdp_4, rfl, zmh_13, plainFor_of_name zpn_13, (fun _ => zsub_7 (List.mem_of_getElem? (i := 197) rfl)), (fun h => nomatch h)⟩
noncomputable abbrev zmd_277 : zMd := (⟨"RaysOfShapesModel", "areNumbers", "(I)Z"⟩, prog_14_method_66_code, 3, some .boolean, false, 1, 13)
set_option maxRecDepth 100000 in
theorem zmo_277 : zmOK zmd_277 := ⟨zsub_7 (List.mem_of_getElem? (i := 195) rfl), zsub_1 (List.mem_of_getElem? (i := 12) rfl), zdp_16, rfl, zmh_13, plainFor_of_name zpn_13, (fun h => nomatch h), (fun _ => ⟨zsub_7 (List.mem_of_getElem? (i := 194) rfl), Or.inr (zsub_0 (List.mem_of_getElem? (i := 76) rfl))⟩)⟩
noncomputable abbrev zmd_278 : zMd := (⟨"RaysOfShapesModel", "deepBy", "(III)I"⟩, prog_14_method_67_code, 4, some .int, false, 3, 13)
set_option maxRecDepth 100000 in
theorem zmo_278 : zmOK zmd_278 := ⟨zsub_7 (List.mem_of_getElem? (i := 219) rfl), zsub_1 (List.mem_of_getElem? (i := 12) rfl), zdp_44, rfl, zmh_13, plainFor_of_name zpn_13, (fun h => nomatch h), (fun _ => ⟨zsub_7 (List.mem_of_getElem? (i := 218) rfl), Or.inr (zsub_0 (List.mem_of_getElem? (i := 78) rfl))⟩)⟩
noncomputable abbrev zmd_279 : zMd := (⟨"RaysOfShapesModel", "blendsBy", "(III)I"⟩, prog_14_method_68_code, 5, some .int, false, 3, 13)
set_option maxRecDepth 100000 in
theorem zmo_279 : zmOK zmd_279 := ⟨zsub_7 (List.mem_of_getElem? (i := 223) rfl), zsub_1 (List.mem_of_getElem? (i := 12) rfl), zdp_44, rfl, zmh_13, plainFor_of_name zpn_13, (fun h => nomatch h), (fun _ => ⟨zsub_7 (List.mem_of_getElem? (i := 222) rfl), Or.inr (zsub_0 (List.mem_of_getElem? (i := 79) rfl))⟩)⟩
noncomputable abbrev zmd_280 : zMd := (⟨"RaysOfShapesModel", "isTooDeep", "(III)Z"⟩, prog_14_method_69_code, 4, some .boolean, false, 3, 13)
set_option maxRecDepth 100000 in
theorem zmo_280 : zmOK zmd_280 := ⟨zsub_7 (List.mem_of_getElem? (i := 215) rfl), zsub_1 (List.mem_of_getElem? (i := 12) rfl), zdp_43, rfl, zmh_13, plainFor_of_name zpn_13, (fun h => nomatch h), (fun _ => ⟨zsub_7 (List.mem_of_getElem? (i := 214) rfl), Or.inr (zsub_0 (List.mem_of_getElem? (i := 77) rfl))⟩)⟩
noncomputable abbrev zmd_281 : zMd := (⟨"RaysOfShapesModel", "comes", "(IIIII[II)I"⟩, prog_14_method_70_code, 11, some .int, false, 7, 13)
set_option maxRecDepth 100000 in
theorem zmo_281 : zmOK zmd_281 := ⟨zsub_7 (List.mem_of_getElem? (i := 227) rfl), zsub_1 (List.mem_of_getElem? (i := 12) rfl), zdp_70, rfl, zmh_13, plainFor_of_name zpn_13, (fun h => nomatch h), (fun _ => ⟨zsub_7 (List.mem_of_getElem? (i := 226) rfl), Or.inr (zsub_0 (List.mem_of_getElem? (i := 80) rfl))⟩)⟩
noncomputable abbrev zmd_282 : zMd := (⟨"RaysOfShapesModel", "made", "(III)I"⟩, prog_14_method_71_code, 4, some .int, false, 3, 13)
set_option maxRecDepth 100000 in
theorem zmo_282 : zmOK zmd_282 := ⟨zsub_7 (List.mem_of_getElem? (i := 191) rfl), zsub_1 (List.mem_of_getElem? (i := 12) rfl), zdp_44, rfl, zmh_13, plainFor_of_name zpn_13, (fun h => nomatch h), (fun _ => ⟨zsub_7 (List.mem_of_getElem? (i := 190) rfl), Or.inr (zsub_0 (List.mem_of_getElem? (i := 75) rfl))⟩)⟩
noncomputable abbrev zmd_283 : zMd := (⟨"RaysOfShapesModel", "tells", "(IIII)V"⟩, prog_14_method_72_code, 5, none, false, 4, 13)
set_option maxRecDepth 100000 in
theorem zmo_283 : zmOK zmd_283 := ⟨zsub_7 (List.mem_of_getElem? (i := 187) rfl), zsub_1 (List.mem_of_getElem? (i := 12) rfl), zdp_26, rfl, zmh_13, plainFor_of_name zpn_13, (fun h => nomatch h), (fun _ => ⟨zsub_7 (List.mem_of_getElem? (i := 186) rfl), Or.inr (zsub_0 (List.mem_of_getElem? (i := 74) rfl))⟩)⟩
noncomputable abbrev zmd_284 : zMd := (⟨"RaysOfShapesModel", "ball", "(IIII)I"⟩, prog_14_method_73_code, 5, some .int, false, 4, 13)
set_option maxRecDepth 100000 in
theorem zmo_284 : zmOK zmd_284 := ⟨zsub_7 (List.mem_of_getElem? (i := 183) rfl), zsub_1 (List.mem_of_getElem? (i := 12) rfl), zdp_51, rfl, zmh_13, plainFor_of_name zpn_13, (fun h => nomatch h), (fun _ => ⟨zsub_7 (List.mem_of_getElem? (i := 181) rfl), Or.inr (zsub_7 (List.mem_of_getElem? (i := 182) rfl))⟩)⟩
noncomputable abbrev zmd_285 : zMd := (⟨"RaysOfShapesModel", "box", "(IIIIII)I"⟩, prog_14_method_74_code, 7, some .int, false, 6, 13)
set_option maxRecDepth 100000 in
theorem zmo_285 : zmOK zmd_285 := ⟨zsub_7 (List.mem_of_getElem? (i := 231) rfl), zsub_1 (List.mem_of_getElem? (i := 12) rfl), zdp_52, rfl, zmh_13, plainFor_of_name zpn_13, (fun h => nomatch h), (fun _ => ⟨zsub_7 (List.mem_of_getElem? (i := 229) rfl), Or.inr (zsub_7 (List.mem_of_getElem? (i := 230) rfl))⟩)⟩
noncomputable abbrev zmd_286 : zMd := (⟨"RaysOfShapesModel", "half", "(IIII)I"⟩, prog_14_method_75_code, 5, some .int, false, 4, 13)
set_option maxRecDepth 100000 in
theorem zmo_286 : zmOK zmd_286 := ⟨zsub_7 (List.mem_of_getElem? (i := 235) rfl), zsub_1 (List.mem_of_getElem? (i := 12) rfl), zdp_51, rfl, zmh_13, plainFor_of_name zpn_13, (fun h => nomatch h), (fun _ => ⟨zsub_7 (List.mem_of_getElem? (i := 233) rfl), Or.inr (zsub_7 (List.mem_of_getElem? (i := 234) rfl))⟩)⟩
noncomputable abbrev zmd_287 : zMd := (⟨"RaysOfShapesModel", "pair", "(III)I"⟩, prog_14_method_76_code, 4, some .int, false, 3, 13)
set_option maxRecDepth 100000 in
theorem zmo_287 : zmOK zmd_287 := ⟨zsub_7 (List.mem_of_getElem? (i := 239) rfl), zsub_1 (List.mem_of_getElem? (i := 12) rfl), zdp_44, rfl, zmh_13, plainFor_of_name zpn_13, (fun h => nomatch h), (fun _ => ⟨zsub_7 (List.mem_of_getElem? (i := 237) rfl), Or.inr (zsub_7 (List.mem_of_getElem? (i := 238) rfl))⟩)⟩
noncomputable abbrev zmd_288 : zMd := (⟨"RaysOfShapesModel", "blend", "(IIII)I"⟩, prog_14_method_77_code, 5, some .int, false, 4, 13)
set_option maxRecDepth 100000 in
theorem zmo_288 : zmOK zmd_288 := ⟨zsub_8 (List.mem_of_getElem? (i := 5) rfl), zsub_1 (List.mem_of_getElem? (i := 12) rfl), zdp_51, rfl, zmh_13, plainFor_of_name zpn_13, (fun h => nomatch h), (fun _ => ⟨zsub_8 (List.mem_of_getElem? (i := 3) rfl), Or.inr (zsub_8 (List.mem_of_getElem? (i := 4) rfl))⟩)⟩
noncomputable abbrev zmd_289 : zMd := (⟨"RaysOfShapesModel", "shift", "(IIII)I"⟩, prog_14_method_78_code, 5, some .int, false, 4, 13)
set_option maxRecDepth 100000 in
theorem zmo_289 : zmOK zmd_289 := ⟨zsub_8 (List.mem_of_getElem? (i := 9) rfl), zsub_1 (List.mem_of_getElem? (i := 12) rfl), zdp_51, rfl, zmh_13, plainFor_of_name zpn_13, (fun h => nomatch h), (fun _ => ⟨zsub_8 (List.mem_of_getElem? (i := 7) rfl), Or.inr (zsub_8 (List.mem_of_getElem? (i := 8) rfl))⟩)⟩
noncomputable abbrev zmd_290 : zMd := (⟨"RaysOfShapesModel", "change", "(IIII)I"⟩, prog_14_method_79_code, 5, some .int, false, 4, 13)
set_option maxRecDepth 100000 in
theorem zmo_290 : zmOK zmd_290 := ⟨zsub_8 (List.mem_of_getElem? (i := 13) rfl), zsub_1 (List.mem_of_getElem? (i := 12) rfl), zdp_51, rfl, zmh_13, plainFor_of_name zpn_13, (fun h => nomatch h), (fun _ => ⟨zsub_8 (List.mem_of_getElem? (i := 11) rfl), Or.inr (zsub_8 (List.mem_of_getElem? (i := 12) rfl))⟩)⟩
noncomputable abbrev zmd_291 : zMd := (⟨"RaysOfShapesModel", "grown", "(IIII)I"⟩, prog_14_method_80_code, 5, some .int, false, 4, 13)
set_option maxRecDepth 100000 in
theorem zmo_291 : zmOK zmd_291 := ⟨zsub_8 (List.mem_of_getElem? (i := 18) rfl), zsub_1 (List.mem_of_getElem? (i := 12) rfl), zdp_51, rfl, zmh_13, plainFor_of_name zpn_13, (fun h => nomatch h), (fun _ => ⟨zsub_8 (List.mem_of_getElem? (i := 16) rfl), Or.inr (zsub_8 (List.mem_of_getElem? (i := 17) rfl))⟩)⟩
noncomputable abbrev zmd_292 : zMd := (⟨"RaysOfShapesModel", "looseShelves", "()V"⟩, prog_14_method_81_code, 2, none, false, 0, 13)
set_option maxRecDepth 100000 in
theorem zmo_292 : zmOK zmd_292 := ⟨zsub_8 (List.mem_of_getElem? (i := 27) rfl), zsub_1 (List.mem_of_getElem? (i := 12) rfl), zdp_0, rfl, zmh_13, plainFor_of_name zpn_13, (fun h => nomatch h), (fun _ => ⟨zsub_8 (List.mem_of_getElem? (i := 26) rfl), Or.inr (zsub_0 (List.mem_of_getElem? (i := 81) rfl))⟩)⟩
noncomputable abbrev zmd_293 : zMd := (⟨"RaysOfShapesModel", "drop", "()I"⟩, prog_14_method_82_code, 1, some .int, false, 0, 13)
set_option maxRecDepth 100000 in
theorem zmo_293 : zmOK zmd_293 := ⟨zsub_8 (List.mem_of_getElem? (i := 23) rfl), zsub_1 (List.mem_of_getElem? (i := 12) rfl), zdp_2, rfl, zmh_13, plainFor_of_name zpn_13, (fun h => nomatch h), (fun _ => ⟨zsub_8 (List.mem_of_getElem? (i := 21) rfl), Or.inr (zsub_8 (List.mem_of_getElem? (i := 22) rfl))⟩)⟩
noncomputable abbrev zmd_294 : zMd := (⟨"RaysOfShapesModel", "solids", "(I)I"⟩, prog_14_method_83_code, 2, some .int, false, 1, 13)
set_option maxRecDepth 100000 in
theorem zmo_294 : zmOK zmd_294 := ⟨zsub_8 (List.mem_of_getElem? (i := 35) rfl), zsub_1 (List.mem_of_getElem? (i := 12) rfl), zdp_4, rfl, zmh_13, plainFor_of_name zpn_13, (fun h => nomatch h), (fun _ => ⟨zsub_8 (List.mem_of_getElem? (i := 34) rfl), Or.inr (zsub_0 (List.mem_of_getElem? (i := 82) rfl))⟩)⟩
noncomputable abbrev zmd_295 : zMd := (⟨"RaysOfShapesModel", "shapeOf", "(II)I"⟩, prog_14_method_84_code, 3, some .int, false, 2, 13)
set_option maxRecDepth 100000 in
theorem zmo_295 : zmOK zmd_295 := ⟨zsub_8 (List.mem_of_getElem? (i := 31) rfl), zsub_1 (List.mem_of_getElem? (i := 12) rfl), zdp_30, rfl, zmh_13, plainFor_of_name zpn_13, (fun h => nomatch h), (fun _ => ⟨zsub_8 (List.mem_of_getElem? (i := 29) rfl), Or.inr (zsub_8 (List.mem_of_getElem? (i := 30) rfl))⟩)⟩
noncomputable abbrev zmd_296 : zMd := (⟨"RaysOfShapesModel", "feed", "(I)I"⟩, prog_14_method_85_code, 2, some .int, false, 1, 13)
set_option maxRecDepth 100000 in
theorem zmo_296 : zmOK zmd_296 := ⟨zsub_8 (List.mem_of_getElem? (i := 39) rfl), zsub_1 (List.mem_of_getElem? (i := 12) rfl), zdp_4, rfl, zmh_13, plainFor_of_name zpn_13, (fun h => nomatch h), (fun _ => ⟨zsub_8 (List.mem_of_getElem? (i := 37) rfl), Or.inr (zsub_8 (List.mem_of_getElem? (i := 38) rfl))⟩)⟩
noncomputable abbrev zmd_297 : zMd := (⟨"RaysOfShapesModel", "wipe", "()I"⟩, prog_14_method_86_code, 2, some .int, false, 0, 13)
set_option maxRecDepth 100000 in
theorem zmo_297 : zmOK zmd_297 := ⟨zsub_8 (List.mem_of_getElem? (i := 44) rfl), zsub_1 (List.mem_of_getElem? (i := 12) rfl), zdp_2, rfl, zmh_13, plainFor_of_name zpn_13, (fun h => nomatch h), (fun _ => ⟨zsub_8 (List.mem_of_getElem? (i := 42) rfl), Or.inr (zsub_8 (List.mem_of_getElem? (i := 43) rfl))⟩)⟩
noncomputable abbrev zmd_298 : zMd := (⟨"RaysOfShapesModel", "byteAt", "(I)I"⟩, prog_14_method_87_code, 2, some .int, false, 1, 13)
set_option maxRecDepth 100000 in
theorem zmo_298 : zmOK zmd_298 := ⟨zsub_8 (List.mem_of_getElem? (i := 56) rfl), zsub_1 (List.mem_of_getElem? (i := 12) rfl), zdp_4, rfl, zmh_13, plainFor_of_name zpn_13, (fun h => nomatch h), (fun _ => ⟨zsub_8 (List.mem_of_getElem? (i := 55) rfl), Or.inr (zsub_0 (List.mem_of_getElem? (i := 84) rfl))⟩)⟩
noncomputable abbrev zmd_299 : zMd := (⟨"RaysOfShapesModel", "wordOf", "(II)I"⟩, prog_14_method_88_code, 6, some .int, false, 2, 13)
set_option maxRecDepth 100000 in
theorem zmo_299 : zmOK zmd_299 := ⟨zsub_8 (List.mem_of_getElem? (i := 62) rfl), zsub_1 (List.mem_of_getElem? (i := 12) rfl), zdp_30, rfl, zmh_13, plainFor_of_name zpn_13, (fun h => nomatch h), (fun _ => ⟨zsub_8 (List.mem_of_getElem? (i := 61) rfl), Or.inr (zsub_0 (List.mem_of_getElem? (i := 85) rfl))⟩)⟩
noncomputable abbrev zmd_300 : zMd := (⟨"RaysOfShapesModel", "next", "()V"⟩, prog_14_method_89_code, 2, none, false, 0, 13)
set_option maxRecDepth 100000 in
theorem zmo_300 : zmOK zmd_300 := ⟨zsub_8 (List.mem_of_getElem? (i := 52) rfl), zsub_1 (List.mem_of_getElem? (i := 12) rfl), zdp_0, rfl, zmh_13, plainFor_of_name zpn_13, (fun h => nomatch h), (fun _ => ⟨zsub_8 (List.mem_of_getElem? (i := 51) rfl), Or.inr (zsub_0 (List.mem_of_getElem? (i := 83) rfl))⟩)⟩
noncomputable abbrev zmd_301 : zMd := (⟨"RaysOfShapesModel", "isSign", "(I)Z"⟩, prog_14_method_90_code, 2, some .boolean, false, 1, 13)
set_option maxRecDepth 100000 in
theorem zmo_301 : zmOK zmd_301 := ⟨zsub_8 (List.mem_of_getElem? (i := 82) rfl), zsub_1 (List.mem_of_getElem? (i := 12) rfl), zdp_16, rfl, zmh_13, plainFor_of_name zpn_13, (fun h => nomatch h), (fun _ => ⟨zsub_8 (List.mem_of_getElem? (i := 81) rfl), Or.inr (zsub_0 (List.mem_of_getElem? (i := 88) rfl))⟩)⟩
noncomputable abbrev zmd_302 : zMd := (⟨"RaysOfShapesModel", "isBelow", "(II)Z"⟩, prog_14_method_91_code, 2, some .boolean, true, 2, 13)
set_option maxRecDepth 100000 in
theorem zmo_302 : zmOK zmd_302 := ⟨zsub_8 (List.mem_of_getElem? (i := 78) rfl), zsub_1 (List.mem_of_getElem? (i := 12) rfl), zdp_15, rfl, zmh_13, plainFor_of_name zpn_13, (fun _ => zsub_8 (List.mem_of_getElem? (i := 77) rfl)), (fun h => nomatch h)⟩
noncomputable abbrev zmd_303 : zMd := (⟨"RaysOfShapesModel", "areRead", "(II)Z"⟩, prog_14_method_92_code, 7, some .boolean, false, 2, 13)
set_option maxRecDepth 100000 in
theorem zmo_303 : zmOK zmd_303 := ⟨zsub_8 (List.mem_of_getElem? (i := 75) rfl), zsub_1 (List.mem_of_getElem? (i := 12) rfl), zdp_15, rfl, zmh_13, plainFor_of_name zpn_13, (fun h => nomatch h), (fun _ => ⟨zsub_8 (List.mem_of_getElem? (i := 74) rfl), Or.inr (zsub_0 (List.mem_of_getElem? (i := 87) rfl))⟩)⟩
noncomputable abbrev zmd_304 : zMd := (⟨"RaysOfShapesModel", "shapeRead", "(I)I"⟩, prog_14_method_93_code, 11, some .int, false, 1, 13)
set_option maxRecDepth 100000 in
theorem zmo_304 : zmOK zmd_304 := ⟨zsub_8 (List.mem_of_getElem? (i := 71) rfl), zsub_1 (List.mem_of_getElem? (i := 12) rfl), zdp_4, rfl, zmh_13, plainFor_of_name zpn_13, (fun h => nomatch h), (fun _ => ⟨zsub_8 (List.mem_of_getElem? (i := 70) rfl), Or.inr (zsub_0 (List.mem_of_getElem? (i := 86) rfl))⟩)⟩
noncomputable abbrev zmd_305 : zMd := (⟨"RaysOfShapesModel", "isClosed", "()Z"⟩, prog_14_method_94_code, 1, some .boolean, false, 0, 13)
set_option maxRecDepth 100000 in
theorem zmo_305 : zmOK zmd_305 := ⟨zsub_8 (List.mem_of_getElem? (i := 86) rfl), zsub_1 (List.mem_of_getElem? (i := 12) rfl), zdp_8, rfl, zmh_13, plainFor_of_name zpn_13, (fun h => nomatch h), (fun _ => ⟨zsub_8 (List.mem_of_getElem? (i := 85) rfl), Or.inr (zsub_0 (List.mem_of_getElem? (i := 89) rfl))⟩)⟩
noncomputable abbrev zmd_306 : zMd := (⟨"RaysOfShapesModel", "shape", "()I"⟩, prog_14_method_95_code, 7, some .int, false, 0, 13)
set_option maxRecDepth 100000 in
theorem zmo_306 : zmOK zmd_306 := ⟨zsub_8 (List.mem_of_getElem? (i := 48) rfl), zsub_1 (List.mem_of_getElem? (i := 12) rfl), zdp_2, rfl, zmh_13, plainFor_of_name zpn_13, (fun h => nomatch h), (fun _ => ⟨zsub_8 (List.mem_of_getElem? (i := 46) rfl), Or.inr (zsub_8 (List.mem_of_getElem? (i := 47) rfl))⟩)⟩
noncomputable abbrev zmd_307 : zMd := (⟨"RaysOfShapesModel", "isShelf", "(I)Z"⟩, prog_14_method_96_code, 1, some .boolean, true, 1, 13)
set_option maxRecDepth 100000 in
theorem zmo_307 : zmOK zmd_307 := ⟨zsub_8 (List.mem_of_getElem? (i := 93) rfl), zsub_1 (List.mem_of_getElem? (i := 12) rfl), zdp_16, rfl, zmh_13, plainFor_of_name zpn_13, (fun _ => zsub_8 (List.mem_of_getElem? (i := 92) rfl)), (fun h => nomatch h)⟩
noncomputable abbrev zmd_308 : zMd := (⟨"RaysOfShapesModel", "row", "(III)I"⟩, prog_14_method_97_code, 5, some .int, false, 3, 13)
set_option maxRecDepth 100000 in
theorem zmo_308 : zmOK zmd_308 := ⟨zsub_8 (List.mem_of_getElem? (i := 90) rfl), zsub_1 (List.mem_of_getElem? (i := 12) rfl), zdp_44, rfl, zmh_13, plainFor_of_name zpn_13, (fun h => nomatch h), (fun _ => ⟨zsub_8 (List.mem_of_getElem? (i := 88) rfl), Or.inr (zsub_8 (List.mem_of_getElem? (i := 89) rfl))⟩)⟩
noncomputable abbrev zmd_309 : zMd := (⟨"RaysOfShapesModel", "lowest", "(IJ)J"⟩, prog_14_method_98_code, 3, some .long, true, 2, 13)
set_option maxRecDepth 100000 in
theorem zmo_309 : zmOK zmd_309 := ⟨zsub_8 (List.mem_of_getElem? (i := 101) rfl), zsub_1 (List.mem_of_getElem? (i := 12) rfl), zdp_38, rfl, zmh_13, plainFor_of_name zpn_13, (fun _ => zsub_8 (List.mem_of_getElem? (i := 100) rfl)), (fun h => nomatch h)⟩
noncomputable abbrev zmd_310 : zMd := (⟨"RaysOfShapesModel", "set", "(IIJ)I"⟩, prog_14_method_99_code, 5, some .int, false, 3, 13)
set_option maxRecDepth 100000 in
theorem zmo_310 : zmOK zmd_310 := ⟨zsub_8 (List.mem_of_getElem? (i := 98) rfl), zsub_1 (List.mem_of_getElem? (i := 12) rfl), zdp_49, rfl, zmh_13, plainFor_of_name zpn_13, (fun h => nomatch h), (fun _ => ⟨zsub_8 (List.mem_of_getElem? (i := 96) rfl), Or.inr (zsub_8 (List.mem_of_getElem? (i := 97) rfl))⟩)⟩
noncomputable abbrev zmd_311 : zMd := (⟨"RaysOfShapesModel", "copy", "(IIIII)I"⟩, prog_14_method_100_code, 8, some .int, false, 5, 13)
set_option maxRecDepth 100000 in
theorem zmo_311 : zmOK zmd_311 := ⟨zsub_8 (List.mem_of_getElem? (i := 105) rfl), zsub_1 (List.mem_of_getElem? (i := 12) rfl), zdp_50, rfl, zmh_13, plainFor_of_name zpn_13, (fun h => nomatch h), (fun _ => ⟨zsub_8 (List.mem_of_getElem? (i := 103) rfl), Or.inr (zsub_8 (List.mem_of_getElem? (i := 104) rfl))⟩)⟩
noncomputable abbrev zmd_312 : zMd := (⟨"RaysOfShapesModel", "element", "(II)J"⟩, prog_14_method_101_code, 3, some .long, false, 2, 13)
set_option maxRecDepth 100000 in
theorem zmo_312 : zmOK zmd_312 := ⟨zsub_8 (List.mem_of_getElem? (i := 109) rfl), zsub_1 (List.mem_of_getElem? (i := 12) rfl), zdp_36, rfl, zmh_13, plainFor_of_name zpn_13, (fun h => nomatch h), (fun _ => ⟨zsub_8 (List.mem_of_getElem? (i := 107) rfl), Or.inr (zsub_8 (List.mem_of_getElem? (i := 108) rfl))⟩)⟩
noncomputable abbrev zmd_313 : zMd := (⟨"RaysOfShapesModel", "holds", "(I)I"⟩, prog_14_method_102_code, 2, some .int, false, 1, 13)
set_option maxRecDepth 100000 in
theorem zmo_313 : zmOK zmd_313 := ⟨zsub_8 (List.mem_of_getElem? (i := 113) rfl), zsub_1 (List.mem_of_getElem? (i := 12) rfl), zdp_4, rfl, zmh_13, plainFor_of_name zpn_13, (fun h => nomatch h), (fun _ => ⟨zsub_8 (List.mem_of_getElem? (i := 111) rfl), Or.inr (zsub_8 (List.mem_of_getElem? (i := 112) rfl))⟩)⟩
noncomputable abbrev zmd_314 : zMd := (⟨"RaysOfShapesModel", "show", "(II)I"⟩, prog_14_method_103_code, 3, some .int, false, 2, 13)
set_option maxRecDepth 100000 in
theorem zmo_314 : zmOK zmd_314 := ⟨zsub_8 (List.mem_of_getElem? (i := 117) rfl), zsub_1 (List.mem_of_getElem? (i := 12) rfl), zdp_30, rfl, zmh_13, plainFor_of_name zpn_13, (fun h => nomatch h), (fun _ => ⟨zsub_8 (List.mem_of_getElem? (i := 115) rfl), Or.inr (zsub_8 (List.mem_of_getElem? (i := 116) rfl))⟩)⟩
noncomputable abbrev zmd_315 : zMd := (⟨"RaysOfShapesModel", "isUnder", "(II)Z"⟩, prog_14_method_104_code, 2, some .boolean, true, 2, 13)
set_option maxRecDepth 100000 in
theorem zmo_315 : zmOK zmd_315 := ⟨zsub_8 (List.mem_of_getElem? (i := 124) rfl), zsub_1 (List.mem_of_getElem? (i := 12) rfl), zdp_15, rfl, zmh_13, plainFor_of_name zpn_13, (fun _ => zsub_8 (List.mem_of_getElem? (i := 123) rfl)), (fun h => nomatch h)⟩
noncomputable abbrev zmd_316 : zMd := (⟨"RaysOfShapesModel", "wholePlaces", "(I)I"⟩, prog_14_method_105_code, 4, some .int, false, 1, 13)
set_option maxRecDepth 100000 in
theorem zmo_316 : zmOK zmd_316 := ⟨zsub_8 (List.mem_of_getElem? (i := 133) rfl), zsub_1 (List.mem_of_getElem? (i := 12) rfl), zdp_4, rfl, zmh_13, plainFor_of_name zpn_13, (fun h => nomatch h), (fun _ => ⟨zsub_8 (List.mem_of_getElem? (i := 132) rfl), Or.inr (zsub_0 (List.mem_of_getElem? (i := 91) rfl))⟩)⟩
noncomputable abbrev zmd_317 : zMd := (⟨"RaysOfShapesModel", "says", "(II)I"⟩, prog_14_method_106_code, 4, some .int, false, 2, 13)
set_option maxRecDepth 100000 in
theorem zmo_317 : zmOK zmd_317 := ⟨zsub_8 (List.mem_of_getElem? (i := 121) rfl), zsub_1 (List.mem_of_getElem? (i := 12) rfl), zdp_30, rfl, zmh_13, plainFor_of_name zpn_13, (fun h => nomatch h), (fun _ => ⟨zsub_8 (List.mem_of_getElem? (i := 119) rfl), Or.inr (zsub_8 (List.mem_of_getElem? (i := 120) rfl))⟩)⟩
noncomputable abbrev zmd_318 : zMd := (⟨"RaysOfShapesModel", "saysOf", "(II)I"⟩, prog_14_method_107_code, 5, some .int, false, 2, 13)
set_option maxRecDepth 100000 in
theorem zmo_318 : zmOK zmd_318 := ⟨zsub_8 (List.mem_of_getElem? (i := 129) rfl), zsub_1 (List.mem_of_getElem? (i := 12) rfl), zdp_30, rfl, zmh_13, plainFor_of_name zpn_13, (fun h => nomatch h), (fun _ => ⟨zsub_8 (List.mem_of_getElem? (i := 128) rfl), Or.inr (zsub_0 (List.mem_of_getElem? (i := 90) rfl))⟩)⟩
noncomputable abbrev zmd_319 : zMd := (⟨"RaysOfShapesModel", "isTold", "(II)I"⟩, prog_14_method_108_code, 4, some .int, false, 2, 13)
set_option maxRecDepth 100000 in
theorem zmo_319 : zmOK zmd_319 := ⟨zsub_8 (List.mem_of_getElem? (i := 142) rfl), zsub_1 (List.mem_of_getElem? (i := 12) rfl), zdp_30, rfl, zmh_13, plainFor_of_name zpn_13, (fun h => nomatch h), (fun _ => ⟨zsub_8 (List.mem_of_getElem? (i := 141) rfl), Or.inr (zsub_0 (List.mem_of_getElem? (i := 92) rfl))⟩)⟩
noncomputable abbrev zmd_320 : zMd := (⟨"RaysOfShapesModel", "isPaired", "(IIII)Z"⟩, prog_14_method_109_code, 9, some .boolean, false, 4, 13)
set_option maxRecDepth 100000 in
theorem zmo_320 : zmOK zmd_320 := ⟨zsub_8 (List.mem_of_getElem? (i := 146) rfl), zsub_1 (List.mem_of_getElem? (i := 12) rfl), zdp_57, rfl, zmh_13, plainFor_of_name zpn_13, (fun h => nomatch h), (fun _ => ⟨zsub_8 (List.mem_of_getElem? (i := 145) rfl), Or.inr (zsub_0 (List.mem_of_getElem? (i := 93) rfl))⟩)⟩
noncomputable abbrev zmd_321 : zMd := (⟨"RaysOfShapesModel", "kinds", "(IIII)I"⟩, prog_14_method_110_code, 10, some .int, false, 4, 13)
set_option maxRecDepth 100000 in
theorem zmo_321 : zmOK zmd_321 := ⟨zsub_8 (List.mem_of_getElem? (i := 137) rfl), zsub_1 (List.mem_of_getElem? (i := 12) rfl), zdp_51, rfl, zmh_13, plainFor_of_name zpn_13, (fun h => nomatch h), (fun _ => ⟨zsub_8 (List.mem_of_getElem? (i := 135) rfl), Or.inr (zsub_8 (List.mem_of_getElem? (i := 136) rfl))⟩)⟩
noncomputable abbrev zmd_322 : zMd := (⟨"RaysOfShapesModel", "judge", "(III)I"⟩, prog_14_method_111_code, 6, some .int, false, 3, 13)
set_option maxRecDepth 100000 in
theorem zmo_322 : zmOK zmd_322 := ⟨zsub_8 (List.mem_of_getElem? (i := 150) rfl), zsub_1 (List.mem_of_getElem? (i := 12) rfl), zdp_44, rfl, zmh_13, plainFor_of_name zpn_13, (fun h => nomatch h), (fun _ => ⟨zsub_8 (List.mem_of_getElem? (i := 148) rfl), Or.inr (zsub_8 (List.mem_of_getElem? (i := 149) rfl))⟩)⟩
noncomputable abbrev zmd_323 : zMd := (⟨"RaysOfShapesModel", "carves", "(I)I"⟩, prog_14_method_112_code, 6, some .int, false, 1, 13)
set_option maxRecDepth 100000 in
theorem zmo_323 : zmOK zmd_323 := ⟨zsub_8 (List.mem_of_getElem? (i := 158) rfl), zsub_1 (List.mem_of_getElem? (i := 12) rfl), zdp_4, rfl, zmh_13, plainFor_of_name zpn_13, (fun h => nomatch h), (fun _ => ⟨zsub_8 (List.mem_of_getElem? (i := 157) rfl), Or.inr (zsub_0 (List.mem_of_getElem? (i := 94) rfl))⟩)⟩
noncomputable abbrev zmd_324 : zMd := (⟨"RaysOfShapesModel", "carve", "(II)I"⟩, prog_14_method_113_code, 4, some .int, false, 2, 13)
set_option maxRecDepth 100000 in
theorem zmo_324 : zmOK zmd_324 := ⟨zsub_8 (List.mem_of_getElem? (i := 154) rfl), zsub_1 (List.mem_of_getElem? (i := 12) rfl), zdp_30, rfl, zmh_13, plainFor_of_name zpn_13, (fun h => nomatch h), (fun _ => ⟨zsub_8 (List.mem_of_getElem? (i := 152) rfl), Or.inr (zsub_8 (List.mem_of_getElem? (i := 153) rfl))⟩)⟩
noncomputable abbrev zmd_325 : zMd := (⟨"RaysOfShapesModel", "undo", "()I"⟩, prog_14_method_114_code, 2, some .int, false, 0, 13)
set_option maxRecDepth 100000 in
theorem zmo_325 : zmOK zmd_325 := ⟨zsub_8 (List.mem_of_getElem? (i := 162) rfl), zsub_1 (List.mem_of_getElem? (i := 12) rfl), zdp_2, rfl, zmh_13, plainFor_of_name zpn_13, (fun h => nomatch h), (fun _ => ⟨zsub_8 (List.mem_of_getElem? (i := 160) rfl), Or.inr (zsub_8 (List.mem_of_getElem? (i := 161) rfl))⟩)⟩
noncomputable abbrev zmd_326 : zMd := (⟨"RaysOfShapesModel", "blockMany", "()I"⟩, prog_14_method_115_code, 3, some .int, false, 0, 13)
set_option maxRecDepth 100000 in
theorem zmo_326 : zmOK zmd_326 := ⟨zsub_8 (List.mem_of_getElem? (i := 170) rfl), zsub_1 (List.mem_of_getElem? (i := 12) rfl), zdp_2, rfl, zmh_13, plainFor_of_name zpn_13, (fun h => nomatch h), (fun _ => ⟨zsub_8 (List.mem_of_getElem? (i := 169) rfl), Or.inr (zsub_0 (List.mem_of_getElem? (i := 95) rfl))⟩)⟩
noncomputable abbrev zmd_327 : zMd := (⟨"RaysOfShapesModel", "block", "(I)I"⟩, prog_14_method_116_code, 3, some .int, false, 1, 13)
set_option maxRecDepth 100000 in
theorem zmo_327 : zmOK zmd_327 := ⟨zsub_8 (List.mem_of_getElem? (i := 166) rfl), zsub_1 (List.mem_of_getElem? (i := 12) rfl), zdp_4, rfl, zmh_13, plainFor_of_name zpn_13, (fun h => nomatch h), (fun _ => ⟨zsub_8 (List.mem_of_getElem? (i := 164) rfl), Or.inr (zsub_8 (List.mem_of_getElem? (i := 165) rfl))⟩)⟩
noncomputable abbrev zmd_328 : zMd := (⟨"RaysOfShapesModel", "has", "(I)I"⟩, prog_14_method_117_code, 2, some .int, false, 1, 13)
set_option maxRecDepth 100000 in
theorem zmo_328 : zmOK zmd_328 := ⟨zsub_8 (List.mem_of_getElem? (i := 174) rfl), zsub_1 (List.mem_of_getElem? (i := 12) rfl), zdp_4, rfl, zmh_13, plainFor_of_name zpn_13, (fun h => nomatch h), (fun _ => ⟨zsub_8 (List.mem_of_getElem? (i := 172) rfl), Or.inr (zsub_8 (List.mem_of_getElem? (i := 173) rfl))⟩)⟩
noncomputable abbrev zmd_329 : zMd := (⟨"RaysOfShapesModel", "off", "(I)I"⟩, prog_14_method_118_code, 4, some .int, false, 1, 13)
set_option maxRecDepth 100000 in
theorem zmo_329 : zmOK zmd_329 := ⟨zsub_8 (List.mem_of_getElem? (i := 178) rfl), zsub_1 (List.mem_of_getElem? (i := 12) rfl), zdp_4, rfl, zmh_13, plainFor_of_name zpn_13, (fun h => nomatch h), (fun _ => ⟨zsub_8 (List.mem_of_getElem? (i := 176) rfl), Or.inr (zsub_8 (List.mem_of_getElem? (i := 177) rfl))⟩)⟩
noncomputable abbrev zmd_330 : zMd := (⟨"RaysOfShapesModel", "draw", "(I)I"⟩, prog_14_method_119_code, 2, some .int, false, 1, 13)
set_option maxRecDepth 100000 in
theorem zmo_330 : zmOK zmd_330 := ⟨zsub_8 (List.mem_of_getElem? (i := 187) rfl), zsub_1 (List.mem_of_getElem? (i := 12) rfl), zdp_4, rfl, zmh_13, plainFor_of_name zpn_13, (fun h => nomatch h), (fun _ => ⟨zsub_8 (List.mem_of_getElem? (i := 186) rfl), Or.inr (zsub_0 (List.mem_of_getElem? (i := 96) rfl))⟩)⟩
noncomputable abbrev zmd_331 : zMd := (⟨"RaysOfShapesModel", "days", "(I)I"⟩, prog_14_method_120_code, 11, some .int, false, 1, 13)
set_option maxRecDepth 100000 in
theorem zmo_331 : zmOK zmd_331 := ⟨zsub_8 (List.mem_of_getElem? (i := 182) rfl), zsub_1 (List.mem_of_getElem? (i := 12) rfl), zdp_4, rfl, zmh_13, plainFor_of_name zpn_13, (fun h => nomatch h), (fun _ => ⟨zsub_8 (List.mem_of_getElem? (i := 180) rfl), Or.inr (zsub_8 (List.mem_of_getElem? (i := 181) rfl))⟩)⟩
noncomputable abbrev zmd_332 : zMd := (⟨"RaysOfShapesModel", "seed", "(I)I"⟩, prog_14_method_121_code, 3, some .int, false, 1, 13)
set_option maxRecDepth 100000 in
theorem zmo_332 : zmOK zmd_332 := ⟨zsub_8 (List.mem_of_getElem? (i := 192) rfl), zsub_1 (List.mem_of_getElem? (i := 12) rfl), zdp_4, rfl, zmh_13, plainFor_of_name zpn_13, (fun h => nomatch h), (fun _ => ⟨zsub_8 (List.mem_of_getElem? (i := 190) rfl), Or.inr (zsub_8 (List.mem_of_getElem? (i := 191) rfl))⟩)⟩
noncomputable abbrev zmd_333 : zMd := (⟨"RaysOfShapesModel", "copies", "([Z[Z)V"⟩, prog_14_method_122_code, 3, none, true, 2, 13)
set_option maxRecDepth 100000 in
theorem zmo_333 : zmOK zmd_333 := ⟨zsub_8 (List.mem_of_getElem? (i := 199) rfl), zsub_1 (List.mem_of_getElem? (i := 12) rfl), zdp_71, rfl, zmh_13, plainFor_of_name zpn_13, (fun _ => zsub_8 (List.mem_of_getElem? (i := 198) rfl)), (fun h => nomatch h)⟩
noncomputable abbrev zmd_334 : zMd := (⟨"RaysOfShapesModel", "image", "()I"⟩, prog_14_method_123_code, 2, some .int, false, 0, 13)
set_option maxRecDepth 100000 in
theorem zmo_334 : zmOK zmd_334 := ⟨zsub_8 (List.mem_of_getElem? (i := 196) rfl), zsub_1 (List.mem_of_getElem? (i := 12) rfl), zdp_2, rfl, zmh_13, plainFor_of_name zpn_13, (fun h => nomatch h), (fun _ => ⟨zsub_8 (List.mem_of_getElem? (i := 194) rfl), Or.inr (zsub_8 (List.mem_of_getElem? (i := 195) rfl))⟩)⟩
noncomputable abbrev zmd_335 : zMd := (⟨"RaysOfShapesModel", "back", "()I"⟩, prog_14_method_124_code, 2, some .int, false, 0, 13)
set_option maxRecDepth 100000 in
theorem zmo_335 : zmOK zmd_335 := ⟨zsub_8 (List.mem_of_getElem? (i := 203) rfl), zsub_1 (List.mem_of_getElem? (i := 12) rfl), zdp_2, rfl, zmh_13, plainFor_of_name zpn_13, (fun h => nomatch h), (fun _ => ⟨zsub_8 (List.mem_of_getElem? (i := 201) rfl), Or.inr (zsub_8 (List.mem_of_getElem? (i := 202) rfl))⟩)⟩
noncomputable abbrev zmd_336 : zMd := (⟨"RaysOfShapesModel", "held", "()I"⟩, prog_14_method_125_code, 3, some .int, false, 0, 13)
set_option maxRecDepth 100000 in
theorem zmo_336 : zmOK zmd_336 := ⟨zsub_8 (List.mem_of_getElem? (i := 211) rfl), zsub_1 (List.mem_of_getElem? (i := 12) rfl), zdp_2, rfl, zmh_13, plainFor_of_name zpn_13, (fun h => nomatch h), (fun _ => ⟨zsub_8 (List.mem_of_getElem? (i := 210) rfl), Or.inr (zsub_0 (List.mem_of_getElem? (i := 97) rfl))⟩)⟩
noncomputable abbrev zmd_337 : zMd := (⟨"RaysOfShapesModel", "status", "(I)I"⟩, prog_14_method_126_code, 2, some .int, false, 1, 13)
set_option maxRecDepth 100000 in
theorem zmo_337 : zmOK zmd_337 := ⟨zsub_8 (List.mem_of_getElem? (i := 207) rfl), zsub_1 (List.mem_of_getElem? (i := 12) rfl), zdp_4, rfl, zmh_13, plainFor_of_name zpn_13, (fun h => nomatch h), (fun _ => ⟨zsub_8 (List.mem_of_getElem? (i := 205) rfl), Or.inr (zsub_8 (List.mem_of_getElem? (i := 206) rfl))⟩)⟩
noncomputable abbrev zmd_338 : zMd := (⟨"java/lang/Long", "bitCount", "(J)I"⟩, prog_15_method_50_code, 2, some .int, true, 1, 15)
set_option maxRecDepth 100000 in
theorem zmo_338 : zmOK zmd_338 := ⟨zsub_3 (List.mem_of_getElem? (i := 184) rfl), zsub_1 (List.mem_of_getElem? (i := 16) rfl), zdp_72, rfl, zmh_15, plainFor_of_name zpn_15, (fun _ => zsub_3 (List.mem_of_getElem? (i := 183) rfl)), (fun h => nomatch h)⟩
noncomputable abbrev zmd_339 : zMd := (⟨"java/lang/Math", "floorMod", "(II)I"⟩, prog_16_method_50_code, 3, some .int, true, 2, 16)
set_option maxRecDepth 100000 in
theorem zmo_339 : zmOK zmd_339 := ⟨zsub_3 (List.mem_of_getElem? (i := 50) rfl), zsub_1 (List.mem_of_getElem? (i := 15) rfl), zdp_30, rfl, zmh_16, by decide +kernel, (fun _ => zsub_3 (List.mem_of_getElem? (i := 49) rfl)), (fun h => nomatch h)⟩
noncomputable abbrev zmd_340 : zMd := (⟨"java/lang/Math", "abs", "(J)J"⟩, prog_16_method_61_code, 2, some .long, true, 1, 16)
set_option maxRecDepth 100000 in
theorem zmo_340 : zmOK zmd_340 := ⟨zsub_3 (List.mem_of_getElem? (i := 39) rfl), zsub_1 (List.mem_of_getElem? (i := 15) rfl), zdp_73, rfl, zmh_16, by decide +kernel, (fun _ => zsub_3 (List.mem_of_getElem? (i := 38) rfl)), (fun h => nomatch h)⟩
noncomputable abbrev zmd_341 : zMd := (⟨"java/lang/Math", "max", "(II)I"⟩, prog_16_method_65_code, 2, some .int, true, 2, 16)
set_option maxRecDepth 100000 in
theorem zmo_341 : zmOK zmd_341 := ⟨zsub_2 (List.mem_of_getElem? (i := 234) rfl), zsub_1 (List.mem_of_getElem? (i := 15) rfl), zdp_30, rfl, zmh_16, by decide +kernel, (fun _ => zsub_2 (List.mem_of_getElem? (i := 233) rfl)), (fun h => nomatch h)⟩
noncomputable abbrev zmd_342 : zMd := (⟨"java/lang/Math", "max", "(JJ)J"⟩, prog_16_method_66_code, 4, some .long, true, 2, 16)
set_option maxRecDepth 100000 in
theorem zmo_342 : zmOK zmd_342 := ⟨zsub_6 (List.mem_of_getElem? (i := 215) rfl), zsub_1 (List.mem_of_getElem? (i := 15) rfl), zdp_64, rfl, zmh_16, by decide +kernel, (fun _ => zsub_6 (List.mem_of_getElem? (i := 214) rfl)), (fun h => nomatch h)⟩
noncomputable abbrev zmd_343 : zMd := (⟨"java/lang/Math", "min", "(II)I"⟩, prog_16_method_69_code, 2, some .int, true, 2, 16)
set_option maxRecDepth 100000 in
theorem zmo_343 : zmOK zmd_343 := ⟨zsub_3 (List.mem_of_getElem? (i := 97) rfl), zsub_1 (List.mem_of_getElem? (i := 15) rfl), zdp_30, rfl, zmh_16, by decide +kernel, (fun _ => zsub_3 (List.mem_of_getElem? (i := 96) rfl)), (fun h => nomatch h)⟩
noncomputable abbrev zmd_344 : zMd := (⟨"java/lang/Math", "min", "(JJ)J"⟩, prog_16_method_70_code, 4, some .long, true, 2, 16)
set_option maxRecDepth 100000 in
theorem zmo_344 : zmOK zmd_344 := ⟨zsub_6 (List.mem_of_getElem? (i := 218) rfl), zsub_1 (List.mem_of_getElem? (i := 15) rfl), zdp_64, rfl, zmh_16, by decide +kernel, (fun _ => zsub_6 (List.mem_of_getElem? (i := 217) rfl)), (fun h => nomatch h)⟩
noncomputable abbrev zmd_345 : zMd := (⟨"java/lang/String", "length", "()I"⟩, prog_17_method_54_code, 1, some .int, false, 0, 17)
set_option maxRecDepth 100000 in
theorem zmo_345 : zmOK zmd_345 := ⟨zsub_4 (List.mem_of_getElem? (i := 34) rfl), zsub_1 (List.mem_of_getElem? (i := 17) rfl), zdp_2, rfl, zmh_17, plainFor_of_name zpn_17, (fun h => nomatch h), (fun _ => ⟨zsub_4 (List.mem_of_getElem? (i := 32) rfl), Or.inr (zsub_4 (List.mem_of_getElem? (i := 33) rfl))⟩)⟩
noncomputable abbrev zmd_346 : zMd := (⟨"java/lang/String", "charAt", "(I)C"⟩, prog_17_method_56_code, 2, some .char, false, 1, 17)
set_option maxRecDepth 100000 in
theorem zmo_346 : zmOK zmd_346 := ⟨zsub_4 (List.mem_of_getElem? (i := 44) rfl), zsub_1 (List.mem_of_getElem? (i := 17) rfl), zdp_74, rfl, zmh_17, plainFor_of_name zpn_17, (fun h => nomatch h), (fun _ => ⟨zsub_4 (List.mem_of_getElem? (i := 42) rfl), Or.inr (zsub_4 (List.mem_of_getElem? (i := 43) rfl))⟩)⟩
noncomputable abbrev zmd_347 : zMd := (⟨"java/lang/String", "coder", "()B"⟩, prog_17_method_152_code, 1, some .byte, false, 0, 17)
set_option maxRecDepth 100000 in
theorem zmo_347 : zmOK zmd_347 := ⟨zsub_4 (List.mem_of_getElem? (i := 38) rfl), zsub_1 (List.mem_of_getElem? (i := 17) rfl), zdp_75, rfl, zmh_17, plainFor_of_name zpn_17, (fun h => nomatch h), (fun _ => ⟨zsub_4 (List.mem_of_getElem? (i := 36) rfl), Or.inr (zsub_4 (List.mem_of_getElem? (i := 37) rfl))⟩)⟩
noncomputable abbrev zmd_348 : zMd := (⟨"java/lang/String", "isLatin1", "()Z"⟩, prog_17_method_154_code, 1, some .boolean, false, 0, 17)
set_option maxRecDepth 100000 in
theorem zmo_348 : zmOK zmd_348 := ⟨zsub_4 (List.mem_of_getElem? (i := 48) rfl), zsub_1 (List.mem_of_getElem? (i := 17) rfl), zdp_8, rfl, zmh_17, plainFor_of_name zpn_17, (fun h => nomatch h), (fun _ => ⟨zsub_4 (List.mem_of_getElem? (i := 46) rfl), Or.inr (zsub_4 (List.mem_of_getElem? (i := 47) rfl))⟩)⟩
noncomputable abbrev zmd_349 : zMd := (⟨"java/lang/String", "checkIndex", "(II)V"⟩, prog_17_method_155_code, 2, none, true, 2, 17)
set_option maxRecDepth 100000 in
theorem zmo_349 : zmOK zmd_349 := ⟨zsub_4 (List.mem_of_getElem? (i := 54) rfl), zsub_1 (List.mem_of_getElem? (i := 17) rfl), zdp_13, rfl, zmh_17, plainFor_of_name zpn_17, (fun _ => zsub_4 (List.mem_of_getElem? (i := 53) rfl)), (fun h => nomatch h)⟩
noncomputable abbrev zmd_350 : zMd := (⟨"java/lang/StringLatin1", "charAt", "([BI)C"⟩, prog_18_method_2_code, 2, some .char, true, 2, 18)
set_option maxRecDepth 100000 in
theorem zmo_350 : zmOK zmd_350 := ⟨zsub_4 (List.mem_of_getElem? (i := 51) rfl), zsub_1 (List.mem_of_getElem? (i := 18) rfl), zdp_76, rfl, zmh_18, plainFor_of_name zpn_18, (fun _ => zsub_4 (List.mem_of_getElem? (i := 50) rfl)), (fun h => nomatch h)⟩
noncomputable abbrev zmd_351 : zMd := (⟨"jdk/internal/util/Preconditions", "checkIndex", "(IILjava/util/function/BiFunction;)I"⟩, prog_21_method_11_code, 3, some .int, true, 3, 19)
set_option maxRecDepth 100000 in
theorem zmo_351 : zmOK zmd_351 := ⟨zsub_4 (List.mem_of_getElem? (i := 59) rfl), zsub_1 (List.mem_of_getElem? (i := 19) rfl), zdp_77, rfl, zmh_19, plainFor_of_name zpn_19, (fun _ => zsub_4 (List.mem_of_getElem? (i := 58) rfl)), (fun h => nomatch h)⟩
noncomputable def zmd_c0 : List zMd := [zmd_0, zmd_1, zmd_2, zmd_3, zmd_4, zmd_5, zmd_6, zmd_7, zmd_8, zmd_9, zmd_10, zmd_11, zmd_12, zmd_13, zmd_14, zmd_15]
theorem zmd_r0 : ∀ q ∈ zmd_c0, zmOK q := List.forall_mem_cons.mpr ⟨zmo_0, List.forall_mem_cons.mpr ⟨zmo_1, List.forall_mem_cons.mpr ⟨zmo_2, List.forall_mem_cons.mpr ⟨zmo_3, List.forall_mem_cons.mpr ⟨zmo_4, List.forall_mem_cons.mpr ⟨zmo_5, List.forall_mem_cons.mpr ⟨zmo_6, List.forall_mem_cons.mpr ⟨zmo_7, List.forall_mem_cons.mpr ⟨zmo_8, List.forall_mem_cons.mpr ⟨zmo_9, List.forall_mem_cons.mpr ⟨zmo_10, List.forall_mem_cons.mpr ⟨zmo_11, List.forall_mem_cons.mpr ⟨zmo_12, List.forall_mem_cons.mpr ⟨zmo_13, List.forall_mem_cons.mpr ⟨zmo_14, List.forall_mem_cons.mpr ⟨zmo_15, fun _ h => absurd h List.not_mem_nil⟩⟩⟩⟩⟩⟩⟩⟩⟩⟩⟩⟩⟩⟩⟩⟩
noncomputable def zmd_c1 : List zMd := [zmd_16, zmd_17, zmd_18, zmd_19, zmd_20, zmd_21, zmd_22, zmd_23, zmd_24, zmd_25, zmd_26, zmd_27, zmd_28, zmd_29, zmd_30, zmd_31]
theorem zmd_r1 : ∀ q ∈ zmd_c1, zmOK q := List.forall_mem_cons.mpr ⟨zmo_16, List.forall_mem_cons.mpr ⟨zmo_17, List.forall_mem_cons.mpr ⟨zmo_18, List.forall_mem_cons.mpr ⟨zmo_19, List.forall_mem_cons.mpr ⟨zmo_20, List.forall_mem_cons.mpr ⟨zmo_21, List.forall_mem_cons.mpr ⟨zmo_22, List.forall_mem_cons.mpr ⟨zmo_23, List.forall_mem_cons.mpr ⟨zmo_24, List.forall_mem_cons.mpr ⟨zmo_25, List.forall_mem_cons.mpr ⟨zmo_26, List.forall_mem_cons.mpr ⟨zmo_27, List.forall_mem_cons.mpr ⟨zmo_28, List.forall_mem_cons.mpr ⟨zmo_29, List.forall_mem_cons.mpr ⟨zmo_30, List.forall_mem_cons.mpr ⟨zmo_31, fun _ h => absurd h List.not_mem_nil⟩⟩⟩⟩⟩⟩⟩⟩⟩⟩⟩⟩⟩⟩⟩⟩
noncomputable def zmd_c2 : List zMd := [zmd_32, zmd_33, zmd_34, zmd_35, zmd_36, zmd_37, zmd_38, zmd_39, zmd_40, zmd_41, zmd_42, zmd_43, zmd_44, zmd_45, zmd_46, zmd_47]
theorem zmd_r2 : ∀ q ∈ zmd_c2, zmOK q := List.forall_mem_cons.mpr ⟨zmo_32, List.forall_mem_cons.mpr ⟨zmo_33, List.forall_mem_cons.mpr ⟨zmo_34, List.forall_mem_cons.mpr ⟨zmo_35, List.forall_mem_cons.mpr ⟨zmo_36, List.forall_mem_cons.mpr ⟨zmo_37, List.forall_mem_cons.mpr ⟨zmo_38, List.forall_mem_cons.mpr ⟨zmo_39, List.forall_mem_cons.mpr ⟨zmo_40, List.forall_mem_cons.mpr ⟨zmo_41, List.forall_mem_cons.mpr ⟨zmo_42, List.forall_mem_cons.mpr ⟨zmo_43, List.forall_mem_cons.mpr ⟨zmo_44, List.forall_mem_cons.mpr ⟨zmo_45, List.forall_mem_cons.mpr ⟨zmo_46, List.forall_mem_cons.mpr ⟨zmo_47, fun _ h => absurd h List.not_mem_nil⟩⟩⟩⟩⟩⟩⟩⟩⟩⟩⟩⟩⟩⟩⟩⟩
noncomputable def zmd_c3 : List zMd := [zmd_48, zmd_49, zmd_50, zmd_51, zmd_52, zmd_53, zmd_54, zmd_55, zmd_56, zmd_57, zmd_58, zmd_59, zmd_60, zmd_61, zmd_62, zmd_63]
theorem zmd_r3 : ∀ q ∈ zmd_c3, zmOK q := List.forall_mem_cons.mpr ⟨zmo_48, List.forall_mem_cons.mpr ⟨zmo_49, List.forall_mem_cons.mpr ⟨zmo_50, List.forall_mem_cons.mpr ⟨zmo_51, List.forall_mem_cons.mpr ⟨zmo_52, List.forall_mem_cons.mpr ⟨zmo_53, List.forall_mem_cons.mpr ⟨zmo_54, List.forall_mem_cons.mpr ⟨zmo_55, List.forall_mem_cons.mpr ⟨zmo_56, List.forall_mem_cons.mpr ⟨zmo_57, List.forall_mem_cons.mpr ⟨zmo_58, List.forall_mem_cons.mpr ⟨zmo_59, List.forall_mem_cons.mpr ⟨zmo_60, List.forall_mem_cons.mpr ⟨zmo_61, List.forall_mem_cons.mpr ⟨zmo_62, List.forall_mem_cons.mpr ⟨zmo_63, fun _ h => absurd h List.not_mem_nil⟩⟩⟩⟩⟩⟩⟩⟩⟩⟩⟩⟩⟩⟩⟩⟩
noncomputable def zmd_c4 : List zMd := [zmd_64, zmd_65, zmd_66, zmd_67, zmd_68, zmd_69, zmd_70, zmd_71, zmd_72, zmd_73, zmd_74, zmd_75, zmd_76, zmd_77, zmd_78, zmd_79]
theorem zmd_r4 : ∀ q ∈ zmd_c4, zmOK q := List.forall_mem_cons.mpr ⟨zmo_64, List.forall_mem_cons.mpr ⟨zmo_65, List.forall_mem_cons.mpr ⟨zmo_66, List.forall_mem_cons.mpr ⟨zmo_67, List.forall_mem_cons.mpr ⟨zmo_68, List.forall_mem_cons.mpr ⟨zmo_69, List.forall_mem_cons.mpr ⟨zmo_70, List.forall_mem_cons.mpr ⟨zmo_71, List.forall_mem_cons.mpr ⟨zmo_72, List.forall_mem_cons.mpr ⟨zmo_73, List.forall_mem_cons.mpr ⟨zmo_74, List.forall_mem_cons.mpr ⟨zmo_75, List.forall_mem_cons.mpr ⟨zmo_76, List.forall_mem_cons.mpr ⟨zmo_77, List.forall_mem_cons.mpr ⟨zmo_78, List.forall_mem_cons.mpr ⟨zmo_79, fun _ h => absurd h List.not_mem_nil⟩⟩⟩⟩⟩⟩⟩⟩⟩⟩⟩⟩⟩⟩⟩⟩
noncomputable def zmd_c5 : List zMd := [zmd_80, zmd_81, zmd_82, zmd_83, zmd_84, zmd_85, zmd_86, zmd_87, zmd_88, zmd_89, zmd_90, zmd_91, zmd_92, zmd_93, zmd_94, zmd_95]
theorem zmd_r5 : ∀ q ∈ zmd_c5, zmOK q := List.forall_mem_cons.mpr ⟨zmo_80, List.forall_mem_cons.mpr ⟨zmo_81, List.forall_mem_cons.mpr ⟨zmo_82, List.forall_mem_cons.mpr ⟨zmo_83, List.forall_mem_cons.mpr ⟨zmo_84, List.forall_mem_cons.mpr ⟨zmo_85, List.forall_mem_cons.mpr ⟨zmo_86, List.forall_mem_cons.mpr ⟨zmo_87, List.forall_mem_cons.mpr ⟨zmo_88, List.forall_mem_cons.mpr ⟨zmo_89, List.forall_mem_cons.mpr ⟨zmo_90, List.forall_mem_cons.mpr ⟨zmo_91, List.forall_mem_cons.mpr ⟨zmo_92, List.forall_mem_cons.mpr ⟨zmo_93, List.forall_mem_cons.mpr ⟨zmo_94, List.forall_mem_cons.mpr ⟨zmo_95, fun _ h => absurd h List.not_mem_nil⟩⟩⟩⟩⟩⟩⟩⟩⟩⟩⟩⟩⟩⟩⟩⟩
noncomputable def zmd_c6 : List zMd := [zmd_96, zmd_97, zmd_98, zmd_99, zmd_100, zmd_101, zmd_102, zmd_103, zmd_104, zmd_105, zmd_106, zmd_107, zmd_108, zmd_109, zmd_110, zmd_111]
theorem zmd_r6 : ∀ q ∈ zmd_c6, zmOK q := List.forall_mem_cons.mpr ⟨zmo_96, List.forall_mem_cons.mpr ⟨zmo_97, List.forall_mem_cons.mpr ⟨zmo_98, List.forall_mem_cons.mpr ⟨zmo_99, List.forall_mem_cons.mpr ⟨zmo_100, List.forall_mem_cons.mpr ⟨zmo_101, List.forall_mem_cons.mpr ⟨zmo_102, List.forall_mem_cons.mpr ⟨zmo_103, List.forall_mem_cons.mpr ⟨zmo_104, List.forall_mem_cons.mpr ⟨zmo_105, List.forall_mem_cons.mpr ⟨zmo_106, List.forall_mem_cons.mpr ⟨zmo_107, List.forall_mem_cons.mpr ⟨zmo_108, List.forall_mem_cons.mpr ⟨zmo_109, List.forall_mem_cons.mpr ⟨zmo_110, List.forall_mem_cons.mpr ⟨zmo_111, fun _ h => absurd h List.not_mem_nil⟩⟩⟩⟩⟩⟩⟩⟩⟩⟩⟩⟩⟩⟩⟩⟩
noncomputable def zmd_c7 : List zMd := [zmd_112, zmd_113, zmd_114, zmd_115, zmd_116, zmd_117, zmd_118, zmd_119, zmd_120, zmd_121, zmd_122, zmd_123, zmd_124, zmd_125, zmd_126, zmd_127]
theorem zmd_r7 : ∀ q ∈ zmd_c7, zmOK q := List.forall_mem_cons.mpr ⟨zmo_112, List.forall_mem_cons.mpr ⟨zmo_113, List.forall_mem_cons.mpr ⟨zmo_114, List.forall_mem_cons.mpr ⟨zmo_115, List.forall_mem_cons.mpr ⟨zmo_116, List.forall_mem_cons.mpr ⟨zmo_117, List.forall_mem_cons.mpr ⟨zmo_118, List.forall_mem_cons.mpr ⟨zmo_119, List.forall_mem_cons.mpr ⟨zmo_120, List.forall_mem_cons.mpr ⟨zmo_121, List.forall_mem_cons.mpr ⟨zmo_122, List.forall_mem_cons.mpr ⟨zmo_123, List.forall_mem_cons.mpr ⟨zmo_124, List.forall_mem_cons.mpr ⟨zmo_125, List.forall_mem_cons.mpr ⟨zmo_126, List.forall_mem_cons.mpr ⟨zmo_127, fun _ h => absurd h List.not_mem_nil⟩⟩⟩⟩⟩⟩⟩⟩⟩⟩⟩⟩⟩⟩⟩⟩
noncomputable def zmd_c8 : List zMd := [zmd_128, zmd_129, zmd_130, zmd_131, zmd_132, zmd_133, zmd_134, zmd_135, zmd_136, zmd_137, zmd_138, zmd_139, zmd_140, zmd_141, zmd_142, zmd_143]
theorem zmd_r8 : ∀ q ∈ zmd_c8, zmOK q := List.forall_mem_cons.mpr ⟨zmo_128, List.forall_mem_cons.mpr ⟨zmo_129, List.forall_mem_cons.mpr ⟨zmo_130, List.forall_mem_cons.mpr ⟨zmo_131, List.forall_mem_cons.mpr ⟨zmo_132, List.forall_mem_cons.mpr ⟨zmo_133, List.forall_mem_cons.mpr ⟨zmo_134, List.forall_mem_cons.mpr ⟨zmo_135, List.forall_mem_cons.mpr ⟨zmo_136, List.forall_mem_cons.mpr ⟨zmo_137, List.forall_mem_cons.mpr ⟨zmo_138, List.forall_mem_cons.mpr ⟨zmo_139, List.forall_mem_cons.mpr ⟨zmo_140, List.forall_mem_cons.mpr ⟨zmo_141, List.forall_mem_cons.mpr ⟨zmo_142, List.forall_mem_cons.mpr ⟨zmo_143, fun _ h => absurd h List.not_mem_nil⟩⟩⟩⟩⟩⟩⟩⟩⟩⟩⟩⟩⟩⟩⟩⟩
noncomputable def zmd_c9 : List zMd := [zmd_144, zmd_145, zmd_146, zmd_147, zmd_148, zmd_149, zmd_150, zmd_151, zmd_152, zmd_153, zmd_154, zmd_155, zmd_156, zmd_157, zmd_158, zmd_159]
theorem zmd_r9 : ∀ q ∈ zmd_c9, zmOK q := List.forall_mem_cons.mpr ⟨zmo_144, List.forall_mem_cons.mpr ⟨zmo_145, List.forall_mem_cons.mpr ⟨zmo_146, List.forall_mem_cons.mpr ⟨zmo_147, List.forall_mem_cons.mpr ⟨zmo_148, List.forall_mem_cons.mpr ⟨zmo_149, List.forall_mem_cons.mpr ⟨zmo_150, List.forall_mem_cons.mpr ⟨zmo_151, List.forall_mem_cons.mpr ⟨zmo_152, List.forall_mem_cons.mpr ⟨zmo_153, List.forall_mem_cons.mpr ⟨zmo_154, List.forall_mem_cons.mpr ⟨zmo_155, List.forall_mem_cons.mpr ⟨zmo_156, List.forall_mem_cons.mpr ⟨zmo_157, List.forall_mem_cons.mpr ⟨zmo_158, List.forall_mem_cons.mpr ⟨zmo_159, fun _ h => absurd h List.not_mem_nil⟩⟩⟩⟩⟩⟩⟩⟩⟩⟩⟩⟩⟩⟩⟩⟩
noncomputable def zmd_c10 : List zMd := [zmd_160, zmd_161, zmd_162, zmd_163, zmd_164, zmd_165, zmd_166, zmd_167, zmd_168, zmd_169, zmd_170, zmd_171, zmd_172, zmd_173, zmd_174, zmd_175]
theorem zmd_r10 : ∀ q ∈ zmd_c10, zmOK q := List.forall_mem_cons.mpr ⟨zmo_160, List.forall_mem_cons.mpr ⟨zmo_161, List.forall_mem_cons.mpr ⟨zmo_162, List.forall_mem_cons.mpr ⟨zmo_163, List.forall_mem_cons.mpr ⟨zmo_164, List.forall_mem_cons.mpr ⟨zmo_165, List.forall_mem_cons.mpr ⟨zmo_166, List.forall_mem_cons.mpr ⟨zmo_167, List.forall_mem_cons.mpr ⟨zmo_168, List.forall_mem_cons.mpr ⟨zmo_169, List.forall_mem_cons.mpr ⟨zmo_170, List.forall_mem_cons.mpr ⟨zmo_171, List.forall_mem_cons.mpr ⟨zmo_172, List.forall_mem_cons.mpr ⟨zmo_173, List.forall_mem_cons.mpr ⟨zmo_174, List.forall_mem_cons.mpr ⟨zmo_175, fun _ h => absurd h List.not_mem_nil⟩⟩⟩⟩⟩⟩⟩⟩⟩⟩⟩⟩⟩⟩⟩⟩
noncomputable def zmd_c11 : List zMd := [zmd_176, zmd_177, zmd_178, zmd_179, zmd_180, zmd_181, zmd_182, zmd_183, zmd_184, zmd_185, zmd_186, zmd_187, zmd_188, zmd_189, zmd_190, zmd_191]
theorem zmd_r11 : ∀ q ∈ zmd_c11, zmOK q := List.forall_mem_cons.mpr ⟨zmo_176, List.forall_mem_cons.mpr ⟨zmo_177, List.forall_mem_cons.mpr ⟨zmo_178, List.forall_mem_cons.mpr ⟨zmo_179, List.forall_mem_cons.mpr ⟨zmo_180, List.forall_mem_cons.mpr ⟨zmo_181, List.forall_mem_cons.mpr ⟨zmo_182, List.forall_mem_cons.mpr ⟨zmo_183, List.forall_mem_cons.mpr ⟨zmo_184, List.forall_mem_cons.mpr ⟨zmo_185, List.forall_mem_cons.mpr ⟨zmo_186, List.forall_mem_cons.mpr ⟨zmo_187, List.forall_mem_cons.mpr ⟨zmo_188, List.forall_mem_cons.mpr ⟨zmo_189, List.forall_mem_cons.mpr ⟨zmo_190, List.forall_mem_cons.mpr ⟨zmo_191, fun _ h => absurd h List.not_mem_nil⟩⟩⟩⟩⟩⟩⟩⟩⟩⟩⟩⟩⟩⟩⟩⟩
noncomputable def zmd_c12 : List zMd := [zmd_192, zmd_193, zmd_194, zmd_195, zmd_196, zmd_197, zmd_198, zmd_199, zmd_200, zmd_201, zmd_202, zmd_203, zmd_204, zmd_205, zmd_206, zmd_207]
theorem zmd_r12 : ∀ q ∈ zmd_c12, zmOK q := List.forall_mem_cons.mpr ⟨zmo_192, List.forall_mem_cons.mpr ⟨zmo_193, List.forall_mem_cons.mpr ⟨zmo_194, List.forall_mem_cons.mpr ⟨zmo_195, List.forall_mem_cons.mpr ⟨zmo_196, List.forall_mem_cons.mpr ⟨zmo_197, List.forall_mem_cons.mpr ⟨zmo_198, List.forall_mem_cons.mpr ⟨zmo_199, List.forall_mem_cons.mpr ⟨zmo_200, List.forall_mem_cons.mpr ⟨zmo_201, List.forall_mem_cons.mpr ⟨zmo_202, List.forall_mem_cons.mpr ⟨zmo_203, List.forall_mem_cons.mpr ⟨zmo_204, List.forall_mem_cons.mpr ⟨zmo_205, List.forall_mem_cons.mpr ⟨zmo_206, List.forall_mem_cons.mpr ⟨zmo_207, fun _ h => absurd h List.not_mem_nil⟩⟩⟩⟩⟩⟩⟩⟩⟩⟩⟩⟩⟩⟩⟩⟩
noncomputable def zmd_c13 : List zMd := [zmd_208, zmd_209, zmd_210, zmd_211, zmd_212, zmd_213, zmd_214, zmd_215, zmd_216, zmd_217, zmd_218, zmd_219, zmd_220, zmd_221, zmd_222, zmd_223]
theorem zmd_r13 : ∀ q ∈ zmd_c13, zmOK q := List.forall_mem_cons.mpr ⟨zmo_208, List.forall_mem_cons.mpr ⟨zmo_209, List.forall_mem_cons.mpr ⟨zmo_210, List.forall_mem_cons.mpr ⟨zmo_211, List.forall_mem_cons.mpr ⟨zmo_212, List.forall_mem_cons.mpr ⟨zmo_213, List.forall_mem_cons.mpr ⟨zmo_214, List.forall_mem_cons.mpr ⟨zmo_215, List.forall_mem_cons.mpr ⟨zmo_216, List.forall_mem_cons.mpr ⟨zmo_217, List.forall_mem_cons.mpr ⟨zmo_218, List.forall_mem_cons.mpr ⟨zmo_219, List.forall_mem_cons.mpr ⟨zmo_220, List.forall_mem_cons.mpr ⟨zmo_221, List.forall_mem_cons.mpr ⟨zmo_222, List.forall_mem_cons.mpr ⟨zmo_223, fun _ h => absurd h List.not_mem_nil⟩⟩⟩⟩⟩⟩⟩⟩⟩⟩⟩⟩⟩⟩⟩⟩
noncomputable def zmd_c14 : List zMd := [zmd_224, zmd_225, zmd_226, zmd_227, zmd_228, zmd_229, zmd_230, zmd_231, zmd_232, zmd_233, zmd_234, zmd_235, zmd_236, zmd_237, zmd_238, zmd_239]
theorem zmd_r14 : ∀ q ∈ zmd_c14, zmOK q := List.forall_mem_cons.mpr ⟨zmo_224, List.forall_mem_cons.mpr ⟨zmo_225, List.forall_mem_cons.mpr ⟨zmo_226, List.forall_mem_cons.mpr ⟨zmo_227, List.forall_mem_cons.mpr ⟨zmo_228, List.forall_mem_cons.mpr ⟨zmo_229, List.forall_mem_cons.mpr ⟨zmo_230, List.forall_mem_cons.mpr ⟨zmo_231, List.forall_mem_cons.mpr ⟨zmo_232, List.forall_mem_cons.mpr ⟨zmo_233, List.forall_mem_cons.mpr ⟨zmo_234, List.forall_mem_cons.mpr ⟨zmo_235, List.forall_mem_cons.mpr ⟨zmo_236, List.forall_mem_cons.mpr ⟨zmo_237, List.forall_mem_cons.mpr ⟨zmo_238, List.forall_mem_cons.mpr ⟨zmo_239, fun _ h => absurd h List.not_mem_nil⟩⟩⟩⟩⟩⟩⟩⟩⟩⟩⟩⟩⟩⟩⟩⟩
noncomputable def zmd_c15 : List zMd := [zmd_240, zmd_241, zmd_242, zmd_243, zmd_244, zmd_245, zmd_246, zmd_247, zmd_248, zmd_249, zmd_250, zmd_251, zmd_252, zmd_253, zmd_254, zmd_255]
theorem zmd_r15 : ∀ q ∈ zmd_c15, zmOK q := List.forall_mem_cons.mpr ⟨zmo_240, List.forall_mem_cons.mpr ⟨zmo_241, List.forall_mem_cons.mpr ⟨zmo_242, List.forall_mem_cons.mpr ⟨zmo_243, List.forall_mem_cons.mpr ⟨zmo_244, List.forall_mem_cons.mpr ⟨zmo_245, List.forall_mem_cons.mpr ⟨zmo_246, List.forall_mem_cons.mpr ⟨zmo_247, List.forall_mem_cons.mpr ⟨zmo_248, List.forall_mem_cons.mpr ⟨zmo_249, List.forall_mem_cons.mpr ⟨zmo_250, List.forall_mem_cons.mpr ⟨zmo_251, List.forall_mem_cons.mpr ⟨zmo_252, List.forall_mem_cons.mpr ⟨zmo_253, List.forall_mem_cons.mpr ⟨zmo_254, List.forall_mem_cons.mpr ⟨zmo_255, fun _ h => absurd h List.not_mem_nil⟩⟩⟩⟩⟩⟩⟩⟩⟩⟩⟩⟩⟩⟩⟩⟩
noncomputable def zmd_c16 : List zMd := [zmd_256, zmd_257, zmd_258, zmd_259, zmd_260, zmd_261, zmd_262, zmd_263, zmd_264, zmd_265, zmd_266, zmd_267, zmd_268, zmd_269, zmd_270, zmd_271]
theorem zmd_r16 : ∀ q ∈ zmd_c16, zmOK q := List.forall_mem_cons.mpr ⟨zmo_256, List.forall_mem_cons.mpr ⟨zmo_257, List.forall_mem_cons.mpr ⟨zmo_258, List.forall_mem_cons.mpr ⟨zmo_259, List.forall_mem_cons.mpr ⟨zmo_260, List.forall_mem_cons.mpr ⟨zmo_261, List.forall_mem_cons.mpr ⟨zmo_262, List.forall_mem_cons.mpr ⟨zmo_263, List.forall_mem_cons.mpr ⟨zmo_264, List.forall_mem_cons.mpr ⟨zmo_265, List.forall_mem_cons.mpr ⟨zmo_266, List.forall_mem_cons.mpr ⟨zmo_267, List.forall_mem_cons.mpr ⟨zmo_268, List.forall_mem_cons.mpr ⟨zmo_269, List.forall_mem_cons.mpr ⟨zmo_270, List.forall_mem_cons.mpr ⟨zmo_271, fun _ h => absurd h List.not_mem_nil⟩⟩⟩⟩⟩⟩⟩⟩⟩⟩⟩⟩⟩⟩⟩⟩
noncomputable def zmd_c17 : List zMd := [zmd_272, zmd_273, zmd_274, zmd_275, zmd_276, zmd_277, zmd_278, zmd_279, zmd_280, zmd_281, zmd_282, zmd_283, zmd_284, zmd_285, zmd_286, zmd_287]
theorem zmd_r17 : ∀ q ∈ zmd_c17, zmOK q := List.forall_mem_cons.mpr ⟨zmo_272, List.forall_mem_cons.mpr ⟨zmo_273, List.forall_mem_cons.mpr ⟨zmo_274, List.forall_mem_cons.mpr ⟨zmo_275, List.forall_mem_cons.mpr ⟨zmo_276, List.forall_mem_cons.mpr ⟨zmo_277, List.forall_mem_cons.mpr ⟨zmo_278, List.forall_mem_cons.mpr ⟨zmo_279, List.forall_mem_cons.mpr ⟨zmo_280, List.forall_mem_cons.mpr ⟨zmo_281, List.forall_mem_cons.mpr ⟨zmo_282, List.forall_mem_cons.mpr ⟨zmo_283, List.forall_mem_cons.mpr ⟨zmo_284, List.forall_mem_cons.mpr ⟨zmo_285, List.forall_mem_cons.mpr ⟨zmo_286, List.forall_mem_cons.mpr ⟨zmo_287, fun _ h => absurd h List.not_mem_nil⟩⟩⟩⟩⟩⟩⟩⟩⟩⟩⟩⟩⟩⟩⟩⟩
noncomputable def zmd_c18 : List zMd := [zmd_288, zmd_289, zmd_290, zmd_291, zmd_292, zmd_293, zmd_294, zmd_295, zmd_296, zmd_297, zmd_298, zmd_299, zmd_300, zmd_301, zmd_302, zmd_303]
theorem zmd_r18 : ∀ q ∈ zmd_c18, zmOK q := List.forall_mem_cons.mpr ⟨zmo_288, List.forall_mem_cons.mpr ⟨zmo_289, List.forall_mem_cons.mpr ⟨zmo_290, List.forall_mem_cons.mpr ⟨zmo_291, List.forall_mem_cons.mpr ⟨zmo_292, List.forall_mem_cons.mpr ⟨zmo_293, List.forall_mem_cons.mpr ⟨zmo_294, List.forall_mem_cons.mpr ⟨zmo_295, List.forall_mem_cons.mpr ⟨zmo_296, List.forall_mem_cons.mpr ⟨zmo_297, List.forall_mem_cons.mpr ⟨zmo_298, List.forall_mem_cons.mpr ⟨zmo_299, List.forall_mem_cons.mpr ⟨zmo_300, List.forall_mem_cons.mpr ⟨zmo_301, List.forall_mem_cons.mpr ⟨zmo_302, List.forall_mem_cons.mpr ⟨zmo_303, fun _ h => absurd h List.not_mem_nil⟩⟩⟩⟩⟩⟩⟩⟩⟩⟩⟩⟩⟩⟩⟩⟩
noncomputable def zmd_c19 : List zMd := [zmd_304, zmd_305, zmd_306, zmd_307, zmd_308, zmd_309, zmd_310, zmd_311, zmd_312, zmd_313, zmd_314, zmd_315, zmd_316, zmd_317, zmd_318, zmd_319]
theorem zmd_r19 : ∀ q ∈ zmd_c19, zmOK q := List.forall_mem_cons.mpr ⟨zmo_304, List.forall_mem_cons.mpr ⟨zmo_305, List.forall_mem_cons.mpr ⟨zmo_306, List.forall_mem_cons.mpr ⟨zmo_307, List.forall_mem_cons.mpr ⟨zmo_308, List.forall_mem_cons.mpr ⟨zmo_309, List.forall_mem_cons.mpr ⟨zmo_310, List.forall_mem_cons.mpr ⟨zmo_311, List.forall_mem_cons.mpr ⟨zmo_312, List.forall_mem_cons.mpr ⟨zmo_313, List.forall_mem_cons.mpr ⟨zmo_314, List.forall_mem_cons.mpr ⟨zmo_315, List.forall_mem_cons.mpr ⟨zmo_316, List.forall_mem_cons.mpr ⟨zmo_317, List.forall_mem_cons.mpr ⟨zmo_318, List.forall_mem_cons.mpr ⟨zmo_319, fun _ h => absurd h List.not_mem_nil⟩⟩⟩⟩⟩⟩⟩⟩⟩⟩⟩⟩⟩⟩⟩⟩
noncomputable def zmd_c20 : List zMd := [zmd_320, zmd_321, zmd_322, zmd_323, zmd_324, zmd_325, zmd_326, zmd_327, zmd_328, zmd_329, zmd_330, zmd_331, zmd_332, zmd_333, zmd_334, zmd_335]
theorem zmd_r20 : ∀ q ∈ zmd_c20, zmOK q := List.forall_mem_cons.mpr ⟨zmo_320, List.forall_mem_cons.mpr ⟨zmo_321, List.forall_mem_cons.mpr ⟨zmo_322, List.forall_mem_cons.mpr ⟨zmo_323, List.forall_mem_cons.mpr ⟨zmo_324, List.forall_mem_cons.mpr ⟨zmo_325, List.forall_mem_cons.mpr ⟨zmo_326, List.forall_mem_cons.mpr ⟨zmo_327, List.forall_mem_cons.mpr ⟨zmo_328, List.forall_mem_cons.mpr ⟨zmo_329, List.forall_mem_cons.mpr ⟨zmo_330, List.forall_mem_cons.mpr ⟨zmo_331, List.forall_mem_cons.mpr ⟨zmo_332, List.forall_mem_cons.mpr ⟨zmo_333, List.forall_mem_cons.mpr ⟨zmo_334, List.forall_mem_cons.mpr ⟨zmo_335, fun _ h => absurd h List.not_mem_nil⟩⟩⟩⟩⟩⟩⟩⟩⟩⟩⟩⟩⟩⟩⟩⟩
noncomputable def zmd_c21 : List zMd := [zmd_336, zmd_337, zmd_338, zmd_339, zmd_340, zmd_341, zmd_342, zmd_343, zmd_344, zmd_345, zmd_346, zmd_347, zmd_348, zmd_349, zmd_350, zmd_351]
theorem zmd_r21 : ∀ q ∈ zmd_c21, zmOK q := List.forall_mem_cons.mpr ⟨zmo_336, List.forall_mem_cons.mpr ⟨zmo_337, List.forall_mem_cons.mpr ⟨zmo_338, List.forall_mem_cons.mpr ⟨zmo_339, List.forall_mem_cons.mpr ⟨zmo_340, List.forall_mem_cons.mpr ⟨zmo_341, List.forall_mem_cons.mpr ⟨zmo_342, List.forall_mem_cons.mpr ⟨zmo_343, List.forall_mem_cons.mpr ⟨zmo_344, List.forall_mem_cons.mpr ⟨zmo_345, List.forall_mem_cons.mpr ⟨zmo_346, List.forall_mem_cons.mpr ⟨zmo_347, List.forall_mem_cons.mpr ⟨zmo_348, List.forall_mem_cons.mpr ⟨zmo_349, List.forall_mem_cons.mpr ⟨zmo_350, List.forall_mem_cons.mpr ⟨zmo_351, fun _ h => absurd h List.not_mem_nil⟩⟩⟩⟩⟩⟩⟩⟩⟩⟩⟩⟩⟩⟩⟩⟩
noncomputable def zmd : List zMd := zmd_c0 ++ (zmd_c1 ++ (zmd_c2 ++ (zmd_c3 ++ (zmd_c4 ++ (zmd_c5 ++ (zmd_c6 ++ (zmd_c7 ++ (zmd_c8 ++ (zmd_c9 ++ (zmd_c10 ++ (zmd_c11 ++ (zmd_c12 ++ (zmd_c13 ++ (zmd_c14 ++ (zmd_c15 ++ (zmd_c16 ++ (zmd_c17 ++ (zmd_c18 ++ (zmd_c19 ++ (zmd_c20 ++ (zmd_c21)))))))))))))))))))))
theorem zmd_ok : ∀ q ∈ zmd, zmOK q := List.forall_mem_append.mpr ⟨zmd_r0, List.forall_mem_append.mpr ⟨zmd_r1, List.forall_mem_append.mpr ⟨zmd_r2, List.forall_mem_append.mpr ⟨zmd_r3, List.forall_mem_append.mpr ⟨zmd_r4, List.forall_mem_append.mpr ⟨zmd_r5, List.forall_mem_append.mpr ⟨zmd_r6, List.forall_mem_append.mpr ⟨zmd_r7, List.forall_mem_append.mpr ⟨zmd_r8, List.forall_mem_append.mpr ⟨zmd_r9, List.forall_mem_append.mpr ⟨zmd_r10, List.forall_mem_append.mpr ⟨zmd_r11, List.forall_mem_append.mpr ⟨zmd_r12, List.forall_mem_append.mpr ⟨zmd_r13, List.forall_mem_append.mpr ⟨zmd_r14, List.forall_mem_append.mpr ⟨zmd_r15, List.forall_mem_append.mpr ⟨zmd_r16, List.forall_mem_append.mpr ⟨zmd_r17, List.forall_mem_append.mpr ⟨zmd_r18, List.forall_mem_append.mpr ⟨zmd_r19, List.forall_mem_append.mpr ⟨zmd_r20, zmd_r21⟩⟩⟩⟩⟩⟩⟩⟩⟩⟩⟩⟩⟩⟩⟩⟩⟩⟩⟩⟩⟩
/-- an entry of a call: own class, index, method, host ("" = plain) -/
abbrev zMe : Type := Nat × Nat × Nat × String
def zeOK (e : zMe) : Prop := ∃ q : zMd, znth zmd e.2.2.1 = some q ∧ ((e.2.2.2 = "" → Jvm.Cond.methodLink (zcnOf e.1) e.2.1 q.1 ∈ lw_tbl) ∧ (e.2.2.2 ≠ "" → Jvm.Cond.methodLinkNest (zcnOf e.1) e.2.1 q.1 e.2.2.2 ∈ lw_tbl))
set_option maxRecDepth 100000 in
theorem zme_0 : zeOK (1, 9, 48, "RaysOfShapes") := ⟨zmd_48, rfl, fun h => absurd h (by decide +kernel), fun _ => zsub_1 (List.mem_of_getElem? (i := 69) rfl)⟩
set_option maxRecDepth 100000 in
theorem zme_1 : zeOK (1, 34, 339, "") := ⟨zmd_339, rfl, fun _ => zsub_5 (List.mem_of_getElem? (i := 191) rfl), fun h => absurd rfl h⟩
set_option maxRecDepth 100000 in
theorem zme_2 : zeOK (1, 40, 55, "") := ⟨zmd_55, rfl, fun _ => zsub_5 (List.mem_of_getElem? (i := 192) rfl), fun h => absurd rfl h⟩
set_option maxRecDepth 100000 in
theorem zme_3 : zeOK (1, 44, 56, "") := ⟨zmd_56, rfl, fun _ => zsub_5 (List.mem_of_getElem? (i := 197) rfl), fun h => absurd rfl h⟩
set_option maxRecDepth 100000 in
theorem zme_4 : zeOK (1, 48, 343, "") := ⟨zmd_343, rfl, fun _ => zsub_5 (List.mem_of_getElem? (i := 201) rfl), fun h => absurd rfl h⟩
set_option maxRecDepth 100000 in
theorem zme_5 : zeOK (1, 51, 57, "") := ⟨zmd_57, rfl, fun _ => zsub_5 (List.mem_of_getElem? (i := 202) rfl), fun h => absurd rfl h⟩
set_option maxRecDepth 100000 in
theorem zme_6 : zeOK (1, 55, 53, "") := ⟨zmd_53, rfl, fun _ => zsub_6 (List.mem_of_getElem? (i := 32) rfl), fun h => absurd rfl h⟩
set_option maxRecDepth 100000 in
theorem zme_7 : zeOK (2, 16, 340, "") := ⟨zmd_340, rfl, fun _ => zsub_3 (List.mem_of_getElem? (i := 37) rfl), fun h => absurd rfl h⟩
set_option maxRecDepth 100000 in
theorem zme_8 : zeOK (2, 22, 15, "") := ⟨zmd_15, rfl, fun _ => zsub_3 (List.mem_of_getElem? (i := 16) rfl), fun h => absurd rfl h⟩
set_option maxRecDepth 100000 in
theorem zme_9 : zeOK (2, 26, 18, "") := ⟨zmd_18, rfl, fun _ => zsub_3 (List.mem_of_getElem? (i := 20) rfl), fun h => absurd rfl h⟩
set_option maxRecDepth 100000 in
theorem zme_10 : zeOK (2, 30, 17, "") := ⟨zmd_17, rfl, fun _ => zsub_3 (List.mem_of_getElem? (i := 33) rfl), fun h => absurd rfl h⟩
set_option maxRecDepth 100000 in
theorem zme_11 : zeOK (3, 18, 29, "") := ⟨zmd_29, rfl, fun _ => zsub_4 (List.mem_of_getElem? (i := 185) rfl), fun h => absurd rfl h⟩
set_option maxRecDepth 100000 in
theorem zme_12 : zeOK (3, 22, 31, "") := ⟨zmd_31, rfl, fun _ => zsub_4 (List.mem_of_getElem? (i := 186) rfl), fun h => absurd rfl h⟩
set_option maxRecDepth 100000 in
theorem zme_13 : zeOK (3, 26, 32, "") := ⟨zmd_32, rfl, fun _ => zsub_4 (List.mem_of_getElem? (i := 98) rfl), fun h => absurd rfl h⟩
set_option maxRecDepth 100000 in
theorem zme_14 : zeOK (3, 30, 200, "RaysOfShapes") := ⟨zmd_200, rfl, fun h => absurd h (by decide +kernel), fun _ => zsub_4 (List.mem_of_getElem? (i := 101) rfl)⟩
set_option maxRecDepth 100000 in
theorem zme_15 : zeOK (3, 34, 203, "RaysOfShapes") := ⟨zmd_203, rfl, fun h => absurd h (by decide +kernel), fun _ => zsub_4 (List.mem_of_getElem? (i := 102) rfl)⟩
set_option maxRecDepth 100000 in
theorem zme_16 : zeOK (4, 21, 48, "RaysOfShapes") := ⟨zmd_48, rfl, fun h => absurd h (by decide +kernel), fun _ => zsub_1 (List.mem_of_getElem? (i := 161) rfl)⟩
set_option maxRecDepth 100000 in
theorem zme_17 : zeOK (4, 28, 41, "") := ⟨zmd_41, rfl, fun _ => zsub_1 (List.mem_of_getElem? (i := 164) rfl), fun h => absurd rfl h⟩
set_option maxRecDepth 100000 in
theorem zme_18 : zeOK (4, 35, 92, "") := ⟨zmd_92, rfl, fun _ => zsub_1 (List.mem_of_getElem? (i := 191) rfl), fun h => absurd rfl h⟩
set_option maxRecDepth 100000 in
theorem zme_19 : zeOK (4, 40, 341, "") := ⟨zmd_341, rfl, fun _ => zsub_4 (List.mem_of_getElem? (i := 163) rfl), fun h => absurd rfl h⟩
set_option maxRecDepth 100000 in
theorem zme_20 : zeOK (4, 46, 52, "") := ⟨zmd_52, rfl, fun _ => zsub_2 (List.mem_of_getElem? (i := 197) rfl), fun h => absurd rfl h⟩
set_option maxRecDepth 100000 in
theorem zme_21 : zeOK (4, 49, 39, "") := ⟨zmd_39, rfl, fun _ => zsub_2 (List.mem_of_getElem? (i := 201) rfl), fun h => absurd rfl h⟩
set_option maxRecDepth 100000 in
theorem zme_22 : zeOK (4, 53, 37, "") := ⟨zmd_37, rfl, fun _ => zsub_5 (List.mem_of_getElem? (i := 38) rfl), fun h => absurd rfl h⟩
set_option maxRecDepth 100000 in
theorem zme_23 : zeOK (4, 57, 209, "RaysOfShapes") := ⟨zmd_209, rfl, fun h => absurd h (by decide +kernel), fun _ => zsub_2 (List.mem_of_getElem? (i := 205) rfl)⟩
set_option maxRecDepth 100000 in
theorem zme_24 : zeOK (4, 60, 42, "") := ⟨zmd_42, rfl, fun _ => zsub_2 (List.mem_of_getElem? (i := 211) rfl), fun h => absurd rfl h⟩
set_option maxRecDepth 100000 in
theorem zme_25 : zeOK (4, 64, 13, "") := ⟨zmd_13, rfl, fun _ => zsub_3 (List.mem_of_getElem? (i := 62) rfl), fun h => absurd rfl h⟩
set_option maxRecDepth 100000 in
theorem zme_26 : zeOK (4, 70, 50, "") := ⟨zmd_50, rfl, fun _ => zsub_3 (List.mem_of_getElem? (i := 66) rfl), fun h => absurd rfl h⟩
set_option maxRecDepth 100000 in
theorem zme_27 : zeOK (4, 74, 93, "") := ⟨zmd_93, rfl, fun _ => zsub_3 (List.mem_of_getElem? (i := 73) rfl), fun h => absurd rfl h⟩
set_option maxRecDepth 100000 in
theorem zme_28 : zeOK (4, 78, 94, "") := ⟨zmd_94, rfl, fun _ => zsub_3 (List.mem_of_getElem? (i := 77) rfl), fun h => absurd rfl h⟩
set_option maxRecDepth 100000 in
theorem zme_29 : zeOK (4, 81, 97, "") := ⟨zmd_97, rfl, fun _ => zsub_3 (List.mem_of_getElem? (i := 81) rfl), fun h => absurd rfl h⟩
set_option maxRecDepth 100000 in
theorem zme_30 : zeOK (4, 85, 96, "") := ⟨zmd_96, rfl, fun _ => zsub_3 (List.mem_of_getElem? (i := 157) rfl), fun h => absurd rfl h⟩
set_option maxRecDepth 100000 in
theorem zme_31 : zeOK (4, 89, 51, "") := ⟨zmd_51, rfl, fun _ => zsub_3 (List.mem_of_getElem? (i := 161) rfl), fun h => absurd rfl h⟩
set_option maxRecDepth 100000 in
theorem zme_32 : zeOK (4, 93, 95, "") := ⟨zmd_95, rfl, fun _ => zsub_3 (List.mem_of_getElem? (i := 169) rfl), fun h => absurd rfl h⟩
set_option maxRecDepth 100000 in
theorem zme_33 : zeOK (4, 96, 40, "") := ⟨zmd_40, rfl, fun _ => zsub_3 (List.mem_of_getElem? (i := 173) rfl), fun h => absurd rfl h⟩
set_option maxRecDepth 100000 in
theorem zme_34 : zeOK (4, 99, 208, "RaysOfShapes") := ⟨zmd_208, rfl, fun h => absurd h (by decide +kernel), fun _ => zsub_3 (List.mem_of_getElem? (i := 177) rfl)⟩
set_option maxRecDepth 100000 in
theorem zme_35 : zeOK (5, 21, 10, "RaysOfShapes") := ⟨zmd_10, rfl, fun h => absurd h (by decide +kernel), fun _ => zsub_1 (List.mem_of_getElem? (i := 171) rfl)⟩
set_option maxRecDepth 100000 in
theorem zme_36 : zeOK (5, 22, 43, "") := ⟨zmd_43, rfl, fun _ => zsub_2 (List.mem_of_getElem? (i := 215) rfl), fun h => absurd rfl h⟩
set_option maxRecDepth 100000 in
theorem zme_37 : zeOK (5, 26, 112, "") := ⟨zmd_112, rfl, fun _ => zsub_2 (List.mem_of_getElem? (i := 219) rfl), fun h => absurd rfl h⟩
set_option maxRecDepth 100000 in
theorem zme_38 : zeOK (5, 32, 27, "") := ⟨zmd_27, rfl, fun _ => zsub_2 (List.mem_of_getElem? (i := 220) rfl), fun h => absurd rfl h⟩
set_option maxRecDepth 100000 in
theorem zme_39 : zeOK (5, 38, 44, "") := ⟨zmd_44, rfl, fun _ => zsub_2 (List.mem_of_getElem? (i := 223) rfl), fun h => absurd rfl h⟩
set_option maxRecDepth 100000 in
theorem zme_40 : zeOK (5, 42, 16, "") := ⟨zmd_16, rfl, fun _ => zsub_2 (List.mem_of_getElem? (i := 235) rfl), fun h => absurd rfl h⟩
set_option maxRecDepth 100000 in
theorem zme_41 : zeOK (5, 46, 28, "") := ⟨zmd_28, rfl, fun _ => zsub_2 (List.mem_of_getElem? (i := 239) rfl), fun h => absurd rfl h⟩
set_option maxRecDepth 100000 in
theorem zme_42 : zeOK (5, 49, 45, "") := ⟨zmd_45, rfl, fun _ => zsub_3 (List.mem_of_getElem? (i := 2) rfl), fun h => absurd rfl h⟩
set_option maxRecDepth 100000 in
theorem zme_43 : zeOK (5, 52, 46, "") := ⟨zmd_46, rfl, fun _ => zsub_3 (List.mem_of_getElem? (i := 40) rfl), fun h => absurd rfl h⟩
set_option maxRecDepth 100000 in
theorem zme_44 : zeOK (5, 56, 118, "") := ⟨zmd_118, rfl, fun _ => zsub_2 (List.mem_of_getElem? (i := 228) rfl), fun h => absurd rfl h⟩
set_option maxRecDepth 100000 in
theorem zme_45 : zeOK (5, 60, 341, "") := ⟨zmd_341, rfl, fun _ => zsub_2 (List.mem_of_getElem? (i := 232) rfl), fun h => absurd rfl h⟩
set_option maxRecDepth 100000 in
theorem zme_46 : zeOK (5, 65, 113, "") := ⟨zmd_113, rfl, fun _ => zsub_3 (List.mem_of_getElem? (i := 6) rfl), fun h => absurd rfl h⟩
set_option maxRecDepth 100000 in
theorem zme_47 : zeOK (5, 68, 114, "") := ⟨zmd_114, rfl, fun _ => zsub_3 (List.mem_of_getElem? (i := 7) rfl), fun h => absurd rfl h⟩
set_option maxRecDepth 100000 in
theorem zme_48 : zeOK (5, 71, 18, "") := ⟨zmd_18, rfl, fun _ => zsub_3 (List.mem_of_getElem? (i := 8) rfl), fun h => absurd rfl h⟩
set_option maxRecDepth 100000 in
theorem zme_49 : zeOK (5, 75, 19, "") := ⟨zmd_19, rfl, fun _ => zsub_3 (List.mem_of_getElem? (i := 12) rfl), fun h => absurd rfl h⟩
set_option maxRecDepth 100000 in
theorem zme_50 : zeOK (5, 78, 20, "") := ⟨zmd_20, rfl, fun _ => zsub_3 (List.mem_of_getElem? (i := 21) rfl), fun h => absurd rfl h⟩
set_option maxRecDepth 100000 in
theorem zme_51 : zeOK (5, 81, 22, "") := ⟨zmd_22, rfl, fun _ => zsub_3 (List.mem_of_getElem? (i := 25) rfl), fun h => absurd rfl h⟩
set_option maxRecDepth 100000 in
theorem zme_52 : zeOK (5, 84, 25, "") := ⟨zmd_25, rfl, fun _ => zsub_3 (List.mem_of_getElem? (i := 29) rfl), fun h => absurd rfl h⟩
set_option maxRecDepth 100000 in
theorem zme_53 : zeOK (5, 88, 47, "") := ⟨zmd_47, rfl, fun _ => zsub_3 (List.mem_of_getElem? (i := 44) rfl), fun h => absurd rfl h⟩
set_option maxRecDepth 100000 in
theorem zme_54 : zeOK (5, 92, 23, "") := ⟨zmd_23, rfl, fun _ => zsub_3 (List.mem_of_getElem? (i := 54) rfl), fun h => absurd rfl h⟩
set_option maxRecDepth 100000 in
theorem zme_55 : zeOK (5, 95, 24, "") := ⟨zmd_24, rfl, fun _ => zsub_3 (List.mem_of_getElem? (i := 58) rfl), fun h => absurd rfl h⟩
set_option maxRecDepth 100000 in
theorem zme_56 : zeOK (5, 99, 339, "") := ⟨zmd_339, rfl, fun _ => zsub_3 (List.mem_of_getElem? (i := 48) rfl), fun h => absurd rfl h⟩
set_option maxRecDepth 100000 in
theorem zme_57 : zeOK (5, 102, 203, "RaysOfShapes") := ⟨zmd_203, rfl, fun h => absurd h (by decide +kernel), fun _ => zsub_3 (List.mem_of_getElem? (i := 51) rfl)⟩
set_option maxRecDepth 100000 in
theorem zme_58 : zeOK (6, 15, 202, "RaysOfShapes") := ⟨zmd_202, rfl, fun h => absurd h (by decide +kernel), fun _ => zsub_3 (List.mem_of_getElem? (i := 70) rfl)⟩
set_option maxRecDepth 100000 in
theorem zme_59 : zeOK (6, 19, 208, "RaysOfShapes") := ⟨zmd_208, rfl, fun h => absurd h (by decide +kernel), fun _ => zsub_3 (List.mem_of_getElem? (i := 165) rfl)⟩
set_option maxRecDepth 100000 in
theorem zme_60 : zeOK (6, 23, 50, "") := ⟨zmd_50, rfl, fun _ => zsub_3 (List.mem_of_getElem? (i := 168) rfl), fun h => absurd rfl h⟩
set_option maxRecDepth 100000 in
theorem zme_61 : zeOK (6, 27, 52, "") := ⟨zmd_52, rfl, fun _ => zsub_6 (List.mem_of_getElem? (i := 4) rfl), fun h => absurd rfl h⟩
set_option maxRecDepth 100000 in
theorem zme_62 : zeOK (6, 30, 341, "") := ⟨zmd_341, rfl, fun _ => zsub_6 (List.mem_of_getElem? (i := 5) rfl), fun h => absurd rfl h⟩
set_option maxRecDepth 100000 in
theorem zme_63 : zeOK (6, 36, 343, "") := ⟨zmd_343, rfl, fun _ => zsub_6 (List.mem_of_getElem? (i := 6) rfl), fun h => absurd rfl h⟩
set_option maxRecDepth 100000 in
theorem zme_64 : zeOK (6, 41, 338, "") := ⟨zmd_338, rfl, fun _ => zsub_3 (List.mem_of_getElem? (i := 182) rfl), fun h => absurd rfl h⟩
set_option maxRecDepth 100000 in
theorem zme_65 : zeOK (6, 47, 49, "") := ⟨zmd_49, rfl, fun _ => zsub_5 (List.mem_of_getElem? (i := 47) rfl), fun h => absurd rfl h⟩
set_option maxRecDepth 100000 in
theorem zme_66 : zeOK (7, 46, 69, "") := ⟨zmd_69, rfl, fun _ => zsub_3 (List.mem_of_getElem? (i := 233) rfl), fun h => absurd rfl h⟩
set_option maxRecDepth 100000 in
theorem zme_67 : zeOK (7, 50, 75, "") := ⟨zmd_75, rfl, fun _ => zsub_3 (List.mem_of_getElem? (i := 237) rfl), fun h => absurd rfl h⟩
set_option maxRecDepth 100000 in
theorem zme_68 : zeOK (7, 53, 77, "") := ⟨zmd_77, rfl, fun _ => zsub_4 (List.mem_of_getElem? (i := 5) rfl), fun h => absurd rfl h⟩
set_option maxRecDepth 100000 in
theorem zme_69 : zeOK (7, 57, 73, "") := ⟨zmd_73, rfl, fun _ => zsub_4 (List.mem_of_getElem? (i := 79) rfl), fun h => absurd rfl h⟩
set_option maxRecDepth 100000 in
theorem zme_70 : zeOK (7, 61, 29, "") := ⟨zmd_29, rfl, fun _ => zsub_4 (List.mem_of_getElem? (i := 83) rfl), fun h => absurd rfl h⟩
set_option maxRecDepth 100000 in
theorem zme_71 : zeOK (7, 67, 79, "") := ⟨zmd_79, rfl, fun _ => zsub_4 (List.mem_of_getElem? (i := 88) rfl), fun h => absurd rfl h⟩
set_option maxRecDepth 100000 in
theorem zme_72 : zeOK (7, 71, 27, "") := ⟨zmd_27, rfl, fun _ => zsub_4 (List.mem_of_getElem? (i := 103) rfl), fun h => absurd rfl h⟩
set_option maxRecDepth 100000 in
theorem zme_73 : zeOK (7, 74, 72, "") := ⟨zmd_72, rfl, fun _ => zsub_4 (List.mem_of_getElem? (i := 104) rfl), fun h => absurd rfl h⟩
set_option maxRecDepth 100000 in
theorem zme_74 : zeOK (7, 78, 71, "") := ⟨zmd_71, rfl, fun _ => zsub_4 (List.mem_of_getElem? (i := 132) rfl), fun h => absurd rfl h⟩
set_option maxRecDepth 100000 in
theorem zme_75 : zeOK (7, 82, 76, "") := ⟨zmd_76, rfl, fun _ => zsub_4 (List.mem_of_getElem? (i := 138) rfl), fun h => absurd rfl h⟩
set_option maxRecDepth 100000 in
theorem zme_76 : zeOK (7, 85, 70, "") := ⟨zmd_70, rfl, fun _ => zsub_4 (List.mem_of_getElem? (i := 147) rfl), fun h => absurd rfl h⟩
set_option maxRecDepth 100000 in
theorem zme_77 : zeOK (7, 94, 343, "") := ⟨zmd_343, rfl, fun _ => zsub_4 (List.mem_of_getElem? (i := 136) rfl), fun h => absurd rfl h⟩
set_option maxRecDepth 100000 in
theorem zme_78 : zeOK (7, 100, 28, "") := ⟨zmd_28, rfl, fun _ => zsub_4 (List.mem_of_getElem? (i := 137) rfl), fun h => absurd rfl h⟩
set_option maxRecDepth 100000 in
theorem zme_79 : zeOK (7, 103, 119, "") := ⟨zmd_119, rfl, fun _ => zsub_4 (List.mem_of_getElem? (i := 142) rfl), fun h => absurd rfl h⟩
set_option maxRecDepth 100000 in
theorem zme_80 : zeOK (7, 109, 110, "") := ⟨zmd_110, rfl, fun _ => zsub_4 (List.mem_of_getElem? (i := 108) rfl), fun h => absurd rfl h⟩
set_option maxRecDepth 100000 in
theorem zme_81 : zeOK (7, 111, 122, "") := ⟨zmd_122, rfl, fun _ => zsub_4 (List.mem_of_getElem? (i := 109) rfl), fun h => absurd rfl h⟩
set_option maxRecDepth 100000 in
theorem zme_82 : zeOK (7, 114, 74, "") := ⟨zmd_74, rfl, fun _ => zsub_4 (List.mem_of_getElem? (i := 1) rfl), fun h => absurd rfl h⟩
set_option maxRecDepth 100000 in
theorem zme_83 : zeOK (7, 117, 200, "RaysOfShapes") := ⟨zmd_200, rfl, fun h => absurd h (by decide +kernel), fun _ => zsub_4 (List.mem_of_getElem? (i := 9) rfl)⟩
set_option maxRecDepth 100000 in
theorem zme_84 : zeOK (7, 120, 34, "") := ⟨zmd_34, rfl, fun _ => zsub_4 (List.mem_of_getElem? (i := 10) rfl), fun h => absurd rfl h⟩
set_option maxRecDepth 100000 in
theorem zme_85 : zeOK (7, 124, 78, "") := ⟨zmd_78, rfl, fun _ => zsub_4 (List.mem_of_getElem? (i := 27) rfl), fun h => absurd rfl h⟩
set_option maxRecDepth 100000 in
theorem zme_86 : zeOK (7, 128, 345, "") := ⟨zmd_345, rfl, fun _ => zsub_4 (List.mem_of_getElem? (i := 31) rfl), fun h => absurd rfl h⟩
set_option maxRecDepth 100000 in
theorem zme_87 : zeOK (7, 133, 346, "") := ⟨zmd_346, rfl, fun _ => zsub_4 (List.mem_of_getElem? (i := 41) rfl), fun h => absurd rfl h⟩
set_option maxRecDepth 100000 in
theorem zme_88 : zeOK (7, 137, 33, "") := ⟨zmd_33, rfl, fun _ => zsub_4 (List.mem_of_getElem? (i := 92) rfl), fun h => absurd rfl h⟩
set_option maxRecDepth 100000 in
theorem zme_89 : zeOK (7, 140, 31, "") := ⟨zmd_31, rfl, fun _ => zsub_4 (List.mem_of_getElem? (i := 95) rfl), fun h => absurd rfl h⟩
set_option maxRecDepth 100000 in
theorem zme_90 : zeOK (8, 22, 201, "RaysOfShapes") := ⟨zmd_201, rfl, fun h => absurd h (by decide +kernel), fun _ => zsub_2 (List.mem_of_getElem? (i := 89) rfl)⟩
set_option maxRecDepth 100000 in
theorem zme_91 : zeOK (8, 26, 200, "RaysOfShapes") := ⟨zmd_200, rfl, fun h => absurd h (by decide +kernel), fun _ => zsub_2 (List.mem_of_getElem? (i := 114) rfl)⟩
set_option maxRecDepth 100000 in
theorem zme_92 : zeOK (8, 30, 87, "") := ⟨zmd_87, rfl, fun _ => zsub_2 (List.mem_of_getElem? (i := 110) rfl), fun h => absurd rfl h⟩
set_option maxRecDepth 100000 in
theorem zme_93 : zeOK (8, 34, 90, "") := ⟨zmd_90, rfl, fun _ => zsub_2 (List.mem_of_getElem? (i := 115) rfl), fun h => absurd rfl h⟩
set_option maxRecDepth 100000 in
theorem zme_94 : zeOK (9, 24, 10, "RaysOfShapes") := ⟨zmd_10, rfl, fun h => absurd h (by decide +kernel), fun _ => zsub_1 (List.mem_of_getElem? (i := 196) rfl)⟩
set_option maxRecDepth 100000 in
theorem zme_95 : zeOK (9, 25, 98, "") := ⟨zmd_98, rfl, fun _ => zsub_3 (List.mem_of_getElem? (i := 85) rfl), fun h => absurd rfl h⟩
set_option maxRecDepth 100000 in
theorem zme_96 : zeOK (9, 29, 112, "") := ⟨zmd_112, rfl, fun _ => zsub_3 (List.mem_of_getElem? (i := 89) rfl), fun h => absurd rfl h⟩
set_option maxRecDepth 100000 in
theorem zme_97 : zeOK (9, 35, 99, "") := ⟨zmd_99, rfl, fun _ => zsub_3 (List.mem_of_getElem? (i := 90) rfl), fun h => absurd rfl h⟩
set_option maxRecDepth 100000 in
theorem zme_98 : zeOK (9, 38, 100, "") := ⟨zmd_100, rfl, fun _ => zsub_3 (List.mem_of_getElem? (i := 100) rfl), fun h => absurd rfl h⟩
set_option maxRecDepth 100000 in
theorem zme_99 : zeOK (9, 41, 101, "") := ⟨zmd_101, rfl, fun _ => zsub_3 (List.mem_of_getElem? (i := 105) rfl), fun h => absurd rfl h⟩
set_option maxRecDepth 100000 in
theorem zme_100 : zeOK (9, 44, 102, "") := ⟨zmd_102, rfl, fun _ => zsub_3 (List.mem_of_getElem? (i := 109) rfl), fun h => absurd rfl h⟩
set_option maxRecDepth 100000 in
theorem zme_101 : zeOK (9, 47, 103, "") := ⟨zmd_103, rfl, fun _ => zsub_3 (List.mem_of_getElem? (i := 120) rfl), fun h => absurd rfl h⟩
set_option maxRecDepth 100000 in
theorem zme_102 : zeOK (9, 50, 118, "") := ⟨zmd_118, rfl, fun _ => zsub_3 (List.mem_of_getElem? (i := 94) rfl), fun h => absurd rfl h⟩
set_option maxRecDepth 100000 in
theorem zme_103 : zeOK (9, 54, 343, "") := ⟨zmd_343, rfl, fun _ => zsub_3 (List.mem_of_getElem? (i := 95) rfl), fun h => absurd rfl h⟩
set_option maxRecDepth 100000 in
theorem zme_104 : zeOK (9, 59, 341, "") := ⟨zmd_341, rfl, fun _ => zsub_3 (List.mem_of_getElem? (i := 98) rfl), fun h => absurd rfl h⟩
set_option maxRecDepth 100000 in
theorem zme_105 : zeOK (9, 62, 16, "") := ⟨zmd_16, rfl, fun _ => zsub_3 (List.mem_of_getElem? (i := 99) rfl), fun h => absurd rfl h⟩
set_option maxRecDepth 100000 in
theorem zme_106 : zeOK (9, 67, 113, "") := ⟨zmd_113, rfl, fun _ => zsub_3 (List.mem_of_getElem? (i := 113) rfl), fun h => absurd rfl h⟩
set_option maxRecDepth 100000 in
theorem zme_107 : zeOK (9, 70, 114, "") := ⟨zmd_114, rfl, fun _ => zsub_3 (List.mem_of_getElem? (i := 114) rfl), fun h => absurd rfl h⟩
set_option maxRecDepth 100000 in
theorem zme_108 : zeOK (9, 73, 18, "") := ⟨zmd_18, rfl, fun _ => zsub_3 (List.mem_of_getElem? (i := 115) rfl), fun h => absurd rfl h⟩
set_option maxRecDepth 100000 in
theorem zme_109 : zeOK (9, 77, 19, "") := ⟨zmd_19, rfl, fun _ => zsub_3 (List.mem_of_getElem? (i := 116) rfl), fun h => absurd rfl h⟩
set_option maxRecDepth 100000 in
theorem zme_110 : zeOK (9, 80, 20, "") := ⟨zmd_20, rfl, fun _ => zsub_3 (List.mem_of_getElem? (i := 117) rfl), fun h => absurd rfl h⟩
set_option maxRecDepth 100000 in
theorem zme_111 : zeOK (9, 83, 22, "") := ⟨zmd_22, rfl, fun _ => zsub_3 (List.mem_of_getElem? (i := 118) rfl), fun h => absurd rfl h⟩
set_option maxRecDepth 100000 in
theorem zme_112 : zeOK (9, 86, 25, "") := ⟨zmd_25, rfl, fun _ => zsub_3 (List.mem_of_getElem? (i := 119) rfl), fun h => absurd rfl h⟩
set_option maxRecDepth 100000 in
theorem zme_113 : zeOK (9, 90, 105, "") := ⟨zmd_105, rfl, fun _ => zsub_3 (List.mem_of_getElem? (i := 124) rfl), fun h => absurd rfl h⟩
set_option maxRecDepth 100000 in
theorem zme_114 : zeOK (9, 94, 104, "") := ⟨zmd_104, rfl, fun _ => zsub_3 (List.mem_of_getElem? (i := 142) rfl), fun h => absurd rfl h⟩
set_option maxRecDepth 100000 in
theorem zme_115 : zeOK (9, 98, 24, "") := ⟨zmd_24, rfl, fun _ => zsub_3 (List.mem_of_getElem? (i := 156) rfl), fun h => absurd rfl h⟩
set_option maxRecDepth 100000 in
theorem zme_116 : zeOK (9, 102, 13, "") := ⟨zmd_13, rfl, fun _ => zsub_3 (List.mem_of_getElem? (i := 145) rfl), fun h => absurd rfl h⟩
set_option maxRecDepth 100000 in
theorem zme_117 : zeOK (9, 106, 14, "") := ⟨zmd_14, rfl, fun _ => zsub_3 (List.mem_of_getElem? (i := 146) rfl), fun h => absurd rfl h⟩
set_option maxRecDepth 100000 in
theorem zme_118 : zeOK (9, 109, 23, "") := ⟨zmd_23, rfl, fun _ => zsub_3 (List.mem_of_getElem? (i := 150) rfl), fun h => absurd rfl h⟩
set_option maxRecDepth 100000 in
theorem zme_119 : zeOK (9, 112, 15, "") := ⟨zmd_15, rfl, fun _ => zsub_3 (List.mem_of_getElem? (i := 151) rfl), fun h => absurd rfl h⟩
set_option maxRecDepth 100000 in
theorem zme_120 : zeOK (9, 116, 21, "") := ⟨zmd_21, rfl, fun _ => zsub_3 (List.mem_of_getElem? (i := 152) rfl), fun h => absurd rfl h⟩
set_option maxRecDepth 100000 in
theorem zme_121 : zeOK (9, 119, 203, "RaysOfShapes") := ⟨zmd_203, rfl, fun h => absurd h (by decide +kernel), fun _ => zsub_3 (List.mem_of_getElem? (i := 128) rfl)⟩
set_option maxRecDepth 100000 in
theorem zme_122 : zeOK (9, 123, 106, "") := ⟨zmd_106, rfl, fun _ => zsub_3 (List.mem_of_getElem? (i := 129) rfl), fun h => absurd rfl h⟩
set_option maxRecDepth 100000 in
theorem zme_123 : zeOK (9, 126, 107, "") := ⟨zmd_107, rfl, fun _ => zsub_3 (List.mem_of_getElem? (i := 134) rfl), fun h => absurd rfl h⟩
set_option maxRecDepth 100000 in
theorem zme_124 : zeOK (9, 129, 108, "") := ⟨zmd_108, rfl, fun _ => zsub_3 (List.mem_of_getElem? (i := 138) rfl), fun h => absurd rfl h⟩
set_option maxRecDepth 100000 in
theorem zme_125 : zeOK (9, 132, 339, "") := ⟨zmd_339, rfl, fun _ => zsub_3 (List.mem_of_getElem? (i := 133) rfl), fun h => absurd rfl h⟩
set_option maxRecDepth 100000 in
theorem zme_126 : zeOK (10, 37, 120, "") := ⟨zmd_120, rfl, fun _ => zsub_4 (List.mem_of_getElem? (i := 113) rfl), fun h => absurd rfl h⟩
set_option maxRecDepth 100000 in
theorem zme_127 : zeOK (10, 41, 121, "") := ⟨zmd_121, rfl, fun _ => zsub_4 (List.mem_of_getElem? (i := 120) rfl), fun h => absurd rfl h⟩
set_option maxRecDepth 100000 in
theorem zme_128 : zeOK (10, 44, 27, "") := ⟨zmd_27, rfl, fun _ => zsub_4 (List.mem_of_getElem? (i := 117) rfl), fun h => absurd rfl h⟩
set_option maxRecDepth 100000 in
theorem zme_129 : zeOK (10, 50, 115, "") := ⟨zmd_115, rfl, fun _ => zsub_4 (List.mem_of_getElem? (i := 118) rfl), fun h => absurd rfl h⟩
set_option maxRecDepth 100000 in
theorem zme_130 : zeOK (10, 54, 341, "") := ⟨zmd_341, rfl, fun _ => zsub_4 (List.mem_of_getElem? (i := 119) rfl), fun h => absurd rfl h⟩
set_option maxRecDepth 100000 in
theorem zme_131 : zeOK (10, 60, 117, "") := ⟨zmd_117, rfl, fun _ => zsub_4 (List.mem_of_getElem? (i := 124) rfl), fun h => absurd rfl h⟩
set_option maxRecDepth 100000 in
theorem zme_132 : zeOK (10, 63, 116, "") := ⟨zmd_116, rfl, fun _ => zsub_4 (List.mem_of_getElem? (i := 128) rfl), fun h => absurd rfl h⟩
set_option maxRecDepth 100000 in
theorem zme_133 : zeOK (11, 11, 48, "RaysOfShapes") := ⟨zmd_48, rfl, fun h => absurd h (by decide +kernel), fun _ => zsub_1 (List.mem_of_getElem? (i := 230) rfl)⟩
set_option maxRecDepth 100000 in
theorem zme_134 : zeOK (11, 41, 49, "") := ⟨zmd_49, rfl, fun _ => zsub_5 (List.mem_of_getElem? (i := 72) rfl), fun h => absurd rfl h⟩
set_option maxRecDepth 100000 in
theorem zme_135 : zeOK (11, 45, 211, "RaysOfShapes") := ⟨zmd_211, rfl, fun h => absurd h (by decide +kernel), fun _ => zsub_5 (List.mem_of_getElem? (i := 73) rfl)⟩
set_option maxRecDepth 100000 in
theorem zme_136 : zeOK (11, 49, 133, "") := ⟨zmd_133, rfl, fun _ => zsub_5 (List.mem_of_getElem? (i := 96) rfl), fun h => absurd rfl h⟩
set_option maxRecDepth 100000 in
theorem zme_137 : zeOK (11, 53, 134, "") := ⟨zmd_134, rfl, fun _ => zsub_5 (List.mem_of_getElem? (i := 99) rfl), fun h => absurd rfl h⟩
set_option maxRecDepth 100000 in
theorem zme_138 : zeOK (11, 57, 52, "") := ⟨zmd_52, rfl, fun _ => zsub_5 (List.mem_of_getElem? (i := 110) rfl), fun h => absurd rfl h⟩
set_option maxRecDepth 100000 in
theorem zme_139 : zeOK (11, 60, 136, "") := ⟨zmd_136, rfl, fun _ => zsub_5 (List.mem_of_getElem? (i := 111) rfl), fun h => absurd rfl h⟩
set_option maxRecDepth 100000 in
theorem zme_140 : zeOK (11, 64, 50, "") := ⟨zmd_50, rfl, fun _ => zsub_5 (List.mem_of_getElem? (i := 115) rfl), fun h => absurd rfl h⟩
set_option maxRecDepth 100000 in
theorem zme_141 : zeOK (12, 11, 109, "RaysOfShapes") := ⟨zmd_109, rfl, fun h => absurd h (by decide +kernel), fun _ => zsub_1 (List.mem_of_getElem? (i := 31) rfl)⟩
set_option maxRecDepth 100000 in
theorem zme_142 : zeOK (12, 21, 0, "") := ⟨zmd_0, rfl, fun _ => zsub_1 (List.mem_of_getElem? (i := 63) rfl), fun h => absurd rfl h⟩
set_option maxRecDepth 100000 in
theorem zme_143 : zeOK (12, 31, 80, "") := ⟨zmd_80, rfl, fun _ => zsub_1 (List.mem_of_getElem? (i := 100) rfl), fun h => absurd rfl h⟩
set_option maxRecDepth 100000 in
theorem zme_144 : zeOK (12, 38, 62, "RaysOfShapes") := ⟨zmd_62, rfl, fun h => absurd h (by decide +kernel), fun _ => zsub_1 (List.mem_of_getElem? (i := 116) rfl)⟩
set_option maxRecDepth 100000 in
theorem zme_145 : zeOK (12, 45, 35, "") := ⟨zmd_35, rfl, fun _ => zsub_1 (List.mem_of_getElem? (i := 156) rfl), fun h => absurd rfl h⟩
set_option maxRecDepth 100000 in
theorem zme_146 : zeOK (12, 52, 124, "RaysOfShapes") := ⟨zmd_124, rfl, fun h => absurd h (by decide +kernel), fun _ => zsub_1 (List.mem_of_getElem? (i := 225) rfl)⟩
set_option maxRecDepth 100000 in
theorem zme_147 : zeOK (12, 59, 41, "") := ⟨zmd_41, rfl, fun _ => zsub_2 (List.mem_of_getElem? (i := 17) rfl), fun h => absurd rfl h⟩
set_option maxRecDepth 100000 in
theorem zme_148 : zeOK (12, 66, 92, "") := ⟨zmd_92, rfl, fun _ => zsub_2 (List.mem_of_getElem? (i := 19) rfl), fun h => absurd rfl h⟩
set_option maxRecDepth 100000 in
theorem zme_149 : zeOK (12, 73, 48, "RaysOfShapes") := ⟨zmd_48, rfl, fun h => absurd h (by decide +kernel), fun _ => zsub_2 (List.mem_of_getElem? (i := 21) rfl)⟩
set_option maxRecDepth 100000 in
theorem zme_150 : zeOK (12, 88, 201, "") := ⟨zmd_201, rfl, fun _ => zsub_2 (List.mem_of_getElem? (i := 75) rfl), fun h => absurd rfl h⟩
set_option maxRecDepth 100000 in
theorem zme_151 : zeOK (12, 92, 200, "") := ⟨zmd_200, rfl, fun _ => zsub_2 (List.mem_of_getElem? (i := 78) rfl), fun h => absurd rfl h⟩
set_option maxRecDepth 100000 in
theorem zme_152 : zeOK (12, 96, 194, "") := ⟨zmd_194, rfl, fun _ => zsub_2 (List.mem_of_getElem? (i := 81) rfl), fun h => absurd rfl h⟩
set_option maxRecDepth 100000 in
theorem zme_153 : zeOK (12, 100, 84, "") := ⟨zmd_84, rfl, fun _ => zsub_2 (List.mem_of_getElem? (i := 85) rfl), fun h => absurd rfl h⟩
set_option maxRecDepth 100000 in
theorem zme_154 : zeOK (12, 104, 195, "") := ⟨zmd_195, rfl, fun _ => zsub_2 (List.mem_of_getElem? (i := 94) rfl), fun h => absurd rfl h⟩
set_option maxRecDepth 100000 in
theorem zme_155 : zeOK (12, 107, 82, "") := ⟨zmd_82, rfl, fun _ => zsub_2 (List.mem_of_getElem? (i := 102) rfl), fun h => absurd rfl h⟩
set_option maxRecDepth 100000 in
theorem zme_156 : zeOK (12, 110, 89, "") := ⟨zmd_89, rfl, fun _ => zsub_2 (List.mem_of_getElem? (i := 106) rfl), fun h => absurd rfl h⟩
set_option maxRecDepth 100000 in
theorem zme_157 : zeOK (12, 114, 81, "") := ⟨zmd_81, rfl, fun _ => zsub_2 (List.mem_of_getElem? (i := 98) rfl), fun h => absurd rfl h⟩
set_option maxRecDepth 100000 in
theorem zme_158 : zeOK (12, 117, 206, "") := ⟨zmd_206, rfl, fun _ => zsub_2 (List.mem_of_getElem? (i := 122) rfl), fun h => absurd rfl h⟩
set_option maxRecDepth 100000 in
theorem zme_159 : zeOK (12, 120, 91, "") := ⟨zmd_91, rfl, fun _ => zsub_2 (List.mem_of_getElem? (i := 125) rfl), fun h => absurd rfl h⟩
set_option maxRecDepth 100000 in
theorem zme_160 : zeOK (12, 124, 88, "") := ⟨zmd_88, rfl, fun _ => zsub_2 (List.mem_of_getElem? (i := 136) rfl), fun h => absurd rfl h⟩
set_option maxRecDepth 100000 in
theorem zme_161 : zeOK (12, 128, 197, "") := ⟨zmd_197, rfl, fun _ => zsub_2 (List.mem_of_getElem? (i := 148) rfl), fun h => absurd rfl h⟩
set_option maxRecDepth 100000 in
theorem zme_162 : zeOK (12, 131, 85, "") := ⟨zmd_85, rfl, fun _ => zsub_2 (List.mem_of_getElem? (i := 156) rfl), fun h => absurd rfl h⟩
set_option maxRecDepth 100000 in
theorem zme_163 : zeOK (12, 135, 145, "") := ⟨zmd_145, rfl, fun _ => zsub_2 (List.mem_of_getElem? (i := 164) rfl), fun h => absurd rfl h⟩
set_option maxRecDepth 100000 in
theorem zme_164 : zeOK (12, 139, 113, "") := ⟨zmd_113, rfl, fun _ => zsub_2 (List.mem_of_getElem? (i := 177) rfl), fun h => absurd rfl h⟩
set_option maxRecDepth 100000 in
theorem zme_165 : zeOK (12, 142, 114, "") := ⟨zmd_114, rfl, fun _ => zsub_2 (List.mem_of_getElem? (i := 181) rfl), fun h => absurd rfl h⟩
set_option maxRecDepth 100000 in
theorem zme_166 : zeOK (12, 145, 115, "") := ⟨zmd_115, rfl, fun _ => zsub_2 (List.mem_of_getElem? (i := 185) rfl), fun h => absurd rfl h⟩
set_option maxRecDepth 100000 in
theorem zme_167 : zeOK (12, 148, 198, "") := ⟨zmd_198, rfl, fun _ => zsub_2 (List.mem_of_getElem? (i := 189) rfl), fun h => absurd rfl h⟩
set_option maxRecDepth 100000 in
theorem zme_168 : zeOK (12, 152, 57, "") := ⟨zmd_57, rfl, fun _ => zsub_3 (List.mem_of_getElem? (i := 178) rfl), fun h => absurd rfl h⟩
set_option maxRecDepth 100000 in
theorem zme_169 : zeOK (12, 156, 59, "") := ⟨zmd_59, rfl, fun _ => zsub_3 (List.mem_of_getElem? (i := 188) rfl), fun h => absurd rfl h⟩
set_option maxRecDepth 100000 in
theorem zme_170 : zeOK (12, 160, 58, "") := ⟨zmd_58, rfl, fun _ => zsub_3 (List.mem_of_getElem? (i := 192) rfl), fun h => absurd rfl h⟩
set_option maxRecDepth 100000 in
theorem zme_171 : zeOK (12, 163, 146, "") := ⟨zmd_146, rfl, fun _ => zsub_3 (List.mem_of_getElem? (i := 196) rfl), fun h => absurd rfl h⟩
set_option maxRecDepth 100000 in
theorem zme_172 : zeOK (12, 166, 112, "") := ⟨zmd_112, rfl, fun _ => zsub_2 (List.mem_of_getElem? (i := 168) rfl), fun h => absurd rfl h⟩
set_option maxRecDepth 100000 in
theorem zme_173 : zeOK (12, 169, 26, "") := ⟨zmd_26, rfl, fun _ => zsub_2 (List.mem_of_getElem? (i := 172) rfl), fun h => absurd rfl h⟩
set_option maxRecDepth 100000 in
theorem zme_174 : zeOK (12, 175, 118, "") := ⟨zmd_118, rfl, fun _ => zsub_3 (List.mem_of_getElem? (i := 200) rfl), fun h => absurd rfl h⟩
set_option maxRecDepth 100000 in
theorem zme_175 : zeOK (12, 178, 65, "") := ⟨zmd_65, rfl, fun _ => zsub_3 (List.mem_of_getElem? (i := 205) rfl), fun h => absurd rfl h⟩
set_option maxRecDepth 100000 in
theorem zme_176 : zeOK (12, 182, 66, "") := ⟨zmd_66, rfl, fun _ => zsub_3 (List.mem_of_getElem? (i := 209) rfl), fun h => absurd rfl h⟩
set_option maxRecDepth 100000 in
theorem zme_177 : zeOK (12, 186, 63, "") := ⟨zmd_63, rfl, fun _ => zsub_3 (List.mem_of_getElem? (i := 213) rfl), fun h => absurd rfl h⟩
set_option maxRecDepth 100000 in
theorem zme_178 : zeOK (12, 187, 67, "") := ⟨zmd_67, rfl, fun _ => zsub_3 (List.mem_of_getElem? (i := 221) rfl), fun h => absurd rfl h⟩
set_option maxRecDepth 100000 in
theorem zme_179 : zeOK (12, 190, 68, "") := ⟨zmd_68, rfl, fun _ => zsub_3 (List.mem_of_getElem? (i := 229) rfl), fun h => absurd rfl h⟩
set_option maxRecDepth 100000 in
theorem zme_180 : zeOK (12, 194, 64, "") := ⟨zmd_64, rfl, fun _ => zsub_4 (List.mem_of_getElem? (i := 151) rfl), fun h => absurd rfl h⟩
set_option maxRecDepth 100000 in
theorem zme_181 : zeOK (12, 197, 110, "") := ⟨zmd_110, rfl, fun _ => zsub_2 (List.mem_of_getElem? (i := 152) rfl), fun h => absurd rfl h⟩
set_option maxRecDepth 100000 in
theorem zme_182 : zeOK (12, 198, 160, "") := ⟨zmd_160, rfl, fun _ => zsub_4 (List.mem_of_getElem? (i := 155) rfl), fun h => absurd rfl h⟩
set_option maxRecDepth 100000 in
theorem zme_183 : zeOK (12, 201, 158, "") := ⟨zmd_158, rfl, fun _ => zsub_4 (List.mem_of_getElem? (i := 173) rfl), fun h => absurd rfl h⟩
set_option maxRecDepth 100000 in
theorem zme_184 : zeOK (12, 204, 159, "") := ⟨zmd_159, rfl, fun _ => zsub_4 (List.mem_of_getElem? (i := 177) rfl), fun h => absurd rfl h⟩
set_option maxRecDepth 100000 in
theorem zme_185 : zeOK (12, 208, 27, "") := ⟨zmd_27, rfl, fun _ => zsub_4 (List.mem_of_getElem? (i := 181) rfl), fun h => absurd rfl h⟩
set_option maxRecDepth 100000 in
theorem zme_186 : zeOK (12, 211, 30, "") := ⟨zmd_30, rfl, fun _ => zsub_4 (List.mem_of_getElem? (i := 182) rfl), fun h => absurd rfl h⟩
set_option maxRecDepth 100000 in
theorem zme_187 : zeOK (12, 215, 119, "") := ⟨zmd_119, rfl, fun _ => zsub_4 (List.mem_of_getElem? (i := 187) rfl), fun h => absurd rfl h⟩
set_option maxRecDepth 100000 in
theorem zme_188 : zeOK (12, 218, 122, "") := ⟨zmd_122, rfl, fun _ => zsub_4 (List.mem_of_getElem? (i := 188) rfl), fun h => absurd rfl h⟩
set_option maxRecDepth 100000 in
theorem zme_189 : zeOK (12, 222, 36, "") := ⟨zmd_36, rfl, fun _ => zsub_4 (List.mem_of_getElem? (i := 159) rfl), fun h => absurd rfl h⟩
set_option maxRecDepth 100000 in
theorem zme_190 : zeOK (12, 225, 111, "") := ⟨zmd_111, rfl, fun _ => zsub_4 (List.mem_of_getElem? (i := 164) rfl), fun h => absurd rfl h⟩
set_option maxRecDepth 100000 in
theorem zme_191 : zeOK (12, 232, 343, "") := ⟨zmd_343, rfl, fun _ => zsub_4 (List.mem_of_getElem? (i := 221) rfl), fun h => absurd rfl h⟩
set_option maxRecDepth 100000 in
theorem zme_192 : zeOK (12, 237, 86, "") := ⟨zmd_86, rfl, fun _ => zsub_4 (List.mem_of_getElem? (i := 222) rfl), fun h => absurd rfl h⟩
set_option maxRecDepth 100000 in
theorem zme_193 : zeOK (12, 240, 116, "") := ⟨zmd_116, rfl, fun _ => zsub_4 (List.mem_of_getElem? (i := 230) rfl), fun h => absurd rfl h⟩
set_option maxRecDepth 100000 in
theorem zme_194 : zeOK (12, 243, 204, "") := ⟨zmd_204, rfl, fun _ => zsub_4 (List.mem_of_getElem? (i := 235) rfl), fun h => absurd rfl h⟩
set_option maxRecDepth 100000 in
theorem zme_195 : zeOK (12, 248, 42, "") := ⟨zmd_42, rfl, fun _ => zsub_4 (List.mem_of_getElem? (i := 239) rfl), fun h => absurd rfl h⟩
set_option maxRecDepth 100000 in
theorem zme_196 : zeOK (12, 252, 11, "") := ⟨zmd_11, rfl, fun _ => zsub_5 (List.mem_of_getElem? (i := 0) rfl), fun h => absurd rfl h⟩
set_option maxRecDepth 100000 in
theorem zme_197 : zeOK (12, 258, 12, "") := ⟨zmd_12, rfl, fun _ => zsub_5 (List.mem_of_getElem? (i := 4) rfl), fun h => absurd rfl h⟩
set_option maxRecDepth 100000 in
theorem zme_198 : zeOK (12, 261, 207, "") := ⟨zmd_207, rfl, fun _ => zsub_5 (List.mem_of_getElem? (i := 12) rfl), fun h => absurd rfl h⟩
set_option maxRecDepth 100000 in
theorem zme_199 : zeOK (12, 264, 209, "") := ⟨zmd_209, rfl, fun _ => zsub_5 (List.mem_of_getElem? (i := 16) rfl), fun h => absurd rfl h⟩
set_option maxRecDepth 100000 in
theorem zme_200 : zeOK (12, 267, 93, "") := ⟨zmd_93, rfl, fun _ => zsub_5 (List.mem_of_getElem? (i := 17) rfl), fun h => absurd rfl h⟩
set_option maxRecDepth 100000 in
theorem zme_201 : zeOK (12, 270, 94, "") := ⟨zmd_94, rfl, fun _ => zsub_5 (List.mem_of_getElem? (i := 18) rfl), fun h => absurd rfl h⟩
set_option maxRecDepth 100000 in
theorem zme_202 : zeOK (12, 273, 97, "") := ⟨zmd_97, rfl, fun _ => zsub_5 (List.mem_of_getElem? (i := 19) rfl), fun h => absurd rfl h⟩
set_option maxRecDepth 100000 in
theorem zme_203 : zeOK (12, 277, 95, "") := ⟨zmd_95, rfl, fun _ => zsub_5 (List.mem_of_getElem? (i := 20) rfl), fun h => absurd rfl h⟩
set_option maxRecDepth 100000 in
theorem zme_204 : zeOK (12, 281, 96, "") := ⟨zmd_96, rfl, fun _ => zsub_5 (List.mem_of_getElem? (i := 21) rfl), fun h => absurd rfl h⟩
set_option maxRecDepth 100000 in
theorem zme_205 : zeOK (12, 284, 202, "") := ⟨zmd_202, rfl, fun _ => zsub_5 (List.mem_of_getElem? (i := 15) rfl), fun h => absurd rfl h⟩
set_option maxRecDepth 100000 in
theorem zme_206 : zeOK (12, 287, 49, "") := ⟨zmd_49, rfl, fun _ => zsub_5 (List.mem_of_getElem? (i := 26) rfl), fun h => absurd rfl h⟩
set_option maxRecDepth 100000 in
theorem zme_207 : zeOK (12, 290, 38, "") := ⟨zmd_38, rfl, fun _ => zsub_5 (List.mem_of_getElem? (i := 34) rfl), fun h => absurd rfl h⟩
set_option maxRecDepth 100000 in
theorem zme_208 : zeOK (12, 294, 61, "") := ⟨zmd_61, rfl, fun _ => zsub_5 (List.mem_of_getElem? (i := 43) rfl), fun h => absurd rfl h⟩
set_option maxRecDepth 100000 in
theorem zme_209 : zeOK (12, 297, 203, "") := ⟨zmd_203, rfl, fun _ => zsub_5 (List.mem_of_getElem? (i := 52) rfl), fun h => absurd rfl h⟩
set_option maxRecDepth 100000 in
theorem zme_210 : zeOK (12, 300, 60, "") := ⟨zmd_60, rfl, fun _ => zsub_5 (List.mem_of_getElem? (i := 53) rfl), fun h => absurd rfl h⟩
set_option maxRecDepth 100000 in
theorem zme_211 : zeOK (12, 303, 205, "") := ⟨zmd_205, rfl, fun _ => zsub_5 (List.mem_of_getElem? (i := 65) rfl), fun h => absurd rfl h⟩
set_option maxRecDepth 100000 in
theorem zme_212 : zeOK (12, 306, 131, "") := ⟨zmd_131, rfl, fun _ => zsub_5 (List.mem_of_getElem? (i := 68) rfl), fun h => absurd rfl h⟩
set_option maxRecDepth 100000 in
theorem zme_213 : zeOK (12, 310, 125, "") := ⟨zmd_125, rfl, fun _ => zsub_5 (List.mem_of_getElem? (i := 76) rfl), fun h => absurd rfl h⟩
set_option maxRecDepth 100000 in
theorem zme_214 : zeOK (12, 313, 126, "") := ⟨zmd_126, rfl, fun _ => zsub_5 (List.mem_of_getElem? (i := 80) rfl), fun h => absurd rfl h⟩
set_option maxRecDepth 100000 in
theorem zme_215 : zeOK (12, 316, 127, "") := ⟨zmd_127, rfl, fun _ => zsub_5 (List.mem_of_getElem? (i := 84) rfl), fun h => absurd rfl h⟩
set_option maxRecDepth 100000 in
theorem zme_216 : zeOK (12, 319, 132, "") := ⟨zmd_132, rfl, fun _ => zsub_5 (List.mem_of_getElem? (i := 92) rfl), fun h => absurd rfl h⟩
set_option maxRecDepth 100000 in
theorem zme_217 : zeOK (12, 322, 135, "") := ⟨zmd_135, rfl, fun _ => zsub_5 (List.mem_of_getElem? (i := 106) rfl), fun h => absurd rfl h⟩
set_option maxRecDepth 100000 in
theorem zme_218 : zeOK (12, 326, 128, "") := ⟨zmd_128, rfl, fun _ => zsub_5 (List.mem_of_getElem? (i := 116) rfl), fun h => absurd rfl h⟩
set_option maxRecDepth 100000 in
theorem zme_219 : zeOK (12, 329, 129, "") := ⟨zmd_129, rfl, fun _ => zsub_5 (List.mem_of_getElem? (i := 120) rfl), fun h => absurd rfl h⟩
set_option maxRecDepth 100000 in
theorem zme_220 : zeOK (12, 332, 130, "") := ⟨zmd_130, rfl, fun _ => zsub_5 (List.mem_of_getElem? (i := 124) rfl), fun h => absurd rfl h⟩
set_option maxRecDepth 100000 in
theorem zme_221 : zeOK (12, 335, 211, "") := ⟨zmd_211, rfl, fun _ => zsub_5 (List.mem_of_getElem? (i := 132) rfl), fun h => absurd rfl h⟩
set_option maxRecDepth 100000 in
theorem zme_222 : zeOK (12, 338, 177, "") := ⟨zmd_177, rfl, fun _ => zsub_5 (List.mem_of_getElem? (i := 145) rfl), fun h => absurd rfl h⟩
set_option maxRecDepth 100000 in
theorem zme_223 : zeOK (12, 342, 179, "") := ⟨zmd_179, rfl, fun _ => zsub_5 (List.mem_of_getElem? (i := 152) rfl), fun h => absurd rfl h⟩
set_option maxRecDepth 100000 in
theorem zme_224 : zeOK (12, 345, 199, "") := ⟨zmd_199, rfl, fun _ => zsub_5 (List.mem_of_getElem? (i := 156) rfl), fun h => absurd rfl h⟩
set_option maxRecDepth 100000 in
theorem zme_225 : zeOK (12, 349, 196, "") := ⟨zmd_196, rfl, fun _ => zsub_5 (List.mem_of_getElem? (i := 164) rfl), fun h => absurd rfl h⟩
set_option maxRecDepth 100000 in
theorem zme_226 : zeOK (12, 352, 181, "") := ⟨zmd_181, rfl, fun _ => zsub_5 (List.mem_of_getElem? (i := 169) rfl), fun h => absurd rfl h⟩
set_option maxRecDepth 100000 in
theorem zme_227 : zeOK (12, 356, 182, "") := ⟨zmd_182, rfl, fun _ => zsub_5 (List.mem_of_getElem? (i := 173) rfl), fun h => absurd rfl h⟩
set_option maxRecDepth 100000 in
theorem zme_228 : zeOK (12, 360, 13, "") := ⟨zmd_13, rfl, fun _ => zsub_5 (List.mem_of_getElem? (i := 177) rfl), fun h => absurd rfl h⟩
set_option maxRecDepth 100000 in
theorem zme_229 : zeOK (12, 363, 14, "") := ⟨zmd_14, rfl, fun _ => zsub_5 (List.mem_of_getElem? (i := 178) rfl), fun h => absurd rfl h⟩
set_option maxRecDepth 100000 in
theorem zme_230 : zeOK (12, 366, 7, "") := ⟨zmd_7, rfl, fun _ => zsub_5 (List.mem_of_getElem? (i := 187) rfl), fun h => absurd rfl h⟩
set_option maxRecDepth 100000 in
theorem zme_231 : zeOK (12, 370, 2, "") := ⟨zmd_2, rfl, fun _ => zsub_5 (List.mem_of_getElem? (i := 207) rfl), fun h => absurd rfl h⟩
set_option maxRecDepth 100000 in
theorem zme_232 : zeOK (12, 373, 8, "") := ⟨zmd_8, rfl, fun _ => zsub_5 (List.mem_of_getElem? (i := 211) rfl), fun h => absurd rfl h⟩
set_option maxRecDepth 100000 in
theorem zme_233 : zeOK (12, 376, 1, "") := ⟨zmd_1, rfl, fun _ => zsub_5 (List.mem_of_getElem? (i := 219) rfl), fun h => absurd rfl h⟩
set_option maxRecDepth 100000 in
theorem zme_234 : zeOK (12, 380, 6, "") := ⟨zmd_6, rfl, fun _ => zsub_5 (List.mem_of_getElem? (i := 235) rfl), fun h => absurd rfl h⟩
set_option maxRecDepth 100000 in
theorem zme_235 : zeOK (12, 383, 54, "") := ⟨zmd_54, rfl, fun _ => zsub_6 (List.mem_of_getElem? (i := 0) rfl), fun h => absurd rfl h⟩
set_option maxRecDepth 100000 in
theorem zme_236 : zeOK (12, 387, 4, "") := ⟨zmd_4, rfl, fun _ => zsub_6 (List.mem_of_getElem? (i := 11) rfl), fun h => absurd rfl h⟩
set_option maxRecDepth 100000 in
theorem zme_237 : zeOK (12, 390, 5, "") := ⟨zmd_5, rfl, fun _ => zsub_6 (List.mem_of_getElem? (i := 15) rfl), fun h => absurd rfl h⟩
set_option maxRecDepth 100000 in
theorem zme_238 : zeOK (12, 393, 123, "") := ⟨zmd_123, rfl, fun _ => zsub_6 (List.mem_of_getElem? (i := 23) rfl), fun h => absurd rfl h⟩
set_option maxRecDepth 100000 in
theorem zme_239 : zeOK (12, 397, 9, "") := ⟨zmd_9, rfl, fun _ => zsub_6 (List.mem_of_getElem? (i := 28) rfl), fun h => absurd rfl h⟩
set_option maxRecDepth 100000 in
theorem zme_240 : zeOK (12, 404, 3, "") := ⟨zmd_3, rfl, fun _ => zsub_6 (List.mem_of_getElem? (i := 44) rfl), fun h => absurd rfl h⟩
set_option maxRecDepth 100000 in
theorem zme_241 : zeOK (12, 407, 83, "") := ⟨zmd_83, rfl, fun _ => zsub_6 (List.mem_of_getElem? (i := 48) rfl), fun h => absurd rfl h⟩
set_option maxRecDepth 100000 in
theorem zme_242 : zeOK (12, 412, 37, "") := ⟨zmd_37, rfl, fun _ => zsub_2 (List.mem_of_getElem? (i := 193) rfl), fun h => absurd rfl h⟩
set_option maxRecDepth 100000 in
theorem zme_243 : zeOK (12, 415, 210, "") := ⟨zmd_210, rfl, fun _ => zsub_2 (List.mem_of_getElem? (i := 208) rfl), fun h => absurd rfl h⟩
set_option maxRecDepth 100000 in
theorem zme_244 : zeOK (13, 110, 214, "") := ⟨zmd_214, rfl, fun _ => zsub_6 (List.mem_of_getElem? (i := 190) rfl), fun h => absurd rfl h⟩
set_option maxRecDepth 100000 in
theorem zme_245 : zeOK (13, 119, 213, "") := ⟨zmd_213, rfl, fun _ => zsub_6 (List.mem_of_getElem? (i := 181) rfl), fun h => absurd rfl h⟩
set_option maxRecDepth 100000 in
theorem zme_246 : zeOK (13, 123, 216, "") := ⟨zmd_216, rfl, fun _ => zsub_6 (List.mem_of_getElem? (i := 199) rfl), fun h => absurd rfl h⟩
set_option maxRecDepth 100000 in
theorem zme_247 : zeOK (13, 127, 217, "") := ⟨zmd_217, rfl, fun _ => zsub_6 (List.mem_of_getElem? (i := 203) rfl), fun h => absurd rfl h⟩
set_option maxRecDepth 100000 in
theorem zme_248 : zeOK (13, 132, 220, "") := ⟨zmd_220, rfl, fun _ => zsub_6 (List.mem_of_getElem? (i := 208) rfl), fun h => absurd rfl h⟩
set_option maxRecDepth 100000 in
theorem zme_249 : zeOK (13, 136, 342, "") := ⟨zmd_342, rfl, fun _ => zsub_6 (List.mem_of_getElem? (i := 213) rfl), fun h => absurd rfl h⟩
set_option maxRecDepth 100000 in
theorem zme_250 : zeOK (13, 142, 219, "") := ⟨zmd_219, rfl, fun _ => zsub_6 (List.mem_of_getElem? (i := 195) rfl), fun h => absurd rfl h⟩
set_option maxRecDepth 100000 in
theorem zme_251 : zeOK (13, 146, 344, "") := ⟨zmd_344, rfl, fun _ => zsub_6 (List.mem_of_getElem? (i := 216) rfl), fun h => absurd rfl h⟩
set_option maxRecDepth 100000 in
theorem zme_252 : zeOK (13, 149, 221, "") := ⟨zmd_221, rfl, fun _ => zsub_6 (List.mem_of_getElem? (i := 219) rfl), fun h => absurd rfl h⟩
set_option maxRecDepth 100000 in
theorem zme_253 : zeOK (13, 153, 224, "") := ⟨zmd_224, rfl, fun _ => zsub_6 (List.mem_of_getElem? (i := 223) rfl), fun h => absurd rfl h⟩
set_option maxRecDepth 100000 in
theorem zme_254 : zeOK (13, 156, 341, "") := ⟨zmd_341, rfl, fun _ => zsub_6 (List.mem_of_getElem? (i := 212) rfl), fun h => absurd rfl h⟩
set_option maxRecDepth 100000 in
theorem zme_255 : zeOK (13, 158, 339, "") := ⟨zmd_339, rfl, fun _ => zsub_6 (List.mem_of_getElem? (i := 227) rfl), fun h => absurd rfl h⟩
set_option maxRecDepth 100000 in
theorem zme_256 : zeOK (13, 161, 223, "") := ⟨zmd_223, rfl, fun _ => zsub_6 (List.mem_of_getElem? (i := 228) rfl), fun h => absurd rfl h⟩
set_option maxRecDepth 100000 in
theorem zme_257 : zeOK (13, 165, 222, "") := ⟨zmd_222, rfl, fun _ => zsub_6 (List.mem_of_getElem? (i := 231) rfl), fun h => absurd rfl h⟩
set_option maxRecDepth 100000 in
theorem zme_258 : zeOK (13, 169, 340, "") := ⟨zmd_340, rfl, fun _ => zsub_6 (List.mem_of_getElem? (i := 235) rfl), fun h => absurd rfl h⟩
set_option maxRecDepth 100000 in
theorem zme_259 : zeOK (13, 173, 225, "") := ⟨zmd_225, rfl, fun _ => zsub_6 (List.mem_of_getElem? (i := 239) rfl), fun h => absurd rfl h⟩
set_option maxRecDepth 100000 in
theorem zme_260 : zeOK (13, 175, 218, "") := ⟨zmd_218, rfl, fun _ => zsub_6 (List.mem_of_getElem? (i := 177) rfl), fun h => absurd rfl h⟩
set_option maxRecDepth 100000 in
theorem zme_261 : zeOK (13, 183, 215, "") := ⟨zmd_215, rfl, fun _ => zsub_6 (List.mem_of_getElem? (i := 186) rfl), fun h => absurd rfl h⟩
set_option maxRecDepth 100000 in
theorem zme_262 : zeOK (13, 186, 226, "") := ⟨zmd_226, rfl, fun _ => zsub_6 (List.mem_of_getElem? (i := 236) rfl), fun h => absurd rfl h⟩
set_option maxRecDepth 100000 in
theorem zme_263 : zeOK (13, 190, 228, "") := ⟨zmd_228, rfl, fun _ => zsub_7 (List.mem_of_getElem? (i := 24) rfl), fun h => absurd rfl h⟩
set_option maxRecDepth 100000 in
theorem zme_264 : zeOK (13, 193, 229, "") := ⟨zmd_229, rfl, fun _ => zsub_7 (List.mem_of_getElem? (i := 27) rfl), fun h => absurd rfl h⟩
set_option maxRecDepth 100000 in
theorem zme_265 : zeOK (13, 196, 231, "") := ⟨zmd_231, rfl, fun _ => zsub_7 (List.mem_of_getElem? (i := 30) rfl), fun h => absurd rfl h⟩
set_option maxRecDepth 100000 in
theorem zme_266 : zeOK (13, 199, 232, "") := ⟨zmd_232, rfl, fun _ => zsub_7 (List.mem_of_getElem? (i := 34) rfl), fun h => absurd rfl h⟩
set_option maxRecDepth 100000 in
theorem zme_267 : zeOK (13, 202, 233, "") := ⟨zmd_233, rfl, fun _ => zsub_7 (List.mem_of_getElem? (i := 38) rfl), fun h => absurd rfl h⟩
set_option maxRecDepth 100000 in
theorem zme_268 : zeOK (13, 206, 234, "") := ⟨zmd_234, rfl, fun _ => zsub_7 (List.mem_of_getElem? (i := 41) rfl), fun h => absurd rfl h⟩
set_option maxRecDepth 100000 in
theorem zme_269 : zeOK (13, 210, 240, "") := ⟨zmd_240, rfl, fun _ => zsub_7 (List.mem_of_getElem? (i := 45) rfl), fun h => absurd rfl h⟩
set_option maxRecDepth 100000 in
theorem zme_270 : zeOK (13, 213, 230, "") := ⟨zmd_230, rfl, fun _ => zsub_7 (List.mem_of_getElem? (i := 20) rfl), fun h => absurd rfl h⟩
set_option maxRecDepth 100000 in
theorem zme_271 : zeOK (13, 216, 235, "") := ⟨zmd_235, rfl, fun _ => zsub_7 (List.mem_of_getElem? (i := 52) rfl), fun h => absurd rfl h⟩
set_option maxRecDepth 100000 in
theorem zme_272 : zeOK (13, 220, 343, "") := ⟨zmd_343, rfl, fun _ => zsub_7 (List.mem_of_getElem? (i := 61) rfl), fun h => absurd rfl h⟩
set_option maxRecDepth 100000 in
theorem zme_273 : zeOK (13, 222, 236, "") := ⟨zmd_236, rfl, fun _ => zsub_7 (List.mem_of_getElem? (i := 49) rfl), fun h => absurd rfl h⟩
set_option maxRecDepth 100000 in
theorem zme_274 : zeOK (13, 226, 237, "") := ⟨zmd_237, rfl, fun _ => zsub_7 (List.mem_of_getElem? (i := 55) rfl), fun h => absurd rfl h⟩
set_option maxRecDepth 100000 in
theorem zme_275 : zeOK (13, 229, 238, "") := ⟨zmd_238, rfl, fun _ => zsub_7 (List.mem_of_getElem? (i := 58) rfl), fun h => absurd rfl h⟩
set_option maxRecDepth 100000 in
theorem zme_276 : zeOK (13, 232, 239, "") := ⟨zmd_239, rfl, fun _ => zsub_7 (List.mem_of_getElem? (i := 62) rfl), fun h => absurd rfl h⟩
set_option maxRecDepth 100000 in
theorem zme_277 : zeOK (13, 235, 241, "") := ⟨zmd_241, rfl, fun _ => zsub_7 (List.mem_of_getElem? (i := 65) rfl), fun h => absurd rfl h⟩
set_option maxRecDepth 100000 in
theorem zme_278 : zeOK (13, 239, 242, "") := ⟨zmd_242, rfl, fun _ => zsub_7 (List.mem_of_getElem? (i := 69) rfl), fun h => absurd rfl h⟩
set_option maxRecDepth 100000 in
theorem zme_279 : zeOK (13, 245, 246, "") := ⟨zmd_246, rfl, fun _ => zsub_7 (List.mem_of_getElem? (i := 6) rfl), fun h => absurd rfl h⟩
set_option maxRecDepth 100000 in
theorem zme_280 : zeOK (13, 248, 243, "") := ⟨zmd_243, rfl, fun _ => zsub_7 (List.mem_of_getElem? (i := 10) rfl), fun h => absurd rfl h⟩
set_option maxRecDepth 100000 in
theorem zme_281 : zeOK (13, 251, 244, "") := ⟨zmd_244, rfl, fun _ => zsub_7 (List.mem_of_getElem? (i := 13) rfl), fun h => absurd rfl h⟩
set_option maxRecDepth 100000 in
theorem zme_282 : zeOK (13, 254, 245, "") := ⟨zmd_245, rfl, fun _ => zsub_7 (List.mem_of_getElem? (i := 16) rfl), fun h => absurd rfl h⟩
set_option maxRecDepth 100000 in
theorem zme_283 : zeOK (13, 259, 248, "") := ⟨zmd_248, rfl, fun _ => zsub_7 (List.mem_of_getElem? (i := 77) rfl), fun h => absurd rfl h⟩
set_option maxRecDepth 100000 in
theorem zme_284 : zeOK (13, 263, 251, "") := ⟨zmd_251, rfl, fun _ => zsub_7 (List.mem_of_getElem? (i := 89) rfl), fun h => absurd rfl h⟩
set_option maxRecDepth 100000 in
theorem zme_285 : zeOK (13, 267, 249, "") := ⟨zmd_249, rfl, fun _ => zsub_7 (List.mem_of_getElem? (i := 85) rfl), fun h => absurd rfl h⟩
set_option maxRecDepth 100000 in
theorem zme_286 : zeOK (13, 274, 254, "") := ⟨zmd_254, rfl, fun _ => zsub_7 (List.mem_of_getElem? (i := 103) rfl), fun h => absurd rfl h⟩
set_option maxRecDepth 100000 in
theorem zme_287 : zeOK (13, 281, 258, "") := ⟨zmd_258, rfl, fun _ => zsub_7 (List.mem_of_getElem? (i := 124) rfl), fun h => absurd rfl h⟩
set_option maxRecDepth 100000 in
theorem zme_288 : zeOK (13, 284, 260, "") := ⟨zmd_260, rfl, fun _ => zsub_7 (List.mem_of_getElem? (i := 135) rfl), fun h => absurd rfl h⟩
set_option maxRecDepth 100000 in
theorem zme_289 : zeOK (13, 287, 259, "") := ⟨zmd_259, rfl, fun _ => zsub_7 (List.mem_of_getElem? (i := 120) rfl), fun h => absurd rfl h⟩
set_option maxRecDepth 100000 in
theorem zme_290 : zeOK (13, 290, 261, "") := ⟨zmd_261, rfl, fun _ => zsub_7 (List.mem_of_getElem? (i := 131) rfl), fun h => absurd rfl h⟩
set_option maxRecDepth 100000 in
theorem zme_291 : zeOK (13, 293, 264, "") := ⟨zmd_264, rfl, fun _ => zsub_7 (List.mem_of_getElem? (i := 143) rfl), fun h => absurd rfl h⟩
set_option maxRecDepth 100000 in
theorem zme_292 : zeOK (13, 296, 267, "") := ⟨zmd_267, rfl, fun _ => zsub_7 (List.mem_of_getElem? (i := 155) rfl), fun h => absurd rfl h⟩
set_option maxRecDepth 100000 in
theorem zme_293 : zeOK (13, 299, 269, "") := ⟨zmd_269, rfl, fun _ => zsub_7 (List.mem_of_getElem? (i := 162) rfl), fun h => absurd rfl h⟩
set_option maxRecDepth 100000 in
theorem zme_294 : zeOK (13, 306, 272, "") := ⟨zmd_272, rfl, fun _ => zsub_7 (List.mem_of_getElem? (i := 172) rfl), fun h => absurd rfl h⟩
set_option maxRecDepth 100000 in
theorem zme_295 : zeOK (13, 309, 271, "") := ⟨zmd_271, rfl, fun _ => zsub_7 (List.mem_of_getElem? (i := 176) rfl), fun h => absurd rfl h⟩
set_option maxRecDepth 100000 in
theorem zme_296 : zeOK (13, 326, 276, "") := ⟨zmd_276, rfl, fun _ => zsub_7 (List.mem_of_getElem? (i := 196) rfl), fun h => absurd rfl h⟩
set_option maxRecDepth 100000 in
theorem zme_297 : zeOK (13, 329, 275, "") := ⟨zmd_275, rfl, fun _ => zsub_7 (List.mem_of_getElem? (i := 199) rfl), fun h => absurd rfl h⟩
set_option maxRecDepth 100000 in
theorem zme_298 : zeOK (13, 333, 274, "") := ⟨zmd_274, rfl, fun _ => zsub_7 (List.mem_of_getElem? (i := 202) rfl), fun h => absurd rfl h⟩
set_option maxRecDepth 100000 in
theorem zme_299 : zeOK (13, 337, 278, "") := ⟨zmd_278, rfl, fun _ => zsub_7 (List.mem_of_getElem? (i := 216) rfl), fun h => absurd rfl h⟩
set_option maxRecDepth 100000 in
theorem zme_300 : zeOK (13, 340, 279, "") := ⟨zmd_279, rfl, fun _ => zsub_7 (List.mem_of_getElem? (i := 220) rfl), fun h => absurd rfl h⟩
set_option maxRecDepth 100000 in
theorem zme_301 : zeOK (13, 343, 277, "") := ⟨zmd_277, rfl, fun _ => zsub_7 (List.mem_of_getElem? (i := 192) rfl), fun h => absurd rfl h⟩
set_option maxRecDepth 100000 in
theorem zme_302 : zeOK (13, 346, 280, "") := ⟨zmd_280, rfl, fun _ => zsub_7 (List.mem_of_getElem? (i := 212) rfl), fun h => absurd rfl h⟩
set_option maxRecDepth 100000 in
theorem zme_303 : zeOK (13, 349, 281, "") := ⟨zmd_281, rfl, fun _ => zsub_7 (List.mem_of_getElem? (i := 224) rfl), fun h => absurd rfl h⟩
set_option maxRecDepth 100000 in
theorem zme_304 : zeOK (13, 353, 283, "") := ⟨zmd_283, rfl, fun _ => zsub_7 (List.mem_of_getElem? (i := 184) rfl), fun h => absurd rfl h⟩
set_option maxRecDepth 100000 in
theorem zme_305 : zeOK (13, 357, 282, "") := ⟨zmd_282, rfl, fun _ => zsub_7 (List.mem_of_getElem? (i := 188) rfl), fun h => absurd rfl h⟩
set_option maxRecDepth 100000 in
theorem zme_306 : zeOK (13, 368, 292, "") := ⟨zmd_292, rfl, fun _ => zsub_8 (List.mem_of_getElem? (i := 24) rfl), fun h => absurd rfl h⟩
set_option maxRecDepth 100000 in
theorem zme_307 : zeOK (13, 371, 294, "") := ⟨zmd_294, rfl, fun _ => zsub_8 (List.mem_of_getElem? (i := 32) rfl), fun h => absurd rfl h⟩
set_option maxRecDepth 100000 in
theorem zme_308 : zeOK (13, 379, 345, "") := ⟨zmd_345, rfl, fun _ => zsub_8 (List.mem_of_getElem? (i := 63) rfl), fun h => absurd rfl h⟩
set_option maxRecDepth 100000 in
theorem zme_309 : zeOK (13, 383, 346, "") := ⟨zmd_346, rfl, fun _ => zsub_8 (List.mem_of_getElem? (i := 64) rfl), fun h => absurd rfl h⟩
set_option maxRecDepth 100000 in
theorem zme_310 : zeOK (13, 390, 298, "") := ⟨zmd_298, rfl, fun _ => zsub_8 (List.mem_of_getElem? (i := 53) rfl), fun h => absurd rfl h⟩
set_option maxRecDepth 100000 in
theorem zme_311 : zeOK (13, 403, 299, "") := ⟨zmd_299, rfl, fun _ => zsub_8 (List.mem_of_getElem? (i := 59) rfl), fun h => absurd rfl h⟩
set_option maxRecDepth 100000 in
theorem zme_312 : zeOK (13, 414, 300, "") := ⟨zmd_300, rfl, fun _ => zsub_8 (List.mem_of_getElem? (i := 49) rfl), fun h => absurd rfl h⟩
set_option maxRecDepth 100000 in
theorem zme_313 : zeOK (13, 417, 302, "") := ⟨zmd_302, rfl, fun _ => zsub_8 (List.mem_of_getElem? (i := 76) rfl), fun h => absurd rfl h⟩
set_option maxRecDepth 100000 in
theorem zme_314 : zeOK (13, 420, 301, "") := ⟨zmd_301, rfl, fun _ => zsub_8 (List.mem_of_getElem? (i := 79) rfl), fun h => absurd rfl h⟩
set_option maxRecDepth 100000 in
theorem zme_315 : zeOK (13, 423, 303, "") := ⟨zmd_303, rfl, fun _ => zsub_8 (List.mem_of_getElem? (i := 72) rfl), fun h => absurd rfl h⟩
set_option maxRecDepth 100000 in
theorem zme_316 : zeOK (13, 426, 304, "") := ⟨zmd_304, rfl, fun _ => zsub_8 (List.mem_of_getElem? (i := 68) rfl), fun h => absurd rfl h⟩
set_option maxRecDepth 100000 in
theorem zme_317 : zeOK (13, 429, 305, "") := ⟨zmd_305, rfl, fun _ => zsub_8 (List.mem_of_getElem? (i := 83) rfl), fun h => absurd rfl h⟩
set_option maxRecDepth 100000 in
theorem zme_318 : zeOK (13, 438, 307, "") := ⟨zmd_307, rfl, fun _ => zsub_8 (List.mem_of_getElem? (i := 91) rfl), fun h => absurd rfl h⟩
set_option maxRecDepth 100000 in
theorem zme_319 : zeOK (13, 441, 309, "") := ⟨zmd_309, rfl, fun _ => zsub_8 (List.mem_of_getElem? (i := 99) rfl), fun h => absurd rfl h⟩
set_option maxRecDepth 100000 in
theorem zme_320 : zeOK (13, 446, 315, "") := ⟨zmd_315, rfl, fun _ => zsub_8 (List.mem_of_getElem? (i := 122) rfl), fun h => absurd rfl h⟩
set_option maxRecDepth 100000 in
theorem zme_321 : zeOK (13, 449, 318, "") := ⟨zmd_318, rfl, fun _ => zsub_8 (List.mem_of_getElem? (i := 126) rfl), fun h => absurd rfl h⟩
set_option maxRecDepth 100000 in
theorem zme_322 : zeOK (13, 452, 316, "") := ⟨zmd_316, rfl, fun _ => zsub_8 (List.mem_of_getElem? (i := 130) rfl), fun h => absurd rfl h⟩
set_option maxRecDepth 100000 in
theorem zme_323 : zeOK (13, 457, 319, "") := ⟨zmd_319, rfl, fun _ => zsub_8 (List.mem_of_getElem? (i := 139) rfl), fun h => absurd rfl h⟩
set_option maxRecDepth 100000 in
theorem zme_324 : zeOK (13, 460, 320, "") := ⟨zmd_320, rfl, fun _ => zsub_8 (List.mem_of_getElem? (i := 143) rfl), fun h => absurd rfl h⟩
set_option maxRecDepth 100000 in
theorem zme_325 : zeOK (13, 469, 323, "") := ⟨zmd_323, rfl, fun _ => zsub_8 (List.mem_of_getElem? (i := 155) rfl), fun h => absurd rfl h⟩
set_option maxRecDepth 100000 in
theorem zme_326 : zeOK (13, 472, 326, "") := ⟨zmd_326, rfl, fun _ => zsub_8 (List.mem_of_getElem? (i := 167) rfl), fun h => absurd rfl h⟩
set_option maxRecDepth 100000 in
theorem zme_327 : zeOK (13, 478, 330, "") := ⟨zmd_330, rfl, fun _ => zsub_8 (List.mem_of_getElem? (i := 184) rfl), fun h => absurd rfl h⟩
set_option maxRecDepth 100000 in
theorem zme_328 : zeOK (13, 481, 333, "") := ⟨zmd_333, rfl, fun _ => zsub_8 (List.mem_of_getElem? (i := 197) rfl), fun h => absurd rfl h⟩
set_option maxRecDepth 100000 in
theorem zme_329 : zeOK (13, 489, 336, "") := ⟨zmd_336, rfl, fun _ => zsub_8 (List.mem_of_getElem? (i := 208) rfl), fun h => absurd rfl h⟩
set_option maxRecDepth 100000 in
theorem zme_330 : zeOK (17, 335, 347, "") := ⟨zmd_347, rfl, fun _ => zsub_4 (List.mem_of_getElem? (i := 35) rfl), fun h => absurd rfl h⟩
set_option maxRecDepth 100000 in
theorem zme_331 : zeOK (17, 492, 348, "") := ⟨zmd_348, rfl, fun _ => zsub_4 (List.mem_of_getElem? (i := 45) rfl), fun h => absurd rfl h⟩
set_option maxRecDepth 100000 in
theorem zme_332 : zeOK (17, 495, 350, "") := ⟨zmd_350, rfl, fun _ => zsub_4 (List.mem_of_getElem? (i := 49) rfl), fun h => absurd rfl h⟩
set_option maxRecDepth 100000 in
theorem zme_333 : zeOK (17, 1059, 351, "") := ⟨zmd_351, rfl, fun _ => zsub_4 (List.mem_of_getElem? (i := 57) rfl), fun h => absurd rfl h⟩
set_option maxRecDepth 100000 in
theorem zme_334 : zeOK (18, 9, 349, "") := ⟨zmd_349, rfl, fun _ => zsub_4 (List.mem_of_getElem? (i := 52) rfl), fun h => absurd rfl h⟩
set_option maxRecDepth 100000 in
theorem zme_335 : zeOK (14, 9, 137, "") := ⟨zmd_137, rfl, fun _ => zsub_1 (List.mem_of_getElem? (i := 23) rfl), fun h => absurd rfl h⟩
set_option maxRecDepth 100000 in
theorem zme_336 : zeOK (14, 12, 212, "") := ⟨zmd_212, rfl, fun _ => zsub_6 (List.mem_of_getElem? (i := 54) rfl), fun h => absurd rfl h⟩
set_option maxRecDepth 100000 in
theorem zme_337 : zeOK (14, 13, 138, "") := ⟨zmd_138, rfl, fun _ => zsub_2 (List.mem_of_getElem? (i := 71) rfl), fun h => absurd rfl h⟩
set_option maxRecDepth 100000 in
theorem zme_338 : zeOK (14, 17, 308, "") := ⟨zmd_308, rfl, fun _ => zsub_8 (List.mem_of_getElem? (i := 87) rfl), fun h => absurd rfl h⟩
set_option maxRecDepth 100000 in
theorem zme_339 : zeOK (14, 20, 139, "") := ⟨zmd_139, rfl, fun _ => zsub_2 (List.mem_of_getElem? (i := 90) rfl), fun h => absurd rfl h⟩
set_option maxRecDepth 100000 in
theorem zme_340 : zeOK (14, 24, 310, "") := ⟨zmd_310, rfl, fun _ => zsub_8 (List.mem_of_getElem? (i := 95) rfl), fun h => absurd rfl h⟩
set_option maxRecDepth 100000 in
theorem zme_341 : zeOK (14, 25, 140, "") := ⟨zmd_140, rfl, fun _ => zsub_2 (List.mem_of_getElem? (i := 118) rfl), fun h => absurd rfl h⟩
set_option maxRecDepth 100000 in
theorem zme_342 : zeOK (14, 29, 311, "") := ⟨zmd_311, rfl, fun _ => zsub_8 (List.mem_of_getElem? (i := 102) rfl), fun h => absurd rfl h⟩
set_option maxRecDepth 100000 in
theorem zme_343 : zeOK (14, 30, 141, "") := ⟨zmd_141, rfl, fun _ => zsub_2 (List.mem_of_getElem? (i := 132) rfl), fun h => absurd rfl h⟩
set_option maxRecDepth 100000 in
theorem zme_344 : zeOK (14, 34, 312, "") := ⟨zmd_312, rfl, fun _ => zsub_8 (List.mem_of_getElem? (i := 106) rfl), fun h => absurd rfl h⟩
set_option maxRecDepth 100000 in
theorem zme_345 : zeOK (14, 35, 142, "") := ⟨zmd_142, rfl, fun _ => zsub_2 (List.mem_of_getElem? (i := 140) rfl), fun h => absurd rfl h⟩
set_option maxRecDepth 100000 in
theorem zme_346 : zeOK (14, 39, 313, "") := ⟨zmd_313, rfl, fun _ => zsub_8 (List.mem_of_getElem? (i := 110) rfl), fun h => absurd rfl h⟩
set_option maxRecDepth 100000 in
theorem zme_347 : zeOK (14, 40, 143, "") := ⟨zmd_143, rfl, fun _ => zsub_2 (List.mem_of_getElem? (i := 144) rfl), fun h => absurd rfl h⟩
set_option maxRecDepth 100000 in
theorem zme_348 : zeOK (14, 44, 314, "") := ⟨zmd_314, rfl, fun _ => zsub_8 (List.mem_of_getElem? (i := 114) rfl), fun h => absurd rfl h⟩
set_option maxRecDepth 100000 in
theorem zme_349 : zeOK (14, 45, 144, "") := ⟨zmd_144, rfl, fun _ => zsub_2 (List.mem_of_getElem? (i := 160) rfl), fun h => absurd rfl h⟩
set_option maxRecDepth 100000 in
theorem zme_350 : zeOK (14, 48, 317, "") := ⟨zmd_317, rfl, fun _ => zsub_8 (List.mem_of_getElem? (i := 118) rfl), fun h => absurd rfl h⟩
set_option maxRecDepth 100000 in
theorem zme_351 : zeOK (14, 49, 147, "") := ⟨zmd_147, rfl, fun _ => zsub_3 (List.mem_of_getElem? (i := 201) rfl), fun h => absurd rfl h⟩
set_option maxRecDepth 100000 in
theorem zme_352 : zeOK (14, 52, 296, "") := ⟨zmd_296, rfl, fun _ => zsub_8 (List.mem_of_getElem? (i := 36) rfl), fun h => absurd rfl h⟩
set_option maxRecDepth 100000 in
theorem zme_353 : zeOK (14, 53, 148, "") := ⟨zmd_148, rfl, fun _ => zsub_3 (List.mem_of_getElem? (i := 217) rfl), fun h => absurd rfl h⟩
set_option maxRecDepth 100000 in
theorem zme_354 : zeOK (14, 57, 297, "") := ⟨zmd_297, rfl, fun _ => zsub_8 (List.mem_of_getElem? (i := 41) rfl), fun h => absurd rfl h⟩
set_option maxRecDepth 100000 in
theorem zme_355 : zeOK (14, 58, 149, "") := ⟨zmd_149, rfl, fun _ => zsub_3 (List.mem_of_getElem? (i := 225) rfl), fun h => absurd rfl h⟩
set_option maxRecDepth 100000 in
theorem zme_356 : zeOK (14, 61, 306, "") := ⟨zmd_306, rfl, fun _ => zsub_8 (List.mem_of_getElem? (i := 45) rfl), fun h => absurd rfl h⟩
set_option maxRecDepth 100000 in
theorem zme_357 : zeOK (14, 62, 150, "") := ⟨zmd_150, rfl, fun _ => zsub_4 (List.mem_of_getElem? (i := 169) rfl), fun h => absurd rfl h⟩
set_option maxRecDepth 100000 in
theorem zme_358 : zeOK (14, 66, 284, "") := ⟨zmd_284, rfl, fun _ => zsub_7 (List.mem_of_getElem? (i := 180) rfl), fun h => absurd rfl h⟩
set_option maxRecDepth 100000 in
theorem zme_359 : zeOK (14, 67, 151, "") := ⟨zmd_151, rfl, fun _ => zsub_4 (List.mem_of_getElem? (i := 189) rfl), fun h => absurd rfl h⟩
set_option maxRecDepth 100000 in
theorem zme_360 : zeOK (14, 71, 285, "") := ⟨zmd_285, rfl, fun _ => zsub_7 (List.mem_of_getElem? (i := 228) rfl), fun h => absurd rfl h⟩
set_option maxRecDepth 100000 in
theorem zme_361 : zeOK (14, 72, 152, "") := ⟨zmd_152, rfl, fun _ => zsub_4 (List.mem_of_getElem? (i := 193) rfl), fun h => absurd rfl h⟩
set_option maxRecDepth 100000 in
theorem zme_362 : zeOK (14, 75, 286, "") := ⟨zmd_286, rfl, fun _ => zsub_7 (List.mem_of_getElem? (i := 232) rfl), fun h => absurd rfl h⟩
set_option maxRecDepth 100000 in
theorem zme_363 : zeOK (14, 76, 153, "") := ⟨zmd_153, rfl, fun _ => zsub_4 (List.mem_of_getElem? (i := 197) rfl), fun h => absurd rfl h⟩
set_option maxRecDepth 100000 in
theorem zme_364 : zeOK (14, 79, 287, "") := ⟨zmd_287, rfl, fun _ => zsub_7 (List.mem_of_getElem? (i := 236) rfl), fun h => absurd rfl h⟩
set_option maxRecDepth 100000 in
theorem zme_365 : zeOK (14, 80, 154, "") := ⟨zmd_154, rfl, fun _ => zsub_4 (List.mem_of_getElem? (i := 201) rfl), fun h => absurd rfl h⟩
set_option maxRecDepth 100000 in
theorem zme_366 : zeOK (14, 83, 288, "") := ⟨zmd_288, rfl, fun _ => zsub_8 (List.mem_of_getElem? (i := 2) rfl), fun h => absurd rfl h⟩
set_option maxRecDepth 100000 in
theorem zme_367 : zeOK (14, 84, 155, "") := ⟨zmd_155, rfl, fun _ => zsub_4 (List.mem_of_getElem? (i := 205) rfl), fun h => absurd rfl h⟩
set_option maxRecDepth 100000 in
theorem zme_368 : zeOK (14, 87, 289, "") := ⟨zmd_289, rfl, fun _ => zsub_8 (List.mem_of_getElem? (i := 6) rfl), fun h => absurd rfl h⟩
set_option maxRecDepth 100000 in
theorem zme_369 : zeOK (14, 88, 156, "") := ⟨zmd_156, rfl, fun _ => zsub_4 (List.mem_of_getElem? (i := 209) rfl), fun h => absurd rfl h⟩
set_option maxRecDepth 100000 in
theorem zme_370 : zeOK (14, 91, 290, "") := ⟨zmd_290, rfl, fun _ => zsub_8 (List.mem_of_getElem? (i := 10) rfl), fun h => absurd rfl h⟩
set_option maxRecDepth 100000 in
theorem zme_371 : zeOK (14, 92, 157, "") := ⟨zmd_157, rfl, fun _ => zsub_4 (List.mem_of_getElem? (i := 213) rfl), fun h => absurd rfl h⟩
set_option maxRecDepth 100000 in
theorem zme_372 : zeOK (14, 95, 291, "") := ⟨zmd_291, rfl, fun _ => zsub_8 (List.mem_of_getElem? (i := 15) rfl), fun h => absurd rfl h⟩
set_option maxRecDepth 100000 in
theorem zme_373 : zeOK (14, 96, 161, "") := ⟨zmd_161, rfl, fun _ => zsub_4 (List.mem_of_getElem? (i := 217) rfl), fun h => absurd rfl h⟩
set_option maxRecDepth 100000 in
theorem zme_374 : zeOK (14, 99, 293, "") := ⟨zmd_293, rfl, fun _ => zsub_8 (List.mem_of_getElem? (i := 20) rfl), fun h => absurd rfl h⟩
set_option maxRecDepth 100000 in
theorem zme_375 : zeOK (14, 100, 162, "") := ⟨zmd_162, rfl, fun _ => zsub_4 (List.mem_of_getElem? (i := 226) rfl), fun h => absurd rfl h⟩
set_option maxRecDepth 100000 in
theorem zme_376 : zeOK (14, 103, 295, "") := ⟨zmd_295, rfl, fun _ => zsub_8 (List.mem_of_getElem? (i := 28) rfl), fun h => absurd rfl h⟩
set_option maxRecDepth 100000 in
theorem zme_377 : zeOK (14, 104, 163, "") := ⟨zmd_163, rfl, fun _ => zsub_4 (List.mem_of_getElem? (i := 231) rfl), fun h => absurd rfl h⟩
set_option maxRecDepth 100000 in
theorem zme_378 : zeOK (14, 108, 227, "") := ⟨zmd_227, rfl, fun _ => zsub_6 (List.mem_of_getElem? (i := 173) rfl), fun h => absurd rfl h⟩
set_option maxRecDepth 100000 in
theorem zme_379 : zeOK (14, 109, 164, "") := ⟨zmd_164, rfl, fun _ => zsub_5 (List.mem_of_getElem? (i := 8) rfl), fun h => absurd rfl h⟩
set_option maxRecDepth 100000 in
theorem zme_380 : zeOK (14, 113, 247, "") := ⟨zmd_247, rfl, fun _ => zsub_7 (List.mem_of_getElem? (i := 2) rfl), fun h => absurd rfl h⟩
set_option maxRecDepth 100000 in
theorem zme_381 : zeOK (14, 114, 165, "") := ⟨zmd_165, rfl, fun _ => zsub_5 (List.mem_of_getElem? (i := 22) rfl), fun h => absurd rfl h⟩
set_option maxRecDepth 100000 in
theorem zme_382 : zeOK (14, 117, 250, "") := ⟨zmd_250, rfl, fun _ => zsub_7 (List.mem_of_getElem? (i := 73) rfl), fun h => absurd rfl h⟩
set_option maxRecDepth 100000 in
theorem zme_383 : zeOK (14, 118, 166, "") := ⟨zmd_166, rfl, fun _ => zsub_5 (List.mem_of_getElem? (i := 30) rfl), fun h => absurd rfl h⟩
set_option maxRecDepth 100000 in
theorem zme_384 : zeOK (14, 121, 252, "") := ⟨zmd_252, rfl, fun _ => zsub_7 (List.mem_of_getElem? (i := 81) rfl), fun h => absurd rfl h⟩
set_option maxRecDepth 100000 in
theorem zme_385 : zeOK (14, 122, 167, "") := ⟨zmd_167, rfl, fun _ => zsub_5 (List.mem_of_getElem? (i := 39) rfl), fun h => absurd rfl h⟩
set_option maxRecDepth 100000 in
theorem zme_386 : zeOK (14, 125, 253, "") := ⟨zmd_253, rfl, fun _ => zsub_7 (List.mem_of_getElem? (i := 93) rfl), fun h => absurd rfl h⟩
set_option maxRecDepth 100000 in
theorem zme_387 : zeOK (14, 126, 168, "") := ⟨zmd_168, rfl, fun _ => zsub_5 (List.mem_of_getElem? (i := 48) rfl), fun h => absurd rfl h⟩
set_option maxRecDepth 100000 in
theorem zme_388 : zeOK (14, 129, 255, "") := ⟨zmd_255, rfl, fun _ => zsub_7 (List.mem_of_getElem? (i := 97) rfl), fun h => absurd rfl h⟩
set_option maxRecDepth 100000 in
theorem zme_389 : zeOK (14, 130, 169, "") := ⟨zmd_169, rfl, fun _ => zsub_5 (List.mem_of_getElem? (i := 57) rfl), fun h => absurd rfl h⟩
set_option maxRecDepth 100000 in
theorem zme_390 : zeOK (14, 133, 256, "") := ⟨zmd_256, rfl, fun _ => zsub_7 (List.mem_of_getElem? (i := 106) rfl), fun h => absurd rfl h⟩
set_option maxRecDepth 100000 in
theorem zme_391 : zeOK (14, 134, 170, "") := ⟨zmd_170, rfl, fun _ => zsub_5 (List.mem_of_getElem? (i := 61) rfl), fun h => absurd rfl h⟩
set_option maxRecDepth 100000 in
theorem zme_392 : zeOK (14, 137, 257, "") := ⟨zmd_257, rfl, fun _ => zsub_7 (List.mem_of_getElem? (i := 110) rfl), fun h => absurd rfl h⟩
set_option maxRecDepth 100000 in
theorem zme_393 : zeOK (14, 138, 171, "") := ⟨zmd_171, rfl, fun _ => zsub_5 (List.mem_of_getElem? (i := 88) rfl), fun h => absurd rfl h⟩
set_option maxRecDepth 100000 in
theorem zme_394 : zeOK (14, 141, 262, "") := ⟨zmd_262, rfl, fun _ => zsub_7 (List.mem_of_getElem? (i := 116) rfl), fun h => absurd rfl h⟩
set_option maxRecDepth 100000 in
theorem zme_395 : zeOK (14, 142, 172, "") := ⟨zmd_172, rfl, fun _ => zsub_5 (List.mem_of_getElem? (i := 102) rfl), fun h => absurd rfl h⟩
set_option maxRecDepth 100000 in
theorem zme_396 : zeOK (14, 145, 263, "") := ⟨zmd_263, rfl, fun _ => zsub_7 (List.mem_of_getElem? (i := 127) rfl), fun h => absurd rfl h⟩
set_option maxRecDepth 100000 in
theorem zme_397 : zeOK (14, 146, 174, "") := ⟨zmd_174, rfl, fun _ => zsub_5 (List.mem_of_getElem? (i := 133) rfl), fun h => absurd rfl h⟩
set_option maxRecDepth 100000 in
theorem zme_398 : zeOK (14, 149, 265, "") := ⟨zmd_265, rfl, fun _ => zsub_7 (List.mem_of_getElem? (i := 139) rfl), fun h => absurd rfl h⟩
set_option maxRecDepth 100000 in
theorem zme_399 : zeOK (14, 150, 175, "") := ⟨zmd_175, rfl, fun _ => zsub_5 (List.mem_of_getElem? (i := 137) rfl), fun h => absurd rfl h⟩
set_option maxRecDepth 100000 in
theorem zme_400 : zeOK (14, 153, 266, "") := ⟨zmd_266, rfl, fun _ => zsub_7 (List.mem_of_getElem? (i := 147) rfl), fun h => absurd rfl h⟩
set_option maxRecDepth 100000 in
theorem zme_401 : zeOK (14, 154, 173, "") := ⟨zmd_173, rfl, fun _ => zsub_5 (List.mem_of_getElem? (i := 128) rfl), fun h => absurd rfl h⟩
set_option maxRecDepth 100000 in
theorem zme_402 : zeOK (14, 157, 268, "") := ⟨zmd_268, rfl, fun _ => zsub_7 (List.mem_of_getElem? (i := 151) rfl), fun h => absurd rfl h⟩
set_option maxRecDepth 100000 in
theorem zme_403 : zeOK (14, 158, 176, "") := ⟨zmd_176, rfl, fun _ => zsub_5 (List.mem_of_getElem? (i := 141) rfl), fun h => absurd rfl h⟩
set_option maxRecDepth 100000 in
theorem zme_404 : zeOK (14, 161, 270, "") := ⟨zmd_270, rfl, fun _ => zsub_7 (List.mem_of_getElem? (i := 158) rfl), fun h => absurd rfl h⟩
set_option maxRecDepth 100000 in
theorem zme_405 : zeOK (14, 162, 178, "") := ⟨zmd_178, rfl, fun _ => zsub_5 (List.mem_of_getElem? (i := 148) rfl), fun h => absurd rfl h⟩
set_option maxRecDepth 100000 in
theorem zme_406 : zeOK (14, 165, 273, "") := ⟨zmd_273, rfl, fun _ => zsub_7 (List.mem_of_getElem? (i := 166) rfl), fun h => absurd rfl h⟩
set_option maxRecDepth 100000 in
theorem zme_407 : zeOK (14, 166, 180, "") := ⟨zmd_180, rfl, fun _ => zsub_5 (List.mem_of_getElem? (i := 160) rfl), fun h => absurd rfl h⟩
set_option maxRecDepth 100000 in
theorem zme_408 : zeOK (14, 169, 321, "") := ⟨zmd_321, rfl, fun _ => zsub_8 (List.mem_of_getElem? (i := 134) rfl), fun h => absurd rfl h⟩
set_option maxRecDepth 100000 in
theorem zme_409 : zeOK (14, 170, 183, "") := ⟨zmd_183, rfl, fun _ => zsub_5 (List.mem_of_getElem? (i := 179) rfl), fun h => absurd rfl h⟩
set_option maxRecDepth 100000 in
theorem zme_410 : zeOK (14, 173, 322, "") := ⟨zmd_322, rfl, fun _ => zsub_8 (List.mem_of_getElem? (i := 147) rfl), fun h => absurd rfl h⟩
set_option maxRecDepth 100000 in
theorem zme_411 : zeOK (14, 174, 184, "") := ⟨zmd_184, rfl, fun _ => zsub_5 (List.mem_of_getElem? (i := 183) rfl), fun h => absurd rfl h⟩
set_option maxRecDepth 100000 in
theorem zme_412 : zeOK (14, 177, 324, "") := ⟨zmd_324, rfl, fun _ => zsub_8 (List.mem_of_getElem? (i := 151) rfl), fun h => absurd rfl h⟩
set_option maxRecDepth 100000 in
theorem zme_413 : zeOK (14, 178, 185, "") := ⟨zmd_185, rfl, fun _ => zsub_5 (List.mem_of_getElem? (i := 203) rfl), fun h => absurd rfl h⟩
set_option maxRecDepth 100000 in
theorem zme_414 : zeOK (14, 181, 325, "") := ⟨zmd_325, rfl, fun _ => zsub_8 (List.mem_of_getElem? (i := 159) rfl), fun h => absurd rfl h⟩
set_option maxRecDepth 100000 in
theorem zme_415 : zeOK (14, 182, 186, "") := ⟨zmd_186, rfl, fun _ => zsub_5 (List.mem_of_getElem? (i := 215) rfl), fun h => absurd rfl h⟩
set_option maxRecDepth 100000 in
theorem zme_416 : zeOK (14, 185, 327, "") := ⟨zmd_327, rfl, fun _ => zsub_8 (List.mem_of_getElem? (i := 163) rfl), fun h => absurd rfl h⟩
set_option maxRecDepth 100000 in
theorem zme_417 : zeOK (14, 186, 187, "") := ⟨zmd_187, rfl, fun _ => zsub_5 (List.mem_of_getElem? (i := 223) rfl), fun h => absurd rfl h⟩
set_option maxRecDepth 100000 in
theorem zme_418 : zeOK (14, 189, 328, "") := ⟨zmd_328, rfl, fun _ => zsub_8 (List.mem_of_getElem? (i := 171) rfl), fun h => absurd rfl h⟩
set_option maxRecDepth 100000 in
theorem zme_419 : zeOK (14, 190, 188, "") := ⟨zmd_188, rfl, fun _ => zsub_5 (List.mem_of_getElem? (i := 227) rfl), fun h => absurd rfl h⟩
set_option maxRecDepth 100000 in
theorem zme_420 : zeOK (14, 193, 329, "") := ⟨zmd_329, rfl, fun _ => zsub_8 (List.mem_of_getElem? (i := 175) rfl), fun h => absurd rfl h⟩
set_option maxRecDepth 100000 in
theorem zme_421 : zeOK (14, 194, 189, "") := ⟨zmd_189, rfl, fun _ => zsub_5 (List.mem_of_getElem? (i := 231) rfl), fun h => absurd rfl h⟩
set_option maxRecDepth 100000 in
theorem zme_422 : zeOK (14, 197, 331, "") := ⟨zmd_331, rfl, fun _ => zsub_8 (List.mem_of_getElem? (i := 179) rfl), fun h => absurd rfl h⟩
set_option maxRecDepth 100000 in
theorem zme_423 : zeOK (14, 198, 190, "") := ⟨zmd_190, rfl, fun _ => zsub_6 (List.mem_of_getElem? (i := 7) rfl), fun h => absurd rfl h⟩
set_option maxRecDepth 100000 in
theorem zme_424 : zeOK (14, 201, 332, "") := ⟨zmd_332, rfl, fun _ => zsub_8 (List.mem_of_getElem? (i := 189) rfl), fun h => absurd rfl h⟩
set_option maxRecDepth 100000 in
theorem zme_425 : zeOK (14, 202, 191, "") := ⟨zmd_191, rfl, fun _ => zsub_6 (List.mem_of_getElem? (i := 19) rfl), fun h => absurd rfl h⟩
set_option maxRecDepth 100000 in
theorem zme_426 : zeOK (14, 205, 334, "") := ⟨zmd_334, rfl, fun _ => zsub_8 (List.mem_of_getElem? (i := 193) rfl), fun h => absurd rfl h⟩
set_option maxRecDepth 100000 in
theorem zme_427 : zeOK (14, 206, 192, "") := ⟨zmd_192, rfl, fun _ => zsub_6 (List.mem_of_getElem? (i := 36) rfl), fun h => absurd rfl h⟩
set_option maxRecDepth 100000 in
theorem zme_428 : zeOK (14, 209, 335, "") := ⟨zmd_335, rfl, fun _ => zsub_8 (List.mem_of_getElem? (i := 200) rfl), fun h => absurd rfl h⟩
set_option maxRecDepth 100000 in
theorem zme_429 : zeOK (14, 210, 193, "") := ⟨zmd_193, rfl, fun _ => zsub_6 (List.mem_of_getElem? (i := 40) rfl), fun h => absurd rfl h⟩
set_option maxRecDepth 100000 in
theorem zme_430 : zeOK (14, 213, 337, "") := ⟨zmd_337, rfl, fun _ => zsub_8 (List.mem_of_getElem? (i := 204) rfl), fun h => absurd rfl h⟩
noncomputable def zmes_c0 : List zMe := [(1, 9, 48, "RaysOfShapes"), (1, 34, 339, ""), (1, 40, 55, ""), (1, 44, 56, ""), (1, 48, 343, ""), (1, 51, 57, ""), (1, 55, 53, ""), (2, 16, 340, ""), (2, 22, 15, ""), (2, 26, 18, ""), (2, 30, 17, ""), (3, 18, 29, ""), (3, 22, 31, ""), (3, 26, 32, ""), (3, 30, 200, "RaysOfShapes"), (3, 34, 203, "RaysOfShapes")]
theorem zmes_r0 : ∀ q ∈ zmes_c0, zeOK q := List.forall_mem_cons.mpr ⟨zme_0, List.forall_mem_cons.mpr ⟨zme_1, List.forall_mem_cons.mpr ⟨zme_2, List.forall_mem_cons.mpr ⟨zme_3, List.forall_mem_cons.mpr ⟨zme_4, List.forall_mem_cons.mpr ⟨zme_5, List.forall_mem_cons.mpr ⟨zme_6, List.forall_mem_cons.mpr ⟨zme_7, List.forall_mem_cons.mpr ⟨zme_8, List.forall_mem_cons.mpr ⟨zme_9, List.forall_mem_cons.mpr ⟨zme_10, List.forall_mem_cons.mpr ⟨zme_11, List.forall_mem_cons.mpr ⟨zme_12, List.forall_mem_cons.mpr ⟨zme_13, List.forall_mem_cons.mpr ⟨zme_14, List.forall_mem_cons.mpr ⟨zme_15, fun _ h => absurd h List.not_mem_nil⟩⟩⟩⟩⟩⟩⟩⟩⟩⟩⟩⟩⟩⟩⟩⟩
noncomputable def zmes_c1 : List zMe := [(4, 21, 48, "RaysOfShapes"), (4, 28, 41, ""), (4, 35, 92, ""), (4, 40, 341, ""), (4, 46, 52, ""), (4, 49, 39, ""), (4, 53, 37, ""), (4, 57, 209, "RaysOfShapes"), (4, 60, 42, ""), (4, 64, 13, ""), (4, 70, 50, ""), (4, 74, 93, ""), (4, 78, 94, ""), (4, 81, 97, ""), (4, 85, 96, ""), (4, 89, 51, "")]
theorem zmes_r1 : ∀ q ∈ zmes_c1, zeOK q := List.forall_mem_cons.mpr ⟨zme_16, List.forall_mem_cons.mpr ⟨zme_17, List.forall_mem_cons.mpr ⟨zme_18, List.forall_mem_cons.mpr ⟨zme_19, List.forall_mem_cons.mpr ⟨zme_20, List.forall_mem_cons.mpr ⟨zme_21, List.forall_mem_cons.mpr ⟨zme_22, List.forall_mem_cons.mpr ⟨zme_23, List.forall_mem_cons.mpr ⟨zme_24, List.forall_mem_cons.mpr ⟨zme_25, List.forall_mem_cons.mpr ⟨zme_26, List.forall_mem_cons.mpr ⟨zme_27, List.forall_mem_cons.mpr ⟨zme_28, List.forall_mem_cons.mpr ⟨zme_29, List.forall_mem_cons.mpr ⟨zme_30, List.forall_mem_cons.mpr ⟨zme_31, fun _ h => absurd h List.not_mem_nil⟩⟩⟩⟩⟩⟩⟩⟩⟩⟩⟩⟩⟩⟩⟩⟩
noncomputable def zmes_c2 : List zMe := [(4, 93, 95, ""), (4, 96, 40, ""), (4, 99, 208, "RaysOfShapes"), (5, 21, 10, "RaysOfShapes"), (5, 22, 43, ""), (5, 26, 112, ""), (5, 32, 27, ""), (5, 38, 44, ""), (5, 42, 16, ""), (5, 46, 28, ""), (5, 49, 45, ""), (5, 52, 46, ""), (5, 56, 118, ""), (5, 60, 341, ""), (5, 65, 113, ""), (5, 68, 114, "")]
theorem zmes_r2 : ∀ q ∈ zmes_c2, zeOK q := List.forall_mem_cons.mpr ⟨zme_32, List.forall_mem_cons.mpr ⟨zme_33, List.forall_mem_cons.mpr ⟨zme_34, List.forall_mem_cons.mpr ⟨zme_35, List.forall_mem_cons.mpr ⟨zme_36, List.forall_mem_cons.mpr ⟨zme_37, List.forall_mem_cons.mpr ⟨zme_38, List.forall_mem_cons.mpr ⟨zme_39, List.forall_mem_cons.mpr ⟨zme_40, List.forall_mem_cons.mpr ⟨zme_41, List.forall_mem_cons.mpr ⟨zme_42, List.forall_mem_cons.mpr ⟨zme_43, List.forall_mem_cons.mpr ⟨zme_44, List.forall_mem_cons.mpr ⟨zme_45, List.forall_mem_cons.mpr ⟨zme_46, List.forall_mem_cons.mpr ⟨zme_47, fun _ h => absurd h List.not_mem_nil⟩⟩⟩⟩⟩⟩⟩⟩⟩⟩⟩⟩⟩⟩⟩⟩
noncomputable def zmes_c3 : List zMe := [(5, 71, 18, ""), (5, 75, 19, ""), (5, 78, 20, ""), (5, 81, 22, ""), (5, 84, 25, ""), (5, 88, 47, ""), (5, 92, 23, ""), (5, 95, 24, ""), (5, 99, 339, ""), (5, 102, 203, "RaysOfShapes"), (6, 15, 202, "RaysOfShapes"), (6, 19, 208, "RaysOfShapes"), (6, 23, 50, ""), (6, 27, 52, ""), (6, 30, 341, ""), (6, 36, 343, "")]
theorem zmes_r3 : ∀ q ∈ zmes_c3, zeOK q := List.forall_mem_cons.mpr ⟨zme_48, List.forall_mem_cons.mpr ⟨zme_49, List.forall_mem_cons.mpr ⟨zme_50, List.forall_mem_cons.mpr ⟨zme_51, List.forall_mem_cons.mpr ⟨zme_52, List.forall_mem_cons.mpr ⟨zme_53, List.forall_mem_cons.mpr ⟨zme_54, List.forall_mem_cons.mpr ⟨zme_55, List.forall_mem_cons.mpr ⟨zme_56, List.forall_mem_cons.mpr ⟨zme_57, List.forall_mem_cons.mpr ⟨zme_58, List.forall_mem_cons.mpr ⟨zme_59, List.forall_mem_cons.mpr ⟨zme_60, List.forall_mem_cons.mpr ⟨zme_61, List.forall_mem_cons.mpr ⟨zme_62, List.forall_mem_cons.mpr ⟨zme_63, fun _ h => absurd h List.not_mem_nil⟩⟩⟩⟩⟩⟩⟩⟩⟩⟩⟩⟩⟩⟩⟩⟩
noncomputable def zmes_c4 : List zMe := [(6, 41, 338, ""), (6, 47, 49, ""), (7, 46, 69, ""), (7, 50, 75, ""), (7, 53, 77, ""), (7, 57, 73, ""), (7, 61, 29, ""), (7, 67, 79, ""), (7, 71, 27, ""), (7, 74, 72, ""), (7, 78, 71, ""), (7, 82, 76, ""), (7, 85, 70, ""), (7, 94, 343, ""), (7, 100, 28, ""), (7, 103, 119, "")]
theorem zmes_r4 : ∀ q ∈ zmes_c4, zeOK q := List.forall_mem_cons.mpr ⟨zme_64, List.forall_mem_cons.mpr ⟨zme_65, List.forall_mem_cons.mpr ⟨zme_66, List.forall_mem_cons.mpr ⟨zme_67, List.forall_mem_cons.mpr ⟨zme_68, List.forall_mem_cons.mpr ⟨zme_69, List.forall_mem_cons.mpr ⟨zme_70, List.forall_mem_cons.mpr ⟨zme_71, List.forall_mem_cons.mpr ⟨zme_72, List.forall_mem_cons.mpr ⟨zme_73, List.forall_mem_cons.mpr ⟨zme_74, List.forall_mem_cons.mpr ⟨zme_75, List.forall_mem_cons.mpr ⟨zme_76, List.forall_mem_cons.mpr ⟨zme_77, List.forall_mem_cons.mpr ⟨zme_78, List.forall_mem_cons.mpr ⟨zme_79, fun _ h => absurd h List.not_mem_nil⟩⟩⟩⟩⟩⟩⟩⟩⟩⟩⟩⟩⟩⟩⟩⟩
noncomputable def zmes_c5 : List zMe := [(7, 109, 110, ""), (7, 111, 122, ""), (7, 114, 74, ""), (7, 117, 200, "RaysOfShapes"), (7, 120, 34, ""), (7, 124, 78, ""), (7, 128, 345, ""), (7, 133, 346, ""), (7, 137, 33, ""), (7, 140, 31, ""), (8, 22, 201, "RaysOfShapes"), (8, 26, 200, "RaysOfShapes"), (8, 30, 87, ""), (8, 34, 90, ""), (9, 24, 10, "RaysOfShapes"), (9, 25, 98, "")]
theorem zmes_r5 : ∀ q ∈ zmes_c5, zeOK q := List.forall_mem_cons.mpr ⟨zme_80, List.forall_mem_cons.mpr ⟨zme_81, List.forall_mem_cons.mpr ⟨zme_82, List.forall_mem_cons.mpr ⟨zme_83, List.forall_mem_cons.mpr ⟨zme_84, List.forall_mem_cons.mpr ⟨zme_85, List.forall_mem_cons.mpr ⟨zme_86, List.forall_mem_cons.mpr ⟨zme_87, List.forall_mem_cons.mpr ⟨zme_88, List.forall_mem_cons.mpr ⟨zme_89, List.forall_mem_cons.mpr ⟨zme_90, List.forall_mem_cons.mpr ⟨zme_91, List.forall_mem_cons.mpr ⟨zme_92, List.forall_mem_cons.mpr ⟨zme_93, List.forall_mem_cons.mpr ⟨zme_94, List.forall_mem_cons.mpr ⟨zme_95, fun _ h => absurd h List.not_mem_nil⟩⟩⟩⟩⟩⟩⟩⟩⟩⟩⟩⟩⟩⟩⟩⟩
noncomputable def zmes_c6 : List zMe := [(9, 29, 112, ""), (9, 35, 99, ""), (9, 38, 100, ""), (9, 41, 101, ""), (9, 44, 102, ""), (9, 47, 103, ""), (9, 50, 118, ""), (9, 54, 343, ""), (9, 59, 341, ""), (9, 62, 16, ""), (9, 67, 113, ""), (9, 70, 114, ""), (9, 73, 18, ""), (9, 77, 19, ""), (9, 80, 20, ""), (9, 83, 22, "")]
theorem zmes_r6 : ∀ q ∈ zmes_c6, zeOK q := List.forall_mem_cons.mpr ⟨zme_96, List.forall_mem_cons.mpr ⟨zme_97, List.forall_mem_cons.mpr ⟨zme_98, List.forall_mem_cons.mpr ⟨zme_99, List.forall_mem_cons.mpr ⟨zme_100, List.forall_mem_cons.mpr ⟨zme_101, List.forall_mem_cons.mpr ⟨zme_102, List.forall_mem_cons.mpr ⟨zme_103, List.forall_mem_cons.mpr ⟨zme_104, List.forall_mem_cons.mpr ⟨zme_105, List.forall_mem_cons.mpr ⟨zme_106, List.forall_mem_cons.mpr ⟨zme_107, List.forall_mem_cons.mpr ⟨zme_108, List.forall_mem_cons.mpr ⟨zme_109, List.forall_mem_cons.mpr ⟨zme_110, List.forall_mem_cons.mpr ⟨zme_111, fun _ h => absurd h List.not_mem_nil⟩⟩⟩⟩⟩⟩⟩⟩⟩⟩⟩⟩⟩⟩⟩⟩
noncomputable def zmes_c7 : List zMe := [(9, 86, 25, ""), (9, 90, 105, ""), (9, 94, 104, ""), (9, 98, 24, ""), (9, 102, 13, ""), (9, 106, 14, ""), (9, 109, 23, ""), (9, 112, 15, ""), (9, 116, 21, ""), (9, 119, 203, "RaysOfShapes"), (9, 123, 106, ""), (9, 126, 107, ""), (9, 129, 108, ""), (9, 132, 339, ""), (10, 37, 120, ""), (10, 41, 121, "")]
theorem zmes_r7 : ∀ q ∈ zmes_c7, zeOK q := List.forall_mem_cons.mpr ⟨zme_112, List.forall_mem_cons.mpr ⟨zme_113, List.forall_mem_cons.mpr ⟨zme_114, List.forall_mem_cons.mpr ⟨zme_115, List.forall_mem_cons.mpr ⟨zme_116, List.forall_mem_cons.mpr ⟨zme_117, List.forall_mem_cons.mpr ⟨zme_118, List.forall_mem_cons.mpr ⟨zme_119, List.forall_mem_cons.mpr ⟨zme_120, List.forall_mem_cons.mpr ⟨zme_121, List.forall_mem_cons.mpr ⟨zme_122, List.forall_mem_cons.mpr ⟨zme_123, List.forall_mem_cons.mpr ⟨zme_124, List.forall_mem_cons.mpr ⟨zme_125, List.forall_mem_cons.mpr ⟨zme_126, List.forall_mem_cons.mpr ⟨zme_127, fun _ h => absurd h List.not_mem_nil⟩⟩⟩⟩⟩⟩⟩⟩⟩⟩⟩⟩⟩⟩⟩⟩
noncomputable def zmes_c8 : List zMe := [(10, 44, 27, ""), (10, 50, 115, ""), (10, 54, 341, ""), (10, 60, 117, ""), (10, 63, 116, ""), (11, 11, 48, "RaysOfShapes"), (11, 41, 49, ""), (11, 45, 211, "RaysOfShapes"), (11, 49, 133, ""), (11, 53, 134, ""), (11, 57, 52, ""), (11, 60, 136, ""), (11, 64, 50, ""), (12, 11, 109, "RaysOfShapes"), (12, 21, 0, ""), (12, 31, 80, "")]
theorem zmes_r8 : ∀ q ∈ zmes_c8, zeOK q := List.forall_mem_cons.mpr ⟨zme_128, List.forall_mem_cons.mpr ⟨zme_129, List.forall_mem_cons.mpr ⟨zme_130, List.forall_mem_cons.mpr ⟨zme_131, List.forall_mem_cons.mpr ⟨zme_132, List.forall_mem_cons.mpr ⟨zme_133, List.forall_mem_cons.mpr ⟨zme_134, List.forall_mem_cons.mpr ⟨zme_135, List.forall_mem_cons.mpr ⟨zme_136, List.forall_mem_cons.mpr ⟨zme_137, List.forall_mem_cons.mpr ⟨zme_138, List.forall_mem_cons.mpr ⟨zme_139, List.forall_mem_cons.mpr ⟨zme_140, List.forall_mem_cons.mpr ⟨zme_141, List.forall_mem_cons.mpr ⟨zme_142, List.forall_mem_cons.mpr ⟨zme_143, fun _ h => absurd h List.not_mem_nil⟩⟩⟩⟩⟩⟩⟩⟩⟩⟩⟩⟩⟩⟩⟩⟩
noncomputable def zmes_c9 : List zMe := [(12, 38, 62, "RaysOfShapes"), (12, 45, 35, ""), (12, 52, 124, "RaysOfShapes"), (12, 59, 41, ""), (12, 66, 92, ""), (12, 73, 48, "RaysOfShapes"), (12, 88, 201, ""), (12, 92, 200, ""), (12, 96, 194, ""), (12, 100, 84, ""), (12, 104, 195, ""), (12, 107, 82, ""), (12, 110, 89, ""), (12, 114, 81, ""), (12, 117, 206, ""), (12, 120, 91, "")]
theorem zmes_r9 : ∀ q ∈ zmes_c9, zeOK q := List.forall_mem_cons.mpr ⟨zme_144, List.forall_mem_cons.mpr ⟨zme_145, List.forall_mem_cons.mpr ⟨zme_146, List.forall_mem_cons.mpr ⟨zme_147, List.forall_mem_cons.mpr ⟨zme_148, List.forall_mem_cons.mpr ⟨zme_149, List.forall_mem_cons.mpr ⟨zme_150, List.forall_mem_cons.mpr ⟨zme_151, List.forall_mem_cons.mpr ⟨zme_152, List.forall_mem_cons.mpr ⟨zme_153, List.forall_mem_cons.mpr ⟨zme_154, List.forall_mem_cons.mpr ⟨zme_155, List.forall_mem_cons.mpr ⟨zme_156, List.forall_mem_cons.mpr ⟨zme_157, List.forall_mem_cons.mpr ⟨zme_158, List.forall_mem_cons.mpr ⟨zme_159, fun _ h => absurd h List.not_mem_nil⟩⟩⟩⟩⟩⟩⟩⟩⟩⟩⟩⟩⟩⟩⟩⟩
noncomputable def zmes_c10 : List zMe := [(12, 124, 88, ""), (12, 128, 197, ""), (12, 131, 85, ""), (12, 135, 145, ""), (12, 139, 113, ""), (12, 142, 114, ""), (12, 145, 115, ""), (12, 148, 198, ""), (12, 152, 57, ""), (12, 156, 59, ""), (12, 160, 58, ""), (12, 163, 146, ""), (12, 166, 112, ""), (12, 169, 26, ""), (12, 175, 118, ""), (12, 178, 65, "")]
theorem zmes_r10 : ∀ q ∈ zmes_c10, zeOK q := List.forall_mem_cons.mpr ⟨zme_160, List.forall_mem_cons.mpr ⟨zme_161, List.forall_mem_cons.mpr ⟨zme_162, List.forall_mem_cons.mpr ⟨zme_163, List.forall_mem_cons.mpr ⟨zme_164, List.forall_mem_cons.mpr ⟨zme_165, List.forall_mem_cons.mpr ⟨zme_166, List.forall_mem_cons.mpr ⟨zme_167, List.forall_mem_cons.mpr ⟨zme_168, List.forall_mem_cons.mpr ⟨zme_169, List.forall_mem_cons.mpr ⟨zme_170, List.forall_mem_cons.mpr ⟨zme_171, List.forall_mem_cons.mpr ⟨zme_172, List.forall_mem_cons.mpr ⟨zme_173, List.forall_mem_cons.mpr ⟨zme_174, List.forall_mem_cons.mpr ⟨zme_175, fun _ h => absurd h List.not_mem_nil⟩⟩⟩⟩⟩⟩⟩⟩⟩⟩⟩⟩⟩⟩⟩⟩
noncomputable def zmes_c11 : List zMe := [(12, 182, 66, ""), (12, 186, 63, ""), (12, 187, 67, ""), (12, 190, 68, ""), (12, 194, 64, ""), (12, 197, 110, ""), (12, 198, 160, ""), (12, 201, 158, ""), (12, 204, 159, ""), (12, 208, 27, ""), (12, 211, 30, ""), (12, 215, 119, ""), (12, 218, 122, ""), (12, 222, 36, ""), (12, 225, 111, ""), (12, 232, 343, "")]
theorem zmes_r11 : ∀ q ∈ zmes_c11, zeOK q := List.forall_mem_cons.mpr ⟨zme_176, List.forall_mem_cons.mpr ⟨zme_177, List.forall_mem_cons.mpr ⟨zme_178, List.forall_mem_cons.mpr ⟨zme_179, List.forall_mem_cons.mpr ⟨zme_180, List.forall_mem_cons.mpr ⟨zme_181, List.forall_mem_cons.mpr ⟨zme_182, List.forall_mem_cons.mpr ⟨zme_183, List.forall_mem_cons.mpr ⟨zme_184, List.forall_mem_cons.mpr ⟨zme_185, List.forall_mem_cons.mpr ⟨zme_186, List.forall_mem_cons.mpr ⟨zme_187, List.forall_mem_cons.mpr ⟨zme_188, List.forall_mem_cons.mpr ⟨zme_189, List.forall_mem_cons.mpr ⟨zme_190, List.forall_mem_cons.mpr ⟨zme_191, fun _ h => absurd h List.not_mem_nil⟩⟩⟩⟩⟩⟩⟩⟩⟩⟩⟩⟩⟩⟩⟩⟩
noncomputable def zmes_c12 : List zMe := [(12, 237, 86, ""), (12, 240, 116, ""), (12, 243, 204, ""), (12, 248, 42, ""), (12, 252, 11, ""), (12, 258, 12, ""), (12, 261, 207, ""), (12, 264, 209, ""), (12, 267, 93, ""), (12, 270, 94, ""), (12, 273, 97, ""), (12, 277, 95, ""), (12, 281, 96, ""), (12, 284, 202, ""), (12, 287, 49, ""), (12, 290, 38, "")]
theorem zmes_r12 : ∀ q ∈ zmes_c12, zeOK q := List.forall_mem_cons.mpr ⟨zme_192, List.forall_mem_cons.mpr ⟨zme_193, List.forall_mem_cons.mpr ⟨zme_194, List.forall_mem_cons.mpr ⟨zme_195, List.forall_mem_cons.mpr ⟨zme_196, List.forall_mem_cons.mpr ⟨zme_197, List.forall_mem_cons.mpr ⟨zme_198, List.forall_mem_cons.mpr ⟨zme_199, List.forall_mem_cons.mpr ⟨zme_200, List.forall_mem_cons.mpr ⟨zme_201, List.forall_mem_cons.mpr ⟨zme_202, List.forall_mem_cons.mpr ⟨zme_203, List.forall_mem_cons.mpr ⟨zme_204, List.forall_mem_cons.mpr ⟨zme_205, List.forall_mem_cons.mpr ⟨zme_206, List.forall_mem_cons.mpr ⟨zme_207, fun _ h => absurd h List.not_mem_nil⟩⟩⟩⟩⟩⟩⟩⟩⟩⟩⟩⟩⟩⟩⟩⟩
noncomputable def zmes_c13 : List zMe := [(12, 294, 61, ""), (12, 297, 203, ""), (12, 300, 60, ""), (12, 303, 205, ""), (12, 306, 131, ""), (12, 310, 125, ""), (12, 313, 126, ""), (12, 316, 127, ""), (12, 319, 132, ""), (12, 322, 135, ""), (12, 326, 128, ""), (12, 329, 129, ""), (12, 332, 130, ""), (12, 335, 211, ""), (12, 338, 177, ""), (12, 342, 179, "")]
theorem zmes_r13 : ∀ q ∈ zmes_c13, zeOK q := List.forall_mem_cons.mpr ⟨zme_208, List.forall_mem_cons.mpr ⟨zme_209, List.forall_mem_cons.mpr ⟨zme_210, List.forall_mem_cons.mpr ⟨zme_211, List.forall_mem_cons.mpr ⟨zme_212, List.forall_mem_cons.mpr ⟨zme_213, List.forall_mem_cons.mpr ⟨zme_214, List.forall_mem_cons.mpr ⟨zme_215, List.forall_mem_cons.mpr ⟨zme_216, List.forall_mem_cons.mpr ⟨zme_217, List.forall_mem_cons.mpr ⟨zme_218, List.forall_mem_cons.mpr ⟨zme_219, List.forall_mem_cons.mpr ⟨zme_220, List.forall_mem_cons.mpr ⟨zme_221, List.forall_mem_cons.mpr ⟨zme_222, List.forall_mem_cons.mpr ⟨zme_223, fun _ h => absurd h List.not_mem_nil⟩⟩⟩⟩⟩⟩⟩⟩⟩⟩⟩⟩⟩⟩⟩⟩
noncomputable def zmes_c14 : List zMe := [(12, 345, 199, ""), (12, 349, 196, ""), (12, 352, 181, ""), (12, 356, 182, ""), (12, 360, 13, ""), (12, 363, 14, ""), (12, 366, 7, ""), (12, 370, 2, ""), (12, 373, 8, ""), (12, 376, 1, ""), (12, 380, 6, ""), (12, 383, 54, ""), (12, 387, 4, ""), (12, 390, 5, ""), (12, 393, 123, ""), (12, 397, 9, "")]
theorem zmes_r14 : ∀ q ∈ zmes_c14, zeOK q := List.forall_mem_cons.mpr ⟨zme_224, List.forall_mem_cons.mpr ⟨zme_225, List.forall_mem_cons.mpr ⟨zme_226, List.forall_mem_cons.mpr ⟨zme_227, List.forall_mem_cons.mpr ⟨zme_228, List.forall_mem_cons.mpr ⟨zme_229, List.forall_mem_cons.mpr ⟨zme_230, List.forall_mem_cons.mpr ⟨zme_231, List.forall_mem_cons.mpr ⟨zme_232, List.forall_mem_cons.mpr ⟨zme_233, List.forall_mem_cons.mpr ⟨zme_234, List.forall_mem_cons.mpr ⟨zme_235, List.forall_mem_cons.mpr ⟨zme_236, List.forall_mem_cons.mpr ⟨zme_237, List.forall_mem_cons.mpr ⟨zme_238, List.forall_mem_cons.mpr ⟨zme_239, fun _ h => absurd h List.not_mem_nil⟩⟩⟩⟩⟩⟩⟩⟩⟩⟩⟩⟩⟩⟩⟩⟩
noncomputable def zmes_c15 : List zMe := [(12, 404, 3, ""), (12, 407, 83, ""), (12, 412, 37, ""), (12, 415, 210, ""), (13, 110, 214, ""), (13, 119, 213, ""), (13, 123, 216, ""), (13, 127, 217, ""), (13, 132, 220, ""), (13, 136, 342, ""), (13, 142, 219, ""), (13, 146, 344, ""), (13, 149, 221, ""), (13, 153, 224, ""), (13, 156, 341, ""), (13, 158, 339, "")]
theorem zmes_r15 : ∀ q ∈ zmes_c15, zeOK q := List.forall_mem_cons.mpr ⟨zme_240, List.forall_mem_cons.mpr ⟨zme_241, List.forall_mem_cons.mpr ⟨zme_242, List.forall_mem_cons.mpr ⟨zme_243, List.forall_mem_cons.mpr ⟨zme_244, List.forall_mem_cons.mpr ⟨zme_245, List.forall_mem_cons.mpr ⟨zme_246, List.forall_mem_cons.mpr ⟨zme_247, List.forall_mem_cons.mpr ⟨zme_248, List.forall_mem_cons.mpr ⟨zme_249, List.forall_mem_cons.mpr ⟨zme_250, List.forall_mem_cons.mpr ⟨zme_251, List.forall_mem_cons.mpr ⟨zme_252, List.forall_mem_cons.mpr ⟨zme_253, List.forall_mem_cons.mpr ⟨zme_254, List.forall_mem_cons.mpr ⟨zme_255, fun _ h => absurd h List.not_mem_nil⟩⟩⟩⟩⟩⟩⟩⟩⟩⟩⟩⟩⟩⟩⟩⟩
noncomputable def zmes_c16 : List zMe := [(13, 161, 223, ""), (13, 165, 222, ""), (13, 169, 340, ""), (13, 173, 225, ""), (13, 175, 218, ""), (13, 183, 215, ""), (13, 186, 226, ""), (13, 190, 228, ""), (13, 193, 229, ""), (13, 196, 231, ""), (13, 199, 232, ""), (13, 202, 233, ""), (13, 206, 234, ""), (13, 210, 240, ""), (13, 213, 230, ""), (13, 216, 235, "")]
theorem zmes_r16 : ∀ q ∈ zmes_c16, zeOK q := List.forall_mem_cons.mpr ⟨zme_256, List.forall_mem_cons.mpr ⟨zme_257, List.forall_mem_cons.mpr ⟨zme_258, List.forall_mem_cons.mpr ⟨zme_259, List.forall_mem_cons.mpr ⟨zme_260, List.forall_mem_cons.mpr ⟨zme_261, List.forall_mem_cons.mpr ⟨zme_262, List.forall_mem_cons.mpr ⟨zme_263, List.forall_mem_cons.mpr ⟨zme_264, List.forall_mem_cons.mpr ⟨zme_265, List.forall_mem_cons.mpr ⟨zme_266, List.forall_mem_cons.mpr ⟨zme_267, List.forall_mem_cons.mpr ⟨zme_268, List.forall_mem_cons.mpr ⟨zme_269, List.forall_mem_cons.mpr ⟨zme_270, List.forall_mem_cons.mpr ⟨zme_271, fun _ h => absurd h List.not_mem_nil⟩⟩⟩⟩⟩⟩⟩⟩⟩⟩⟩⟩⟩⟩⟩⟩
noncomputable def zmes_c17 : List zMe := [(13, 220, 343, ""), (13, 222, 236, ""), (13, 226, 237, ""), (13, 229, 238, ""), (13, 232, 239, ""), (13, 235, 241, ""), (13, 239, 242, ""), (13, 245, 246, ""), (13, 248, 243, ""), (13, 251, 244, ""), (13, 254, 245, ""), (13, 259, 248, ""), (13, 263, 251, ""), (13, 267, 249, ""), (13, 274, 254, ""), (13, 281, 258, "")]
theorem zmes_r17 : ∀ q ∈ zmes_c17, zeOK q := List.forall_mem_cons.mpr ⟨zme_272, List.forall_mem_cons.mpr ⟨zme_273, List.forall_mem_cons.mpr ⟨zme_274, List.forall_mem_cons.mpr ⟨zme_275, List.forall_mem_cons.mpr ⟨zme_276, List.forall_mem_cons.mpr ⟨zme_277, List.forall_mem_cons.mpr ⟨zme_278, List.forall_mem_cons.mpr ⟨zme_279, List.forall_mem_cons.mpr ⟨zme_280, List.forall_mem_cons.mpr ⟨zme_281, List.forall_mem_cons.mpr ⟨zme_282, List.forall_mem_cons.mpr ⟨zme_283, List.forall_mem_cons.mpr ⟨zme_284, List.forall_mem_cons.mpr ⟨zme_285, List.forall_mem_cons.mpr ⟨zme_286, List.forall_mem_cons.mpr ⟨zme_287, fun _ h => absurd h List.not_mem_nil⟩⟩⟩⟩⟩⟩⟩⟩⟩⟩⟩⟩⟩⟩⟩⟩
noncomputable def zmes_c18 : List zMe := [(13, 284, 260, ""), (13, 287, 259, ""), (13, 290, 261, ""), (13, 293, 264, ""), (13, 296, 267, ""), (13, 299, 269, ""), (13, 306, 272, ""), (13, 309, 271, ""), (13, 326, 276, ""), (13, 329, 275, ""), (13, 333, 274, ""), (13, 337, 278, ""), (13, 340, 279, ""), (13, 343, 277, ""), (13, 346, 280, ""), (13, 349, 281, "")]
theorem zmes_r18 : ∀ q ∈ zmes_c18, zeOK q := List.forall_mem_cons.mpr ⟨zme_288, List.forall_mem_cons.mpr ⟨zme_289, List.forall_mem_cons.mpr ⟨zme_290, List.forall_mem_cons.mpr ⟨zme_291, List.forall_mem_cons.mpr ⟨zme_292, List.forall_mem_cons.mpr ⟨zme_293, List.forall_mem_cons.mpr ⟨zme_294, List.forall_mem_cons.mpr ⟨zme_295, List.forall_mem_cons.mpr ⟨zme_296, List.forall_mem_cons.mpr ⟨zme_297, List.forall_mem_cons.mpr ⟨zme_298, List.forall_mem_cons.mpr ⟨zme_299, List.forall_mem_cons.mpr ⟨zme_300, List.forall_mem_cons.mpr ⟨zme_301, List.forall_mem_cons.mpr ⟨zme_302, List.forall_mem_cons.mpr ⟨zme_303, fun _ h => absurd h List.not_mem_nil⟩⟩⟩⟩⟩⟩⟩⟩⟩⟩⟩⟩⟩⟩⟩⟩
noncomputable def zmes_c19 : List zMe := [(13, 353, 283, ""), (13, 357, 282, ""), (13, 368, 292, ""), (13, 371, 294, ""), (13, 379, 345, ""), (13, 383, 346, ""), (13, 390, 298, ""), (13, 403, 299, ""), (13, 414, 300, ""), (13, 417, 302, ""), (13, 420, 301, ""), (13, 423, 303, ""), (13, 426, 304, ""), (13, 429, 305, ""), (13, 438, 307, ""), (13, 441, 309, "")]
theorem zmes_r19 : ∀ q ∈ zmes_c19, zeOK q := List.forall_mem_cons.mpr ⟨zme_304, List.forall_mem_cons.mpr ⟨zme_305, List.forall_mem_cons.mpr ⟨zme_306, List.forall_mem_cons.mpr ⟨zme_307, List.forall_mem_cons.mpr ⟨zme_308, List.forall_mem_cons.mpr ⟨zme_309, List.forall_mem_cons.mpr ⟨zme_310, List.forall_mem_cons.mpr ⟨zme_311, List.forall_mem_cons.mpr ⟨zme_312, List.forall_mem_cons.mpr ⟨zme_313, List.forall_mem_cons.mpr ⟨zme_314, List.forall_mem_cons.mpr ⟨zme_315, List.forall_mem_cons.mpr ⟨zme_316, List.forall_mem_cons.mpr ⟨zme_317, List.forall_mem_cons.mpr ⟨zme_318, List.forall_mem_cons.mpr ⟨zme_319, fun _ h => absurd h List.not_mem_nil⟩⟩⟩⟩⟩⟩⟩⟩⟩⟩⟩⟩⟩⟩⟩⟩
noncomputable def zmes_c20 : List zMe := [(13, 446, 315, ""), (13, 449, 318, ""), (13, 452, 316, ""), (13, 457, 319, ""), (13, 460, 320, ""), (13, 469, 323, ""), (13, 472, 326, ""), (13, 478, 330, ""), (13, 481, 333, ""), (13, 489, 336, ""), (17, 335, 347, ""), (17, 492, 348, ""), (17, 495, 350, ""), (17, 1059, 351, ""), (18, 9, 349, ""), (14, 9, 137, "")]
theorem zmes_r20 : ∀ q ∈ zmes_c20, zeOK q := List.forall_mem_cons.mpr ⟨zme_320, List.forall_mem_cons.mpr ⟨zme_321, List.forall_mem_cons.mpr ⟨zme_322, List.forall_mem_cons.mpr ⟨zme_323, List.forall_mem_cons.mpr ⟨zme_324, List.forall_mem_cons.mpr ⟨zme_325, List.forall_mem_cons.mpr ⟨zme_326, List.forall_mem_cons.mpr ⟨zme_327, List.forall_mem_cons.mpr ⟨zme_328, List.forall_mem_cons.mpr ⟨zme_329, List.forall_mem_cons.mpr ⟨zme_330, List.forall_mem_cons.mpr ⟨zme_331, List.forall_mem_cons.mpr ⟨zme_332, List.forall_mem_cons.mpr ⟨zme_333, List.forall_mem_cons.mpr ⟨zme_334, List.forall_mem_cons.mpr ⟨zme_335, fun _ h => absurd h List.not_mem_nil⟩⟩⟩⟩⟩⟩⟩⟩⟩⟩⟩⟩⟩⟩⟩⟩
noncomputable def zmes_c21 : List zMe := [(14, 12, 212, ""), (14, 13, 138, ""), (14, 17, 308, ""), (14, 20, 139, ""), (14, 24, 310, ""), (14, 25, 140, ""), (14, 29, 311, ""), (14, 30, 141, ""), (14, 34, 312, ""), (14, 35, 142, ""), (14, 39, 313, ""), (14, 40, 143, ""), (14, 44, 314, ""), (14, 45, 144, ""), (14, 48, 317, ""), (14, 49, 147, "")]
theorem zmes_r21 : ∀ q ∈ zmes_c21, zeOK q := List.forall_mem_cons.mpr ⟨zme_336, List.forall_mem_cons.mpr ⟨zme_337, List.forall_mem_cons.mpr ⟨zme_338, List.forall_mem_cons.mpr ⟨zme_339, List.forall_mem_cons.mpr ⟨zme_340, List.forall_mem_cons.mpr ⟨zme_341, List.forall_mem_cons.mpr ⟨zme_342, List.forall_mem_cons.mpr ⟨zme_343, List.forall_mem_cons.mpr ⟨zme_344, List.forall_mem_cons.mpr ⟨zme_345, List.forall_mem_cons.mpr ⟨zme_346, List.forall_mem_cons.mpr ⟨zme_347, List.forall_mem_cons.mpr ⟨zme_348, List.forall_mem_cons.mpr ⟨zme_349, List.forall_mem_cons.mpr ⟨zme_350, List.forall_mem_cons.mpr ⟨zme_351, fun _ h => absurd h List.not_mem_nil⟩⟩⟩⟩⟩⟩⟩⟩⟩⟩⟩⟩⟩⟩⟩⟩
noncomputable def zmes_c22 : List zMe := [(14, 52, 296, ""), (14, 53, 148, ""), (14, 57, 297, ""), (14, 58, 149, ""), (14, 61, 306, ""), (14, 62, 150, ""), (14, 66, 284, ""), (14, 67, 151, ""), (14, 71, 285, ""), (14, 72, 152, ""), (14, 75, 286, ""), (14, 76, 153, ""), (14, 79, 287, ""), (14, 80, 154, ""), (14, 83, 288, ""), (14, 84, 155, "")]
theorem zmes_r22 : ∀ q ∈ zmes_c22, zeOK q := List.forall_mem_cons.mpr ⟨zme_352, List.forall_mem_cons.mpr ⟨zme_353, List.forall_mem_cons.mpr ⟨zme_354, List.forall_mem_cons.mpr ⟨zme_355, List.forall_mem_cons.mpr ⟨zme_356, List.forall_mem_cons.mpr ⟨zme_357, List.forall_mem_cons.mpr ⟨zme_358, List.forall_mem_cons.mpr ⟨zme_359, List.forall_mem_cons.mpr ⟨zme_360, List.forall_mem_cons.mpr ⟨zme_361, List.forall_mem_cons.mpr ⟨zme_362, List.forall_mem_cons.mpr ⟨zme_363, List.forall_mem_cons.mpr ⟨zme_364, List.forall_mem_cons.mpr ⟨zme_365, List.forall_mem_cons.mpr ⟨zme_366, List.forall_mem_cons.mpr ⟨zme_367, fun _ h => absurd h List.not_mem_nil⟩⟩⟩⟩⟩⟩⟩⟩⟩⟩⟩⟩⟩⟩⟩⟩
noncomputable def zmes_c23 : List zMe := [(14, 87, 289, ""), (14, 88, 156, ""), (14, 91, 290, ""), (14, 92, 157, ""), (14, 95, 291, ""), (14, 96, 161, ""), (14, 99, 293, ""), (14, 100, 162, ""), (14, 103, 295, ""), (14, 104, 163, ""), (14, 108, 227, ""), (14, 109, 164, ""), (14, 113, 247, ""), (14, 114, 165, ""), (14, 117, 250, ""), (14, 118, 166, "")]
theorem zmes_r23 : ∀ q ∈ zmes_c23, zeOK q := List.forall_mem_cons.mpr ⟨zme_368, List.forall_mem_cons.mpr ⟨zme_369, List.forall_mem_cons.mpr ⟨zme_370, List.forall_mem_cons.mpr ⟨zme_371, List.forall_mem_cons.mpr ⟨zme_372, List.forall_mem_cons.mpr ⟨zme_373, List.forall_mem_cons.mpr ⟨zme_374, List.forall_mem_cons.mpr ⟨zme_375, List.forall_mem_cons.mpr ⟨zme_376, List.forall_mem_cons.mpr ⟨zme_377, List.forall_mem_cons.mpr ⟨zme_378, List.forall_mem_cons.mpr ⟨zme_379, List.forall_mem_cons.mpr ⟨zme_380, List.forall_mem_cons.mpr ⟨zme_381, List.forall_mem_cons.mpr ⟨zme_382, List.forall_mem_cons.mpr ⟨zme_383, fun _ h => absurd h List.not_mem_nil⟩⟩⟩⟩⟩⟩⟩⟩⟩⟩⟩⟩⟩⟩⟩⟩
noncomputable def zmes_c24 : List zMe := [(14, 121, 252, ""), (14, 122, 167, ""), (14, 125, 253, ""), (14, 126, 168, ""), (14, 129, 255, ""), (14, 130, 169, ""), (14, 133, 256, ""), (14, 134, 170, ""), (14, 137, 257, ""), (14, 138, 171, ""), (14, 141, 262, ""), (14, 142, 172, ""), (14, 145, 263, ""), (14, 146, 174, ""), (14, 149, 265, ""), (14, 150, 175, "")]
theorem zmes_r24 : ∀ q ∈ zmes_c24, zeOK q := List.forall_mem_cons.mpr ⟨zme_384, List.forall_mem_cons.mpr ⟨zme_385, List.forall_mem_cons.mpr ⟨zme_386, List.forall_mem_cons.mpr ⟨zme_387, List.forall_mem_cons.mpr ⟨zme_388, List.forall_mem_cons.mpr ⟨zme_389, List.forall_mem_cons.mpr ⟨zme_390, List.forall_mem_cons.mpr ⟨zme_391, List.forall_mem_cons.mpr ⟨zme_392, List.forall_mem_cons.mpr ⟨zme_393, List.forall_mem_cons.mpr ⟨zme_394, List.forall_mem_cons.mpr ⟨zme_395, List.forall_mem_cons.mpr ⟨zme_396, List.forall_mem_cons.mpr ⟨zme_397, List.forall_mem_cons.mpr ⟨zme_398, List.forall_mem_cons.mpr ⟨zme_399, fun _ h => absurd h List.not_mem_nil⟩⟩⟩⟩⟩⟩⟩⟩⟩⟩⟩⟩⟩⟩⟩⟩
noncomputable def zmes_c25 : List zMe := [(14, 153, 266, ""), (14, 154, 173, ""), (14, 157, 268, ""), (14, 158, 176, ""), (14, 161, 270, ""), (14, 162, 178, ""), (14, 165, 273, ""), (14, 166, 180, ""), (14, 169, 321, ""), (14, 170, 183, ""), (14, 173, 322, ""), (14, 174, 184, ""), (14, 177, 324, ""), (14, 178, 185, ""), (14, 181, 325, ""), (14, 182, 186, "")]
theorem zmes_r25 : ∀ q ∈ zmes_c25, zeOK q := List.forall_mem_cons.mpr ⟨zme_400, List.forall_mem_cons.mpr ⟨zme_401, List.forall_mem_cons.mpr ⟨zme_402, List.forall_mem_cons.mpr ⟨zme_403, List.forall_mem_cons.mpr ⟨zme_404, List.forall_mem_cons.mpr ⟨zme_405, List.forall_mem_cons.mpr ⟨zme_406, List.forall_mem_cons.mpr ⟨zme_407, List.forall_mem_cons.mpr ⟨zme_408, List.forall_mem_cons.mpr ⟨zme_409, List.forall_mem_cons.mpr ⟨zme_410, List.forall_mem_cons.mpr ⟨zme_411, List.forall_mem_cons.mpr ⟨zme_412, List.forall_mem_cons.mpr ⟨zme_413, List.forall_mem_cons.mpr ⟨zme_414, List.forall_mem_cons.mpr ⟨zme_415, fun _ h => absurd h List.not_mem_nil⟩⟩⟩⟩⟩⟩⟩⟩⟩⟩⟩⟩⟩⟩⟩⟩
noncomputable def zmes_c26 : List zMe := [(14, 185, 327, ""), (14, 186, 187, ""), (14, 189, 328, ""), (14, 190, 188, ""), (14, 193, 329, ""), (14, 194, 189, ""), (14, 197, 331, ""), (14, 198, 190, ""), (14, 201, 332, ""), (14, 202, 191, ""), (14, 205, 334, ""), (14, 206, 192, ""), (14, 209, 335, ""), (14, 210, 193, ""), (14, 213, 337, "")]
theorem zmes_r26 : ∀ q ∈ zmes_c26, zeOK q := List.forall_mem_cons.mpr ⟨zme_416, List.forall_mem_cons.mpr ⟨zme_417, List.forall_mem_cons.mpr ⟨zme_418, List.forall_mem_cons.mpr ⟨zme_419, List.forall_mem_cons.mpr ⟨zme_420, List.forall_mem_cons.mpr ⟨zme_421, List.forall_mem_cons.mpr ⟨zme_422, List.forall_mem_cons.mpr ⟨zme_423, List.forall_mem_cons.mpr ⟨zme_424, List.forall_mem_cons.mpr ⟨zme_425, List.forall_mem_cons.mpr ⟨zme_426, List.forall_mem_cons.mpr ⟨zme_427, List.forall_mem_cons.mpr ⟨zme_428, List.forall_mem_cons.mpr ⟨zme_429, List.forall_mem_cons.mpr ⟨zme_430, fun _ h => absurd h List.not_mem_nil⟩⟩⟩⟩⟩⟩⟩⟩⟩⟩⟩⟩⟩⟩⟩
noncomputable def zmes : List zMe := zmes_c0 ++ (zmes_c1 ++ (zmes_c2 ++ (zmes_c3 ++ (zmes_c4 ++ (zmes_c5 ++ (zmes_c6 ++ (zmes_c7 ++ (zmes_c8 ++ (zmes_c9 ++ (zmes_c10 ++ (zmes_c11 ++ (zmes_c12 ++ (zmes_c13 ++ (zmes_c14 ++ (zmes_c15 ++ (zmes_c16 ++ (zmes_c17 ++ (zmes_c18 ++ (zmes_c19 ++ (zmes_c20 ++ (zmes_c21 ++ (zmes_c22 ++ (zmes_c23 ++ (zmes_c24 ++ (zmes_c25 ++ (zmes_c26))))))))))))))))))))))))))
theorem zmes_ok : ∀ q ∈ zmes, zeOK q := List.forall_mem_append.mpr ⟨zmes_r0, List.forall_mem_append.mpr ⟨zmes_r1, List.forall_mem_append.mpr ⟨zmes_r2, List.forall_mem_append.mpr ⟨zmes_r3, List.forall_mem_append.mpr ⟨zmes_r4, List.forall_mem_append.mpr ⟨zmes_r5, List.forall_mem_append.mpr ⟨zmes_r6, List.forall_mem_append.mpr ⟨zmes_r7, List.forall_mem_append.mpr ⟨zmes_r8, List.forall_mem_append.mpr ⟨zmes_r9, List.forall_mem_append.mpr ⟨zmes_r10, List.forall_mem_append.mpr ⟨zmes_r11, List.forall_mem_append.mpr ⟨zmes_r12, List.forall_mem_append.mpr ⟨zmes_r13, List.forall_mem_append.mpr ⟨zmes_r14, List.forall_mem_append.mpr ⟨zmes_r15, List.forall_mem_append.mpr ⟨zmes_r16, List.forall_mem_append.mpr ⟨zmes_r17, List.forall_mem_append.mpr ⟨zmes_r18, List.forall_mem_append.mpr ⟨zmes_r19, List.forall_mem_append.mpr ⟨zmes_r20, List.forall_mem_append.mpr ⟨zmes_r21, List.forall_mem_append.mpr ⟨zmes_r22, List.forall_mem_append.mpr ⟨zmes_r23, List.forall_mem_append.mpr ⟨zmes_r24, List.forall_mem_append.mpr ⟨zmes_r25, zmes_r26⟩⟩⟩⟩⟩⟩⟩⟩⟩⟩⟩⟩⟩⟩⟩⟩⟩⟩⟩⟩⟩⟩⟩⟩⟩⟩
/-- an entry of a field: own class, index, class's code, place -/
abbrev zFe : Type := Nat × Nat × Nat × Nat
def zfOK (e : zFe) : Prop := ∃ r : vw_C, znth zcl (e.2.2.1 - 1) = some r ∧ 0 < e.2.2.1 ∧ e.2.2.2 < r.2.2 ∧ Jvm.Cond.fieldLink (zcnOf e.1) e.2.1 (r.2.1 e.2.2.2).1 (r.2.1 e.2.2.2).2.1 (r.2.1 e.2.2.2).2.2.1 ∈ lw_tbl
set_option maxRecDepth 100000 in
theorem zfe_0 : zfOK (1, 10, 1, 0) := ⟨(RX0, TX0, 6), rfl, by decide, by decide, zsub_1 (List.mem_of_getElem? (i := 79) rfl)⟩
set_option maxRecDepth 100000 in
theorem zfe_1 : zfOK (1, 16, 1, 1) := ⟨(RX0, TX0, 6), rfl, by decide, by decide, zsub_1 (List.mem_of_getElem? (i := 80) rfl)⟩
set_option maxRecDepth 100000 in
theorem zfe_2 : zfOK (1, 20, 1, 5) := ⟨(RX0, TX0, 6), rfl, by decide, by decide, zsub_1 (List.mem_of_getElem? (i := 84) rfl)⟩
set_option maxRecDepth 100000 in
theorem zfe_3 : zfOK (1, 24, 1, 3) := ⟨(RX0, TX0, 6), rfl, by decide, by decide, zsub_1 (List.mem_of_getElem? (i := 82) rfl)⟩
set_option maxRecDepth 100000 in
theorem zfe_4 : zfOK (1, 27, 1, 4) := ⟨(RX0, TX0, 6), rfl, by decide, by decide, zsub_1 (List.mem_of_getElem? (i := 83) rfl)⟩
set_option maxRecDepth 100000 in
theorem zfe_5 : zfOK (1, 31, 1, 2) := ⟨(RX0, TX0, 6), rfl, by decide, by decide, zsub_1 (List.mem_of_getElem? (i := 81) rfl)⟩
set_option maxRecDepth 100000 in
theorem zfe_6 : zfOK (2, 7, 2, 1) := ⟨(RX1, TX1, 2), rfl, by decide, by decide, zsub_1 (List.mem_of_getElem? (i := 176) rfl)⟩
set_option maxRecDepth 100000 in
theorem zfe_7 : zfOK (2, 13, 2, 0) := ⟨(RX1, TX1, 2), rfl, by decide, by decide, zsub_1 (List.mem_of_getElem? (i := 175) rfl)⟩
set_option maxRecDepth 100000 in
theorem zfe_10 : zfOK (4, 11, 4, 0) := ⟨(RX3, TX3, 5), rfl, by decide, by decide, zsub_1 (List.mem_of_getElem? (i := 207) rfl)⟩
set_option maxRecDepth 100000 in
theorem zfe_11 : zfOK (4, 17, 4, 1) := ⟨(RX3, TX3, 5), rfl, by decide, by decide, zsub_1 (List.mem_of_getElem? (i := 208) rfl)⟩
set_option maxRecDepth 100000 in
theorem zfe_12 : zfOK (4, 22, 4, 2) := ⟨(RX3, TX3, 5), rfl, by decide, by decide, zsub_1 (List.mem_of_getElem? (i := 209) rfl)⟩
set_option maxRecDepth 100000 in
theorem zfe_13 : zfOK (4, 29, 4, 3) := ⟨(RX3, TX3, 5), rfl, by decide, by decide, zsub_1 (List.mem_of_getElem? (i := 210) rfl)⟩
set_option maxRecDepth 100000 in
theorem zfe_14 : zfOK (4, 36, 4, 4) := ⟨(RX3, TX3, 5), rfl, by decide, by decide, zsub_1 (List.mem_of_getElem? (i := 211) rfl)⟩
set_option maxRecDepth 100000 in
theorem zfe_15 : zfOK (5, 9, 5, 0) := ⟨(RX4, TX4, 2), rfl, by decide, by decide, zsub_1 (List.mem_of_getElem? (i := 182) rfl)⟩
set_option maxRecDepth 100000 in
theorem zfe_16 : zfOK (5, 17, 5, 1) := ⟨(RX4, TX4, 2), rfl, by decide, by decide, zsub_1 (List.mem_of_getElem? (i := 183) rfl)⟩
set_option maxRecDepth 100000 in
theorem zfe_17 : zfOK (6, 11, 6, 0) := ⟨(RX5, TX5, 1), rfl, by decide, by decide, zsub_1 (List.mem_of_getElem? (i := 73) rfl)⟩
set_option maxRecDepth 100000 in
theorem zfe_18 : zfOK (7, 11, 7, 0) := ⟨(RX6, TX6, 11), rfl, by decide, by decide, zsub_1 (List.mem_of_getElem? (i := 120) rfl)⟩
set_option maxRecDepth 100000 in
theorem zfe_19 : zfOK (7, 15, 7, 6) := ⟨(RX6, TX6, 11), rfl, by decide, by decide, zsub_1 (List.mem_of_getElem? (i := 126) rfl)⟩
set_option maxRecDepth 100000 in
theorem zfe_20 : zfOK (7, 18, 7, 7) := ⟨(RX6, TX6, 11), rfl, by decide, by decide, zsub_1 (List.mem_of_getElem? (i := 127) rfl)⟩
set_option maxRecDepth 100000 in
theorem zfe_21 : zfOK (7, 21, 7, 8) := ⟨(RX6, TX6, 11), rfl, by decide, by decide, zsub_1 (List.mem_of_getElem? (i := 128) rfl)⟩
set_option maxRecDepth 100000 in
theorem zfe_22 : zfOK (7, 24, 7, 9) := ⟨(RX6, TX6, 11), rfl, by decide, by decide, zsub_1 (List.mem_of_getElem? (i := 129) rfl)⟩
set_option maxRecDepth 100000 in
theorem zfe_23 : zfOK (7, 27, 7, 10) := ⟨(RX6, TX6, 11), rfl, by decide, by decide, zsub_1 (List.mem_of_getElem? (i := 130) rfl)⟩
set_option maxRecDepth 100000 in
theorem zfe_24 : zfOK (7, 30, 7, 1) := ⟨(RX6, TX6, 11), rfl, by decide, by decide, zsub_1 (List.mem_of_getElem? (i := 121) rfl)⟩
set_option maxRecDepth 100000 in
theorem zfe_25 : zfOK (7, 34, 7, 4) := ⟨(RX6, TX6, 11), rfl, by decide, by decide, zsub_1 (List.mem_of_getElem? (i := 124) rfl)⟩
set_option maxRecDepth 100000 in
theorem zfe_26 : zfOK (7, 37, 7, 2) := ⟨(RX6, TX6, 11), rfl, by decide, by decide, zsub_1 (List.mem_of_getElem? (i := 122) rfl)⟩
set_option maxRecDepth 100000 in
theorem zfe_27 : zfOK (7, 40, 7, 5) := ⟨(RX6, TX6, 11), rfl, by decide, by decide, zsub_1 (List.mem_of_getElem? (i := 125) rfl)⟩
set_option maxRecDepth 100000 in
theorem zfe_28 : zfOK (7, 43, 7, 3) := ⟨(RX6, TX6, 11), rfl, by decide, by decide, zsub_1 (List.mem_of_getElem? (i := 123) rfl)⟩
set_option maxRecDepth 100000 in
theorem zfe_29 : zfOK (8, 9, 8, 0) := ⟨(RX7, TX7, 3), rfl, by decide, by decide, zsub_1 (List.mem_of_getElem? (i := 104) rfl)⟩
set_option maxRecDepth 100000 in
theorem zfe_30 : zfOK (8, 15, 8, 1) := ⟨(RX7, TX7, 3), rfl, by decide, by decide, zsub_1 (List.mem_of_getElem? (i := 105) rfl)⟩
set_option maxRecDepth 100000 in
theorem zfe_31 : zfOK (8, 18, 8, 2) := ⟨(RX7, TX7, 3), rfl, by decide, by decide, zsub_1 (List.mem_of_getElem? (i := 106) rfl)⟩
set_option maxRecDepth 100000 in
theorem zfe_32 : zfOK (9, 11, 9, 0) := ⟨(RX8, TX8, 3), rfl, by decide, by decide, zsub_1 (List.mem_of_getElem? (i := 197) rfl)⟩
set_option maxRecDepth 100000 in
theorem zfe_33 : zfOK (9, 17, 9, 1) := ⟨(RX8, TX8, 3), rfl, by decide, by decide, zsub_1 (List.mem_of_getElem? (i := 198) rfl)⟩
set_option maxRecDepth 100000 in
theorem zfe_34 : zfOK (9, 21, 9, 2) := ⟨(RX8, TX8, 3), rfl, by decide, by decide, zsub_1 (List.mem_of_getElem? (i := 199) rfl)⟩
set_option maxRecDepth 100000 in
theorem zfe_35 : zfOK (10, 11, 10, 0) := ⟨(RX9, TX9, 8), rfl, by decide, by decide, zsub_1 (List.mem_of_getElem? (i := 35) rfl)⟩
set_option maxRecDepth 100000 in
theorem zfe_36 : zfOK (10, 15, 10, 1) := ⟨(RX9, TX9, 8), rfl, by decide, by decide, zsub_1 (List.mem_of_getElem? (i := 36) rfl)⟩
set_option maxRecDepth 100000 in
theorem zfe_37 : zfOK (10, 18, 10, 2) := ⟨(RX9, TX9, 8), rfl, by decide, by decide, zsub_1 (List.mem_of_getElem? (i := 37) rfl)⟩
set_option maxRecDepth 100000 in
theorem zfe_38 : zfOK (10, 21, 10, 3) := ⟨(RX9, TX9, 8), rfl, by decide, by decide, zsub_1 (List.mem_of_getElem? (i := 38) rfl)⟩
set_option maxRecDepth 100000 in
theorem zfe_39 : zfOK (10, 24, 10, 4) := ⟨(RX9, TX9, 8), rfl, by decide, by decide, zsub_1 (List.mem_of_getElem? (i := 39) rfl)⟩
set_option maxRecDepth 100000 in
theorem zfe_40 : zfOK (10, 27, 10, 5) := ⟨(RX9, TX9, 8), rfl, by decide, by decide, zsub_1 (List.mem_of_getElem? (i := 40) rfl)⟩
set_option maxRecDepth 100000 in
theorem zfe_41 : zfOK (10, 30, 10, 6) := ⟨(RX9, TX9, 8), rfl, by decide, by decide, zsub_1 (List.mem_of_getElem? (i := 41) rfl)⟩
set_option maxRecDepth 100000 in
theorem zfe_42 : zfOK (10, 33, 10, 7) := ⟨(RX9, TX9, 8), rfl, by decide, by decide, zsub_1 (List.mem_of_getElem? (i := 42) rfl)⟩
set_option maxRecDepth 100000 in
theorem zfe_43 : zfOK (11, 12, 11, 0) := ⟨(RX10, TX10, 8), rfl, by decide, by decide, zsub_1 (List.mem_of_getElem? (i := 231) rfl)⟩
set_option maxRecDepth 100000 in
theorem zfe_44 : zfOK (11, 18, 11, 1) := ⟨(RX10, TX10, 8), rfl, by decide, by decide, zsub_1 (List.mem_of_getElem? (i := 232) rfl)⟩
set_option maxRecDepth 100000 in
theorem zfe_45 : zfOK (11, 22, 11, 2) := ⟨(RX10, TX10, 8), rfl, by decide, by decide, zsub_1 (List.mem_of_getElem? (i := 233) rfl)⟩
set_option maxRecDepth 100000 in
theorem zfe_46 : zfOK (11, 26, 11, 3) := ⟨(RX10, TX10, 8), rfl, by decide, by decide, zsub_1 (List.mem_of_getElem? (i := 234) rfl)⟩
set_option maxRecDepth 100000 in
theorem zfe_47 : zfOK (11, 29, 11, 4) := ⟨(RX10, TX10, 8), rfl, by decide, by decide, zsub_1 (List.mem_of_getElem? (i := 235) rfl)⟩
set_option maxRecDepth 100000 in
theorem zfe_48 : zfOK (11, 32, 11, 5) := ⟨(RX10, TX10, 8), rfl, by decide, by decide, zsub_1 (List.mem_of_getElem? (i := 236) rfl)⟩
set_option maxRecDepth 100000 in
theorem zfe_49 : zfOK (11, 35, 11, 6) := ⟨(RX10, TX10, 8), rfl, by decide, by decide, zsub_1 (List.mem_of_getElem? (i := 237) rfl)⟩
set_option maxRecDepth 100000 in
theorem zfe_50 : zfOK (11, 38, 11, 7) := ⟨(RX10, TX10, 8), rfl, by decide, by decide, zsub_1 (List.mem_of_getElem? (i := 238) rfl)⟩
set_option maxRecDepth 100000 in
theorem zfe_51 : zfOK (12, 12, 12, 0) := ⟨(RX11, TX11, 16), rfl, by decide, by decide, zsub_2 (List.mem_of_getElem? (i := 22) rfl)⟩
set_option maxRecDepth 100000 in
theorem zfe_52 : zfOK (12, 16, 12, 1) := ⟨(RX11, TX11, 16), rfl, by decide, by decide, zsub_2 (List.mem_of_getElem? (i := 23) rfl)⟩
set_option maxRecDepth 100000 in
theorem zfe_53 : zfOK (12, 22, 12, 2) := ⟨(RX11, TX11, 16), rfl, by decide, by decide, zsub_2 (List.mem_of_getElem? (i := 24) rfl)⟩
set_option maxRecDepth 100000 in
theorem zfe_54 : zfOK (12, 26, 12, 3) := ⟨(RX11, TX11, 16), rfl, by decide, by decide, zsub_2 (List.mem_of_getElem? (i := 25) rfl)⟩
set_option maxRecDepth 100000 in
theorem zfe_55 : zfOK (12, 32, 12, 4) := ⟨(RX11, TX11, 16), rfl, by decide, by decide, zsub_2 (List.mem_of_getElem? (i := 26) rfl)⟩
set_option maxRecDepth 100000 in
theorem zfe_56 : zfOK (12, 39, 12, 5) := ⟨(RX11, TX11, 16), rfl, by decide, by decide, zsub_2 (List.mem_of_getElem? (i := 27) rfl)⟩
set_option maxRecDepth 100000 in
theorem zfe_57 : zfOK (12, 46, 12, 6) := ⟨(RX11, TX11, 16), rfl, by decide, by decide, zsub_2 (List.mem_of_getElem? (i := 28) rfl)⟩
set_option maxRecDepth 100000 in
theorem zfe_58 : zfOK (12, 53, 12, 7) := ⟨(RX11, TX11, 16), rfl, by decide, by decide, zsub_2 (List.mem_of_getElem? (i := 29) rfl)⟩
set_option maxRecDepth 100000 in
theorem zfe_59 : zfOK (12, 60, 12, 8) := ⟨(RX11, TX11, 16), rfl, by decide, by decide, zsub_2 (List.mem_of_getElem? (i := 30) rfl)⟩
set_option maxRecDepth 100000 in
theorem zfe_60 : zfOK (12, 67, 12, 9) := ⟨(RX11, TX11, 16), rfl, by decide, by decide, zsub_2 (List.mem_of_getElem? (i := 31) rfl)⟩
set_option maxRecDepth 100000 in
theorem zfe_61 : zfOK (12, 74, 12, 10) := ⟨(RX11, TX11, 16), rfl, by decide, by decide, zsub_2 (List.mem_of_getElem? (i := 32) rfl)⟩
set_option maxRecDepth 100000 in
theorem zfe_62 : zfOK (12, 78, 12, 11) := ⟨(RX11, TX11, 16), rfl, by decide, by decide, zsub_2 (List.mem_of_getElem? (i := 33) rfl)⟩
set_option maxRecDepth 100000 in
theorem zfe_63 : zfOK (12, 82, 12, 12) := ⟨(RX11, TX11, 16), rfl, by decide, by decide, zsub_2 (List.mem_of_getElem? (i := 34) rfl)⟩
set_option maxRecDepth 100000 in
theorem zfe_64 : zfOK (12, 85, 12, 13) := ⟨(RX11, TX11, 16), rfl, by decide, by decide, zsub_2 (List.mem_of_getElem? (i := 35) rfl)⟩
set_option maxRecDepth 100000 in
theorem zfe_65 : zfOK (12, 228, 12, 15) := ⟨(RX11, TX11, 16), rfl, by decide, by decide, zsub_2 (List.mem_of_getElem? (i := 37) rfl)⟩
set_option maxRecDepth 100000 in
theorem zfe_66 : zfOK (12, 400, 12, 14) := ⟨(RX11, TX11, 16), rfl, by decide, by decide, zsub_2 (List.mem_of_getElem? (i := 36) rfl)⟩
set_option maxRecDepth 100000 in
theorem zfe_67 : zfOK (13, 9, 13, 0) := ⟨(RX12, TX12, 32), rfl, by decide, by decide, zsub_6 (List.mem_of_getElem? (i := 75) rfl)⟩
set_option maxRecDepth 100000 in
theorem zfe_68 : zfOK (13, 13, 13, 2) := ⟨(RX12, TX12, 32), rfl, by decide, by decide, zsub_6 (List.mem_of_getElem? (i := 77) rfl)⟩
set_option maxRecDepth 100000 in
theorem zfe_69 : zfOK (13, 16, 13, 3) := ⟨(RX12, TX12, 32), rfl, by decide, by decide, zsub_6 (List.mem_of_getElem? (i := 78) rfl)⟩
set_option maxRecDepth 100000 in
theorem zfe_70 : zfOK (13, 20, 13, 4) := ⟨(RX12, TX12, 32), rfl, by decide, by decide, zsub_6 (List.mem_of_getElem? (i := 79) rfl)⟩
set_option maxRecDepth 100000 in
theorem zfe_71 : zfOK (13, 25, 13, 5) := ⟨(RX12, TX12, 32), rfl, by decide, by decide, zsub_6 (List.mem_of_getElem? (i := 80) rfl)⟩
set_option maxRecDepth 100000 in
theorem zfe_72 : zfOK (13, 28, 13, 6) := ⟨(RX12, TX12, 32), rfl, by decide, by decide, zsub_6 (List.mem_of_getElem? (i := 81) rfl)⟩
set_option maxRecDepth 100000 in
theorem zfe_73 : zfOK (13, 32, 13, 7) := ⟨(RX12, TX12, 32), rfl, by decide, by decide, zsub_6 (List.mem_of_getElem? (i := 82) rfl)⟩
set_option maxRecDepth 100000 in
theorem zfe_74 : zfOK (13, 35, 13, 8) := ⟨(RX12, TX12, 32), rfl, by decide, by decide, zsub_6 (List.mem_of_getElem? (i := 83) rfl)⟩
set_option maxRecDepth 100000 in
theorem zfe_75 : zfOK (13, 66, 13, 9) := ⟨(RX12, TX12, 32), rfl, by decide, by decide, zsub_6 (List.mem_of_getElem? (i := 84) rfl)⟩
set_option maxRecDepth 100000 in
theorem zfe_76 : zfOK (13, 70, 13, 10) := ⟨(RX12, TX12, 32), rfl, by decide, by decide, zsub_6 (List.mem_of_getElem? (i := 85) rfl)⟩
set_option maxRecDepth 100000 in
theorem zfe_77 : zfOK (13, 73, 13, 16) := ⟨(RX12, TX12, 32), rfl, by decide, by decide, zsub_6 (List.mem_of_getElem? (i := 91) rfl)⟩
set_option maxRecDepth 100000 in
theorem zfe_78 : zfOK (13, 76, 13, 18) := ⟨(RX12, TX12, 32), rfl, by decide, by decide, zsub_6 (List.mem_of_getElem? (i := 93) rfl)⟩
set_option maxRecDepth 100000 in
theorem zfe_79 : zfOK (13, 79, 13, 19) := ⟨(RX12, TX12, 32), rfl, by decide, by decide, zsub_6 (List.mem_of_getElem? (i := 94) rfl)⟩
set_option maxRecDepth 100000 in
theorem zfe_80 : zfOK (13, 82, 13, 20) := ⟨(RX12, TX12, 32), rfl, by decide, by decide, zsub_6 (List.mem_of_getElem? (i := 95) rfl)⟩
set_option maxRecDepth 100000 in
theorem zfe_81 : zfOK (13, 85, 13, 21) := ⟨(RX12, TX12, 32), rfl, by decide, by decide, zsub_6 (List.mem_of_getElem? (i := 96) rfl)⟩
set_option maxRecDepth 100000 in
theorem zfe_82 : zfOK (13, 88, 13, 22) := ⟨(RX12, TX12, 32), rfl, by decide, by decide, zsub_6 (List.mem_of_getElem? (i := 97) rfl)⟩
set_option maxRecDepth 100000 in
theorem zfe_83 : zfOK (13, 91, 13, 23) := ⟨(RX12, TX12, 32), rfl, by decide, by decide, zsub_6 (List.mem_of_getElem? (i := 98) rfl)⟩
set_option maxRecDepth 100000 in
theorem zfe_84 : zfOK (13, 94, 13, 26) := ⟨(RX12, TX12, 32), rfl, by decide, by decide, zsub_6 (List.mem_of_getElem? (i := 101) rfl)⟩
set_option maxRecDepth 100000 in
theorem zfe_85 : zfOK (13, 98, 13, 27) := ⟨(RX12, TX12, 32), rfl, by decide, by decide, zsub_6 (List.mem_of_getElem? (i := 102) rfl)⟩
set_option maxRecDepth 100000 in
theorem zfe_86 : zfOK (13, 101, 13, 28) := ⟨(RX12, TX12, 32), rfl, by decide, by decide, zsub_6 (List.mem_of_getElem? (i := 103) rfl)⟩
set_option maxRecDepth 100000 in
theorem zfe_87 : zfOK (13, 104, 13, 29) := ⟨(RX12, TX12, 32), rfl, by decide, by decide, zsub_6 (List.mem_of_getElem? (i := 104) rfl)⟩
set_option maxRecDepth 100000 in
theorem zfe_88 : zfOK (13, 107, 13, 30) := ⟨(RX12, TX12, 32), rfl, by decide, by decide, zsub_6 (List.mem_of_getElem? (i := 105) rfl)⟩
set_option maxRecDepth 100000 in
theorem zfe_89 : zfOK (13, 116, 13, 1) := ⟨(RX12, TX12, 32), rfl, by decide, by decide, zsub_6 (List.mem_of_getElem? (i := 76) rfl)⟩
set_option maxRecDepth 100000 in
theorem zfe_90 : zfOK (13, 376, 13, 11) := ⟨(RX12, TX12, 32), rfl, by decide, by decide, zsub_6 (List.mem_of_getElem? (i := 86) rfl)⟩
set_option maxRecDepth 100000 in
theorem zfe_91 : zfOK (13, 387, 13, 12) := ⟨(RX12, TX12, 32), rfl, by decide, by decide, zsub_6 (List.mem_of_getElem? (i := 87) rfl)⟩
set_option maxRecDepth 100000 in
theorem zfe_92 : zfOK (13, 393, 13, 13) := ⟨(RX12, TX12, 32), rfl, by decide, by decide, zsub_6 (List.mem_of_getElem? (i := 88) rfl)⟩
set_option maxRecDepth 100000 in
theorem zfe_93 : zfOK (13, 396, 13, 14) := ⟨(RX12, TX12, 32), rfl, by decide, by decide, zsub_6 (List.mem_of_getElem? (i := 89) rfl)⟩
set_option maxRecDepth 100000 in
theorem zfe_94 : zfOK (13, 406, 13, 15) := ⟨(RX12, TX12, 32), rfl, by decide, by decide, zsub_6 (List.mem_of_getElem? (i := 90) rfl)⟩
set_option maxRecDepth 100000 in
theorem zfe_95 : zfOK (13, 433, 13, 17) := ⟨(RX12, TX12, 32), rfl, by decide, by decide, zsub_6 (List.mem_of_getElem? (i := 92) rfl)⟩
set_option maxRecDepth 100000 in
theorem zfe_96 : zfOK (13, 463, 13, 24) := ⟨(RX12, TX12, 32), rfl, by decide, by decide, zsub_6 (List.mem_of_getElem? (i := 99) rfl)⟩
set_option maxRecDepth 100000 in
theorem zfe_97 : zfOK (13, 466, 13, 25) := ⟨(RX12, TX12, 32), rfl, by decide, by decide, zsub_6 (List.mem_of_getElem? (i := 100) rfl)⟩
set_option maxRecDepth 100000 in
theorem zfe_98 : zfOK (13, 485, 13, 31) := ⟨(RX12, TX12, 32), rfl, by decide, by decide, zsub_6 (List.mem_of_getElem? (i := 106) rfl)⟩
noncomputable def zfes_c0 : List zFe := [(1, 10, 1, 0), (1, 16, 1, 1), (1, 20, 1, 5), (1, 24, 1, 3), (1, 27, 1, 4), (1, 31, 1, 2), (2, 7, 2, 1), (2, 13, 2, 0), (1, 10, 1, 0), (1, 10, 1, 0), (4, 11, 4, 0), (4, 17, 4, 1), (4, 22, 4, 2), (4, 29, 4, 3), (4, 36, 4, 4), (5, 9, 5, 0)]
theorem zfes_r0 : ∀ q ∈ zfes_c0, zfOK q := List.forall_mem_cons.mpr ⟨zfe_0, List.forall_mem_cons.mpr ⟨zfe_1, List.forall_mem_cons.mpr ⟨zfe_2, List.forall_mem_cons.mpr ⟨zfe_3, List.forall_mem_cons.mpr ⟨zfe_4, List.forall_mem_cons.mpr ⟨zfe_5, List.forall_mem_cons.mpr ⟨zfe_6, List.forall_mem_cons.mpr ⟨zfe_7, List.forall_mem_cons.mpr ⟨zfe_0, List.forall_mem_cons.mpr ⟨zfe_0, List.forall_mem_cons.mpr ⟨zfe_10, List.forall_mem_cons.mpr ⟨zfe_11, List.forall_mem_cons.mpr ⟨zfe_12, List.forall_mem_cons.mpr ⟨zfe_13, List.forall_mem_cons.mpr ⟨zfe_14, List.forall_mem_cons.mpr ⟨zfe_15, fun _ h => absurd h List.not_mem_nil⟩⟩⟩⟩⟩⟩⟩⟩⟩⟩⟩⟩⟩⟩⟩⟩
noncomputable def zfes_c1 : List zFe := [(5, 17, 5, 1), (6, 11, 6, 0), (7, 11, 7, 0), (7, 15, 7, 6), (7, 18, 7, 7), (7, 21, 7, 8), (7, 24, 7, 9), (7, 27, 7, 10), (7, 30, 7, 1), (7, 34, 7, 4), (7, 37, 7, 2), (7, 40, 7, 5), (7, 43, 7, 3), (8, 9, 8, 0), (8, 15, 8, 1), (8, 18, 8, 2)]
theorem zfes_r1 : ∀ q ∈ zfes_c1, zfOK q := List.forall_mem_cons.mpr ⟨zfe_16, List.forall_mem_cons.mpr ⟨zfe_17, List.forall_mem_cons.mpr ⟨zfe_18, List.forall_mem_cons.mpr ⟨zfe_19, List.forall_mem_cons.mpr ⟨zfe_20, List.forall_mem_cons.mpr ⟨zfe_21, List.forall_mem_cons.mpr ⟨zfe_22, List.forall_mem_cons.mpr ⟨zfe_23, List.forall_mem_cons.mpr ⟨zfe_24, List.forall_mem_cons.mpr ⟨zfe_25, List.forall_mem_cons.mpr ⟨zfe_26, List.forall_mem_cons.mpr ⟨zfe_27, List.forall_mem_cons.mpr ⟨zfe_28, List.forall_mem_cons.mpr ⟨zfe_29, List.forall_mem_cons.mpr ⟨zfe_30, List.forall_mem_cons.mpr ⟨zfe_31, fun _ h => absurd h List.not_mem_nil⟩⟩⟩⟩⟩⟩⟩⟩⟩⟩⟩⟩⟩⟩⟩⟩
noncomputable def zfes_c2 : List zFe := [(9, 11, 9, 0), (9, 17, 9, 1), (9, 21, 9, 2), (10, 11, 10, 0), (10, 15, 10, 1), (10, 18, 10, 2), (10, 21, 10, 3), (10, 24, 10, 4), (10, 27, 10, 5), (10, 30, 10, 6), (10, 33, 10, 7), (11, 12, 11, 0), (11, 18, 11, 1), (11, 22, 11, 2), (11, 26, 11, 3), (11, 29, 11, 4)]
theorem zfes_r2 : ∀ q ∈ zfes_c2, zfOK q := List.forall_mem_cons.mpr ⟨zfe_32, List.forall_mem_cons.mpr ⟨zfe_33, List.forall_mem_cons.mpr ⟨zfe_34, List.forall_mem_cons.mpr ⟨zfe_35, List.forall_mem_cons.mpr ⟨zfe_36, List.forall_mem_cons.mpr ⟨zfe_37, List.forall_mem_cons.mpr ⟨zfe_38, List.forall_mem_cons.mpr ⟨zfe_39, List.forall_mem_cons.mpr ⟨zfe_40, List.forall_mem_cons.mpr ⟨zfe_41, List.forall_mem_cons.mpr ⟨zfe_42, List.forall_mem_cons.mpr ⟨zfe_43, List.forall_mem_cons.mpr ⟨zfe_44, List.forall_mem_cons.mpr ⟨zfe_45, List.forall_mem_cons.mpr ⟨zfe_46, List.forall_mem_cons.mpr ⟨zfe_47, fun _ h => absurd h List.not_mem_nil⟩⟩⟩⟩⟩⟩⟩⟩⟩⟩⟩⟩⟩⟩⟩⟩
noncomputable def zfes_c3 : List zFe := [(11, 32, 11, 5), (11, 35, 11, 6), (11, 38, 11, 7), (12, 12, 12, 0), (12, 16, 12, 1), (12, 22, 12, 2), (12, 26, 12, 3), (12, 32, 12, 4), (12, 39, 12, 5), (12, 46, 12, 6), (12, 53, 12, 7), (12, 60, 12, 8), (12, 67, 12, 9), (12, 74, 12, 10), (12, 78, 12, 11), (12, 82, 12, 12)]
theorem zfes_r3 : ∀ q ∈ zfes_c3, zfOK q := List.forall_mem_cons.mpr ⟨zfe_48, List.forall_mem_cons.mpr ⟨zfe_49, List.forall_mem_cons.mpr ⟨zfe_50, List.forall_mem_cons.mpr ⟨zfe_51, List.forall_mem_cons.mpr ⟨zfe_52, List.forall_mem_cons.mpr ⟨zfe_53, List.forall_mem_cons.mpr ⟨zfe_54, List.forall_mem_cons.mpr ⟨zfe_55, List.forall_mem_cons.mpr ⟨zfe_56, List.forall_mem_cons.mpr ⟨zfe_57, List.forall_mem_cons.mpr ⟨zfe_58, List.forall_mem_cons.mpr ⟨zfe_59, List.forall_mem_cons.mpr ⟨zfe_60, List.forall_mem_cons.mpr ⟨zfe_61, List.forall_mem_cons.mpr ⟨zfe_62, List.forall_mem_cons.mpr ⟨zfe_63, fun _ h => absurd h List.not_mem_nil⟩⟩⟩⟩⟩⟩⟩⟩⟩⟩⟩⟩⟩⟩⟩⟩
noncomputable def zfes_c4 : List zFe := [(12, 85, 12, 13), (12, 228, 12, 15), (12, 400, 12, 14), (13, 9, 13, 0), (13, 13, 13, 2), (13, 16, 13, 3), (13, 20, 13, 4), (13, 25, 13, 5), (13, 28, 13, 6), (13, 32, 13, 7), (13, 35, 13, 8), (13, 66, 13, 9), (13, 70, 13, 10), (13, 73, 13, 16), (13, 76, 13, 18), (13, 79, 13, 19)]
theorem zfes_r4 : ∀ q ∈ zfes_c4, zfOK q := List.forall_mem_cons.mpr ⟨zfe_64, List.forall_mem_cons.mpr ⟨zfe_65, List.forall_mem_cons.mpr ⟨zfe_66, List.forall_mem_cons.mpr ⟨zfe_67, List.forall_mem_cons.mpr ⟨zfe_68, List.forall_mem_cons.mpr ⟨zfe_69, List.forall_mem_cons.mpr ⟨zfe_70, List.forall_mem_cons.mpr ⟨zfe_71, List.forall_mem_cons.mpr ⟨zfe_72, List.forall_mem_cons.mpr ⟨zfe_73, List.forall_mem_cons.mpr ⟨zfe_74, List.forall_mem_cons.mpr ⟨zfe_75, List.forall_mem_cons.mpr ⟨zfe_76, List.forall_mem_cons.mpr ⟨zfe_77, List.forall_mem_cons.mpr ⟨zfe_78, List.forall_mem_cons.mpr ⟨zfe_79, fun _ h => absurd h List.not_mem_nil⟩⟩⟩⟩⟩⟩⟩⟩⟩⟩⟩⟩⟩⟩⟩⟩
noncomputable def zfes_c5 : List zFe := [(13, 82, 13, 20), (13, 85, 13, 21), (13, 88, 13, 22), (13, 91, 13, 23), (13, 94, 13, 26), (13, 98, 13, 27), (13, 101, 13, 28), (13, 104, 13, 29), (13, 107, 13, 30), (13, 116, 13, 1), (13, 376, 13, 11), (13, 387, 13, 12), (13, 393, 13, 13), (13, 396, 13, 14), (13, 406, 13, 15), (13, 433, 13, 17)]
theorem zfes_r5 : ∀ q ∈ zfes_c5, zfOK q := List.forall_mem_cons.mpr ⟨zfe_80, List.forall_mem_cons.mpr ⟨zfe_81, List.forall_mem_cons.mpr ⟨zfe_82, List.forall_mem_cons.mpr ⟨zfe_83, List.forall_mem_cons.mpr ⟨zfe_84, List.forall_mem_cons.mpr ⟨zfe_85, List.forall_mem_cons.mpr ⟨zfe_86, List.forall_mem_cons.mpr ⟨zfe_87, List.forall_mem_cons.mpr ⟨zfe_88, List.forall_mem_cons.mpr ⟨zfe_89, List.forall_mem_cons.mpr ⟨zfe_90, List.forall_mem_cons.mpr ⟨zfe_91, List.forall_mem_cons.mpr ⟨zfe_92, List.forall_mem_cons.mpr ⟨zfe_93, List.forall_mem_cons.mpr ⟨zfe_94, List.forall_mem_cons.mpr ⟨zfe_95, fun _ h => absurd h List.not_mem_nil⟩⟩⟩⟩⟩⟩⟩⟩⟩⟩⟩⟩⟩⟩⟩⟩
noncomputable def zfes_c6 : List zFe := [(13, 463, 13, 24), (13, 466, 13, 25), (13, 485, 13, 31), (1, 10, 1, 0), (1, 10, 1, 0), (1, 10, 1, 0), (1, 10, 1, 0)]
theorem zfes_r6 : ∀ q ∈ zfes_c6, zfOK q := List.forall_mem_cons.mpr ⟨zfe_96, List.forall_mem_cons.mpr ⟨zfe_97, List.forall_mem_cons.mpr ⟨zfe_98, List.forall_mem_cons.mpr ⟨zfe_0, List.forall_mem_cons.mpr ⟨zfe_0, List.forall_mem_cons.mpr ⟨zfe_0, List.forall_mem_cons.mpr ⟨zfe_0, fun _ h => absurd h List.not_mem_nil⟩⟩⟩⟩⟩⟩⟩
noncomputable def zfes : List zFe := zfes_c0 ++ (zfes_c1 ++ (zfes_c2 ++ (zfes_c3 ++ (zfes_c4 ++ (zfes_c5 ++ (zfes_c6))))))
theorem zfes_ok : ∀ q ∈ zfes, zfOK q := List.forall_mem_append.mpr ⟨zfes_r0, List.forall_mem_append.mpr ⟨zfes_r1, List.forall_mem_append.mpr ⟨zfes_r2, List.forall_mem_append.mpr ⟨zfes_r3, List.forall_mem_append.mpr ⟨zfes_r4, List.forall_mem_append.mpr ⟨zfes_r5, zfes_r6⟩⟩⟩⟩⟩⟩
end
section
def zciOK (q : Nat × Nat × Int) : Prop := Jvm.Cond.constant (zcnOf q.1) q.2.1 (Int32.ofInt q.2.2) ∈ lw_tbl
set_option maxRecDepth 100000 in
theorem zcis_0 : zciOK (5, 55, (-1000000000)) := zsub_2 (List.mem_of_getElem? (i := 227) rfl)
set_option maxRecDepth 100000 in
theorem zcis_1 : zciOK (9, 66, (-1000000000)) := zsub_3 (List.mem_of_getElem? (i := 104) rfl)
set_option maxRecDepth 100000 in
theorem zcis_2 : zciOK (1, 30, 1103515245) := zsub_5 (List.mem_of_getElem? (i := 239) rfl)
set_option maxRecDepth 100000 in
theorem zcis_3 : zciOK (13, 413, 99999) := zsub_8 (List.mem_of_getElem? (i := 67) rfl)
set_option maxRecDepth 100000 in
theorem zcis_4 : zciOK (13, 475, 1103515245) := zsub_8 (List.mem_of_getElem? (i := 188) rfl)
noncomputable def zcis : List (Nat × Nat × Int) := [(5, 55, (-1000000000)), (9, 66, (-1000000000)), (1, 30, 1103515245), (13, 413, 99999), (13, 475, 1103515245)]
theorem zcis_ok : ∀ q ∈ zcis, zciOK q := List.forall_mem_cons.mpr ⟨zcis_0, List.forall_mem_cons.mpr ⟨zcis_1, List.forall_mem_cons.mpr ⟨zcis_2, List.forall_mem_cons.mpr ⟨zcis_3, List.forall_mem_cons.mpr ⟨zcis_4, fun _ h => absurd h List.not_mem_nil⟩⟩⟩⟩⟩
def zliOK (q : Nat × Nat × Int) : Prop := Jvm.Cond.constantLong (zcnOf q.1) q.2.1 (Int64.ofInt q.2.2) ∈ lw_tbl
set_option maxRecDepth 100000 in
theorem zlis_0 : zliOK (15, 314, 6148914691236517205) := zsub_3 (List.mem_of_getElem? (i := 185) rfl)
set_option maxRecDepth 100000 in
theorem zlis_1 : zliOK (15, 316, 3689348814741910323) := zsub_3 (List.mem_of_getElem? (i := 186) rfl)
set_option maxRecDepth 100000 in
theorem zlis_2 : zliOK (15, 318, 1085102592571150095) := zsub_3 (List.mem_of_getElem? (i := 187) rfl)
set_option maxRecDepth 100000 in
theorem zlis_3 : zliOK (12, 246, (-9000000000000)) := zsub_4 (List.mem_of_getElem? (i := 238) rfl)
set_option maxRecDepth 100000 in
theorem zlis_4 : zliOK (12, 410, 4096) := zsub_5 (List.mem_of_getElem? (i := 168) rfl)
set_option maxRecDepth 100000 in
theorem zlis_5 : zliOK (6, 39, (-1)) := zsub_5 (List.mem_of_getElem? (i := 196) rfl)
set_option maxRecDepth 100000 in
theorem zlis_6 : zliOK (13, 179, (-99)) := zsub_6 (List.mem_of_getElem? (i := 184) rfl)
set_option maxRecDepth 100000 in
theorem zlis_7 : zliOK (13, 181, 99) := zsub_6 (List.mem_of_getElem? (i := 185) rfl)
set_option maxRecDepth 100000 in
theorem zlis_8 : zliOK (13, 114, 9000000000000) := zsub_6 (List.mem_of_getElem? (i := 194) rfl)
set_option maxRecDepth 100000 in
theorem zlis_9 : zliOK (13, 130, 16003008000) := zsub_6 (List.mem_of_getElem? (i := 207) rfl)
set_option maxRecDepth 100000 in
theorem zlis_10 : zliOK (13, 243, 4095) := zsub_7 (List.mem_of_getElem? (i := 9) rfl)
set_option maxRecDepth 100000 in
theorem zlis_11 : zliOK (13, 257, 3) := zsub_7 (List.mem_of_getElem? (i := 19) rfl)
set_option maxRecDepth 100000 in
theorem zlis_12 : zliOK (13, 270, 2) := zsub_7 (List.mem_of_getElem? (i := 101) rfl)
set_option maxRecDepth 100000 in
theorem zlis_13 : zliOK (13, 272, 15) := zsub_7 (List.mem_of_getElem? (i := 102) rfl)
set_option maxRecDepth 100000 in
theorem zlis_14 : zliOK (13, 277, (-4)) := zsub_7 (List.mem_of_getElem? (i := 114) rfl)
set_option maxRecDepth 100000 in
theorem zlis_15 : zliOK (13, 279, 4) := zsub_7 (List.mem_of_getElem? (i := 115) rfl)
set_option maxRecDepth 100000 in
theorem zlis_16 : zliOK (13, 302, 9) := zsub_7 (List.mem_of_getElem? (i := 170) rfl)
set_option maxRecDepth 100000 in
theorem zlis_17 : zliOK (13, 304, 4096) := zsub_7 (List.mem_of_getElem? (i := 171) rfl)
set_option maxRecDepth 100000 in
theorem zlis_18 : zliOK (13, 312, 40) := zsub_7 (List.mem_of_getElem? (i := 205) rfl)
set_option maxRecDepth 100000 in
theorem zlis_19 : zliOK (13, 314, (-40)) := zsub_7 (List.mem_of_getElem? (i := 206) rfl)
set_option maxRecDepth 100000 in
theorem zlis_20 : zliOK (13, 316, 55) := zsub_7 (List.mem_of_getElem? (i := 207) rfl)
set_option maxRecDepth 100000 in
theorem zlis_21 : zliOK (13, 318, (-999)) := zsub_7 (List.mem_of_getElem? (i := 208) rfl)
set_option maxRecDepth 100000 in
theorem zlis_22 : zliOK (13, 320, 999) := zsub_7 (List.mem_of_getElem? (i := 209) rfl)
set_option maxRecDepth 100000 in
theorem zlis_23 : zliOK (13, 322, (-9)) := zsub_7 (List.mem_of_getElem? (i := 210) rfl)
set_option maxRecDepth 100000 in
theorem zlis_24 : zliOK (13, 324, 16) := zsub_7 (List.mem_of_getElem? (i := 211) rfl)
set_option maxRecDepth 100000 in
theorem zlis_25 : zliOK (13, 360, 8) := zsub_8 (List.mem_of_getElem? (i := 0) rfl)
set_option maxRecDepth 100000 in
theorem zlis_26 : zliOK (13, 362, 10) := zsub_8 (List.mem_of_getElem? (i := 1) rfl)
set_option maxRecDepth 100000 in
theorem zlis_27 : zliOK (13, 364, 13) := zsub_8 (List.mem_of_getElem? (i := 14) rfl)
set_option maxRecDepth 100000 in
theorem zlis_28 : zliOK (13, 366, 17) := zsub_8 (List.mem_of_getElem? (i := 19) rfl)
set_option maxRecDepth 100000 in
theorem zlis_29 : zliOK (13, 374, 255) := zsub_8 (List.mem_of_getElem? (i := 40) rfl)
set_option maxRecDepth 100000 in
theorem zlis_30 : zliOK (13, 399, 97) := zsub_8 (List.mem_of_getElem? (i := 57) rfl)
set_option maxRecDepth 100000 in
theorem zlis_31 : zliOK (13, 401, 122) := zsub_8 (List.mem_of_getElem? (i := 58) rfl)
set_option maxRecDepth 100000 in
theorem zlis_32 : zliOK (13, 409, 48) := zsub_8 (List.mem_of_getElem? (i := 65) rfl)
set_option maxRecDepth 100000 in
theorem zlis_33 : zliOK (13, 411, 57) := zsub_8 (List.mem_of_getElem? (i := 66) rfl)
set_option maxRecDepth 100000 in
theorem zlis_34 : zliOK (13, 436, 7) := zsub_8 (List.mem_of_getElem? (i := 94) rfl)
set_option maxRecDepth 100000 in
theorem zlis_35 : zliOK (13, 444, 11) := zsub_8 (List.mem_of_getElem? (i := 125) rfl)
set_option maxRecDepth 100000 in
theorem zlis_36 : zliOK (13, 455, 20) := zsub_8 (List.mem_of_getElem? (i := 138) rfl)
set_option maxRecDepth 100000 in
theorem zlis_37 : zliOK (13, 476, 60) := zsub_8 (List.mem_of_getElem? (i := 183) rfl)
set_option maxRecDepth 100000 in
theorem zlis_38 : zliOK (13, 492, 12) := zsub_8 (List.mem_of_getElem? (i := 212) rfl)
set_option maxRecDepth 100000 in
theorem zlis_39 : zliOK (14, 18, 4294967295) := zsub_8 (List.mem_of_getElem? (i := 213) rfl)
noncomputable def zlis : List (Nat × Nat × Int) := [(15, 314, 6148914691236517205), (15, 316, 3689348814741910323), (15, 318, 1085102592571150095), (12, 246, (-9000000000000)), (12, 410, 4096), (6, 39, (-1)), (13, 179, (-99)), (13, 181, 99), (13, 114, 9000000000000), (13, 130, 16003008000), (13, 243, 4095), (13, 257, 3), (13, 270, 2), (13, 272, 15), (13, 277, (-4)), (13, 279, 4), (13, 302, 9), (13, 304, 4096), (13, 312, 40), (13, 314, (-40)), (13, 316, 55), (13, 318, (-999)), (13, 320, 999), (13, 322, (-9)), (13, 324, 16), (13, 360, 8), (13, 362, 10), (13, 364, 13), (13, 366, 17), (13, 374, 255), (13, 399, 97), (13, 401, 122), (13, 409, 48), (13, 411, 57), (13, 436, 7), (13, 444, 11), (13, 455, 20), (13, 476, 60), (13, 492, 12), (14, 18, 4294967295)]
theorem zlis_ok : ∀ q ∈ zlis, zliOK q := List.forall_mem_cons.mpr ⟨zlis_0, List.forall_mem_cons.mpr ⟨zlis_1, List.forall_mem_cons.mpr ⟨zlis_2, List.forall_mem_cons.mpr ⟨zlis_3, List.forall_mem_cons.mpr ⟨zlis_4, List.forall_mem_cons.mpr ⟨zlis_5, List.forall_mem_cons.mpr ⟨zlis_6, List.forall_mem_cons.mpr ⟨zlis_7, List.forall_mem_cons.mpr ⟨zlis_8, List.forall_mem_cons.mpr ⟨zlis_9, List.forall_mem_cons.mpr ⟨zlis_10, List.forall_mem_cons.mpr ⟨zlis_11, List.forall_mem_cons.mpr ⟨zlis_12, List.forall_mem_cons.mpr ⟨zlis_13, List.forall_mem_cons.mpr ⟨zlis_14, List.forall_mem_cons.mpr ⟨zlis_15, List.forall_mem_cons.mpr ⟨zlis_16, List.forall_mem_cons.mpr ⟨zlis_17, List.forall_mem_cons.mpr ⟨zlis_18, List.forall_mem_cons.mpr ⟨zlis_19, List.forall_mem_cons.mpr ⟨zlis_20, List.forall_mem_cons.mpr ⟨zlis_21, List.forall_mem_cons.mpr ⟨zlis_22, List.forall_mem_cons.mpr ⟨zlis_23, List.forall_mem_cons.mpr ⟨zlis_24, List.forall_mem_cons.mpr ⟨zlis_25, List.forall_mem_cons.mpr ⟨zlis_26, List.forall_mem_cons.mpr ⟨zlis_27, List.forall_mem_cons.mpr ⟨zlis_28, List.forall_mem_cons.mpr ⟨zlis_29, List.forall_mem_cons.mpr ⟨zlis_30, List.forall_mem_cons.mpr ⟨zlis_31, List.forall_mem_cons.mpr ⟨zlis_32, List.forall_mem_cons.mpr ⟨zlis_33, List.forall_mem_cons.mpr ⟨zlis_34, List.forall_mem_cons.mpr ⟨zlis_35, List.forall_mem_cons.mpr ⟨zlis_36, List.forall_mem_cons.mpr ⟨zlis_37, List.forall_mem_cons.mpr ⟨zlis_38, List.forall_mem_cons.mpr ⟨zlis_39, fun _ h => absurd h List.not_mem_nil⟩⟩⟩⟩⟩⟩⟩⟩⟩⟩⟩⟩⟩⟩⟩⟩⟩⟩⟩⟩⟩⟩⟩⟩⟩⟩⟩⟩⟩⟩⟩⟩⟩⟩⟩⟩⟩⟩⟩⟩
def ztxs : List String := ["", "ball", "blend", "box", "common", "cut", "grown", "half", "mirror", "repeat", "shell", "shift", "turn", "union"]
/-- string constants: own class, index, the object number -/
def zsiOK (q : Nat × Nat × Int) : Prop := ∃ t : String, znth ztxs (-10 - q.2.2).toNat = some t ∧ Jvm.Cond.stringRef (zcnOf q.1) q.2.1 t ∈ lw_tbl
set_option maxRecDepth 100000 in
theorem zsis_0 : zsiOK (3, 37, (-11)) := ⟨_, rfl, zsub_4 (List.mem_of_getElem? (i := 13) rfl)⟩
set_option maxRecDepth 100000 in
theorem zsis_1 : zsiOK (3, 39, (-13)) := ⟨_, rfl, zsub_4 (List.mem_of_getElem? (i := 14) rfl)⟩
set_option maxRecDepth 100000 in
theorem zsis_2 : zsiOK (3, 41, (-17)) := ⟨_, rfl, zsub_4 (List.mem_of_getElem? (i := 15) rfl)⟩
set_option maxRecDepth 100000 in
theorem zsis_3 : zsiOK (3, 43, (-23)) := ⟨_, rfl, zsub_4 (List.mem_of_getElem? (i := 16) rfl)⟩
set_option maxRecDepth 100000 in
theorem zsis_4 : zsiOK (3, 45, (-14)) := ⟨_, rfl, zsub_4 (List.mem_of_getElem? (i := 17) rfl)⟩
set_option maxRecDepth 100000 in
theorem zsis_5 : zsiOK (3, 47, (-15)) := ⟨_, rfl, zsub_4 (List.mem_of_getElem? (i := 18) rfl)⟩
set_option maxRecDepth 100000 in
theorem zsis_6 : zsiOK (3, 49, (-12)) := ⟨_, rfl, zsub_4 (List.mem_of_getElem? (i := 19) rfl)⟩
set_option maxRecDepth 100000 in
theorem zsis_7 : zsiOK (3, 51, (-21)) := ⟨_, rfl, zsub_4 (List.mem_of_getElem? (i := 20) rfl)⟩
set_option maxRecDepth 100000 in
theorem zsis_8 : zsiOK (3, 53, (-19)) := ⟨_, rfl, zsub_4 (List.mem_of_getElem? (i := 21) rfl)⟩
set_option maxRecDepth 100000 in
theorem zsis_9 : zsiOK (3, 55, (-18)) := ⟨_, rfl, zsub_4 (List.mem_of_getElem? (i := 22) rfl)⟩
set_option maxRecDepth 100000 in
theorem zsis_10 : zsiOK (3, 57, (-22)) := ⟨_, rfl, zsub_4 (List.mem_of_getElem? (i := 23) rfl)⟩
set_option maxRecDepth 100000 in
theorem zsis_11 : zsiOK (3, 59, (-16)) := ⟨_, rfl, zsub_4 (List.mem_of_getElem? (i := 24) rfl)⟩
set_option maxRecDepth 100000 in
theorem zsis_12 : zsiOK (3, 61, (-20)) := ⟨_, rfl, zsub_4 (List.mem_of_getElem? (i := 25) rfl)⟩
set_option maxRecDepth 100000 in
theorem zsis_13 : zsiOK (3, 63, (-10)) := ⟨_, rfl, zsub_4 (List.mem_of_getElem? (i := 26) rfl)⟩
set_option maxRecDepth 100000 in
theorem zsis_14 : zsiOK (13, 40, (-11)) := ⟨_, rfl, zsub_6 (List.mem_of_getElem? (i := 62) rfl)⟩
set_option maxRecDepth 100000 in
theorem zsis_15 : zsiOK (13, 42, (-13)) := ⟨_, rfl, zsub_6 (List.mem_of_getElem? (i := 63) rfl)⟩
set_option maxRecDepth 100000 in
theorem zsis_16 : zsiOK (13, 44, (-17)) := ⟨_, rfl, zsub_6 (List.mem_of_getElem? (i := 64) rfl)⟩
set_option maxRecDepth 100000 in
theorem zsis_17 : zsiOK (13, 46, (-23)) := ⟨_, rfl, zsub_6 (List.mem_of_getElem? (i := 65) rfl)⟩
set_option maxRecDepth 100000 in
theorem zsis_18 : zsiOK (13, 48, (-14)) := ⟨_, rfl, zsub_6 (List.mem_of_getElem? (i := 66) rfl)⟩
set_option maxRecDepth 100000 in
theorem zsis_19 : zsiOK (13, 50, (-15)) := ⟨_, rfl, zsub_6 (List.mem_of_getElem? (i := 67) rfl)⟩
set_option maxRecDepth 100000 in
theorem zsis_20 : zsiOK (13, 52, (-12)) := ⟨_, rfl, zsub_6 (List.mem_of_getElem? (i := 68) rfl)⟩
set_option maxRecDepth 100000 in
theorem zsis_21 : zsiOK (13, 54, (-21)) := ⟨_, rfl, zsub_6 (List.mem_of_getElem? (i := 69) rfl)⟩
set_option maxRecDepth 100000 in
theorem zsis_22 : zsiOK (13, 56, (-19)) := ⟨_, rfl, zsub_6 (List.mem_of_getElem? (i := 70) rfl)⟩
set_option maxRecDepth 100000 in
theorem zsis_23 : zsiOK (13, 58, (-18)) := ⟨_, rfl, zsub_6 (List.mem_of_getElem? (i := 71) rfl)⟩
set_option maxRecDepth 100000 in
theorem zsis_24 : zsiOK (13, 60, (-22)) := ⟨_, rfl, zsub_6 (List.mem_of_getElem? (i := 72) rfl)⟩
set_option maxRecDepth 100000 in
theorem zsis_25 : zsiOK (13, 62, (-16)) := ⟨_, rfl, zsub_6 (List.mem_of_getElem? (i := 73) rfl)⟩
set_option maxRecDepth 100000 in
theorem zsis_26 : zsiOK (13, 64, (-20)) := ⟨_, rfl, zsub_6 (List.mem_of_getElem? (i := 74) rfl)⟩
noncomputable def zsis : List (Nat × Nat × Int) := [(3, 37, (-11)), (3, 39, (-13)), (3, 41, (-17)), (3, 43, (-23)), (3, 45, (-14)), (3, 47, (-15)), (3, 49, (-12)), (3, 51, (-21)), (3, 53, (-19)), (3, 55, (-18)), (3, 57, (-22)), (3, 59, (-16)), (3, 61, (-20)), (3, 63, (-10)), (13, 40, (-11)), (13, 42, (-13)), (13, 44, (-17)), (13, 46, (-23)), (13, 48, (-14)), (13, 50, (-15)), (13, 52, (-12)), (13, 54, (-21)), (13, 56, (-19)), (13, 58, (-18)), (13, 60, (-22)), (13, 62, (-16)), (13, 64, (-20))]
theorem zsis_ok : ∀ q ∈ zsis, zsiOK q := List.forall_mem_cons.mpr ⟨zsis_0, List.forall_mem_cons.mpr ⟨zsis_1, List.forall_mem_cons.mpr ⟨zsis_2, List.forall_mem_cons.mpr ⟨zsis_3, List.forall_mem_cons.mpr ⟨zsis_4, List.forall_mem_cons.mpr ⟨zsis_5, List.forall_mem_cons.mpr ⟨zsis_6, List.forall_mem_cons.mpr ⟨zsis_7, List.forall_mem_cons.mpr ⟨zsis_8, List.forall_mem_cons.mpr ⟨zsis_9, List.forall_mem_cons.mpr ⟨zsis_10, List.forall_mem_cons.mpr ⟨zsis_11, List.forall_mem_cons.mpr ⟨zsis_12, List.forall_mem_cons.mpr ⟨zsis_13, List.forall_mem_cons.mpr ⟨zsis_14, List.forall_mem_cons.mpr ⟨zsis_15, List.forall_mem_cons.mpr ⟨zsis_16, List.forall_mem_cons.mpr ⟨zsis_17, List.forall_mem_cons.mpr ⟨zsis_18, List.forall_mem_cons.mpr ⟨zsis_19, List.forall_mem_cons.mpr ⟨zsis_20, List.forall_mem_cons.mpr ⟨zsis_21, List.forall_mem_cons.mpr ⟨zsis_22, List.forall_mem_cons.mpr ⟨zsis_23, List.forall_mem_cons.mpr ⟨zsis_24, List.forall_mem_cons.mpr ⟨zsis_25, List.forall_mem_cons.mpr ⟨zsis_26, fun _ h => absurd h List.not_mem_nil⟩⟩⟩⟩⟩⟩⟩⟩⟩⟩⟩⟩⟩⟩⟩⟩⟩⟩⟩⟩⟩⟩⟩⟩⟩⟩⟩
def zcnOK (q : Nat × Nat × Nat × Nat) : Prop := ∃ r : vw_C, znth zcl (q.2.2.1 - 1) = some r ∧ 0 < q.2.2.1 ∧ r.2.2 = q.2.2.2 ∧ Jvm.Cond.classLink (zcnOf q.1) q.2.1 r.1 ∈ lw_tbl ∧ Jvm.Cond.instantiable r.1 r.2.2 ∈ lw_tbl ∧ Jvm.Cond.initialized r.1 ∈ lw_tbl
set_option maxRecDepth 100000 in
theorem zcns2_0 : zcnOK (14, 7, 12, 16) := ⟨(RX11, TX11, 16), rfl, by decide, rfl, zsub_1 (List.mem_of_getElem? (i := 21) rfl), zsub_1 (List.mem_of_getElem? (i := 22) rfl), zsub_1 (List.mem_of_getElem? (i := 1) rfl)⟩
set_option maxRecDepth 100000 in
theorem zcns2_1 : zcnOK (12, 9, 10, 8) := ⟨(RX9, TX9, 8), rfl, by decide, rfl, zsub_1 (List.mem_of_getElem? (i := 29) rfl), zsub_1 (List.mem_of_getElem? (i := 30) rfl), zsub_1 (List.mem_of_getElem? (i := 2) rfl)⟩
set_option maxRecDepth 100000 in
theorem zcns2_2 : zcnOK (12, 19, 1, 6) := ⟨(RX0, TX0, 6), rfl, by decide, rfl, zsub_1 (List.mem_of_getElem? (i := 61) rfl), zsub_1 (List.mem_of_getElem? (i := 62) rfl), zsub_1 (List.mem_of_getElem? (i := 3) rfl)⟩
set_option maxRecDepth 100000 in
theorem zcns2_3 : zcnOK (1, 7, 6, 1) := ⟨(RX5, TX5, 1), rfl, by decide, rfl, zsub_1 (List.mem_of_getElem? (i := 67) rfl), zsub_1 (List.mem_of_getElem? (i := 68) rfl), zsub_1 (List.mem_of_getElem? (i := 4) rfl)⟩
set_option maxRecDepth 100000 in
theorem zcns2_4 : zcnOK (12, 29, 8, 3) := ⟨(RX7, TX7, 3), rfl, by decide, rfl, zsub_1 (List.mem_of_getElem? (i := 98) rfl), zsub_1 (List.mem_of_getElem? (i := 99) rfl), zsub_1 (List.mem_of_getElem? (i := 5) rfl)⟩
set_option maxRecDepth 100000 in
theorem zcns2_5 : zcnOK (12, 36, 7, 11) := ⟨(RX6, TX6, 11), rfl, by decide, rfl, zsub_1 (List.mem_of_getElem? (i := 114) rfl), zsub_1 (List.mem_of_getElem? (i := 115) rfl), zsub_1 (List.mem_of_getElem? (i := 6) rfl)⟩
set_option maxRecDepth 100000 in
theorem zcns2_6 : zcnOK (12, 43, 4, 5) := ⟨(RX3, TX3, 5), rfl, by decide, rfl, zsub_1 (List.mem_of_getElem? (i := 154) rfl), zsub_1 (List.mem_of_getElem? (i := 155) rfl), zsub_1 (List.mem_of_getElem? (i := 7) rfl)⟩
set_option maxRecDepth 100000 in
theorem zcns2_7 : zcnOK (4, 9, 6, 1) := ⟨(RX5, TX5, 1), rfl, by decide, rfl, zsub_1 (List.mem_of_getElem? (i := 160) rfl), zsub_1 (List.mem_of_getElem? (i := 68) rfl), zsub_1 (List.mem_of_getElem? (i := 4) rfl)⟩
set_option maxRecDepth 100000 in
theorem zcns2_8 : zcnOK (4, 26, 5, 2) := ⟨(RX4, TX4, 2), rfl, by decide, rfl, zsub_1 (List.mem_of_getElem? (i := 162) rfl), zsub_1 (List.mem_of_getElem? (i := 163) rfl), zsub_1 (List.mem_of_getElem? (i := 8) rfl)⟩
set_option maxRecDepth 100000 in
theorem zcns2_9 : zcnOK (5, 15, 2, 2) := ⟨(RX1, TX1, 2), rfl, by decide, rfl, zsub_1 (List.mem_of_getElem? (i := 168) rfl), zsub_1 (List.mem_of_getElem? (i := 170) rfl), zsub_1 (List.mem_of_getElem? (i := 9) rfl)⟩
set_option maxRecDepth 100000 in
theorem zcns2_10 : zcnOK (4, 33, 9, 3) := ⟨(RX8, TX8, 3), rfl, by decide, rfl, zsub_1 (List.mem_of_getElem? (i := 189) rfl), zsub_1 (List.mem_of_getElem? (i := 190) rfl), zsub_1 (List.mem_of_getElem? (i := 10) rfl)⟩
set_option maxRecDepth 100000 in
theorem zcns2_11 : zcnOK (9, 15, 2, 2) := ⟨(RX1, TX1, 2), rfl, by decide, rfl, zsub_1 (List.mem_of_getElem? (i := 195) rfl), zsub_1 (List.mem_of_getElem? (i := 170) rfl), zsub_1 (List.mem_of_getElem? (i := 9) rfl)⟩
set_option maxRecDepth 100000 in
theorem zcns2_12 : zcnOK (12, 50, 11, 8) := ⟨(RX10, TX10, 8), rfl, by decide, rfl, zsub_1 (List.mem_of_getElem? (i := 223) rfl), zsub_1 (List.mem_of_getElem? (i := 224) rfl), zsub_1 (List.mem_of_getElem? (i := 11) rfl)⟩
set_option maxRecDepth 100000 in
theorem zcns2_13 : zcnOK (11, 9, 6, 1) := ⟨(RX5, TX5, 1), rfl, by decide, rfl, zsub_1 (List.mem_of_getElem? (i := 229) rfl), zsub_1 (List.mem_of_getElem? (i := 68) rfl), zsub_1 (List.mem_of_getElem? (i := 4) rfl)⟩
set_option maxRecDepth 100000 in
theorem zcns2_14 : zcnOK (12, 57, 5, 2) := ⟨(RX4, TX4, 2), rfl, by decide, rfl, zsub_2 (List.mem_of_getElem? (i := 16) rfl), zsub_1 (List.mem_of_getElem? (i := 163) rfl), zsub_1 (List.mem_of_getElem? (i := 8) rfl)⟩
set_option maxRecDepth 100000 in
theorem zcns2_15 : zcnOK (12, 64, 9, 3) := ⟨(RX8, TX8, 3), rfl, by decide, rfl, zsub_2 (List.mem_of_getElem? (i := 18) rfl), zsub_1 (List.mem_of_getElem? (i := 190) rfl), zsub_1 (List.mem_of_getElem? (i := 10) rfl)⟩
set_option maxRecDepth 100000 in
theorem zcns2_16 : zcnOK (12, 71, 6, 1) := ⟨(RX5, TX5, 1), rfl, by decide, rfl, zsub_2 (List.mem_of_getElem? (i := 20) rfl), zsub_1 (List.mem_of_getElem? (i := 68) rfl), zsub_1 (List.mem_of_getElem? (i := 4) rfl)⟩
set_option maxRecDepth 100000 in
theorem zcns2_17 : zcnOK (14, 10, 13, 32) := ⟨(RX12, TX12, 32), rfl, by decide, rfl, zsub_6 (List.mem_of_getElem? (i := 52) rfl), zsub_6 (List.mem_of_getElem? (i := 53) rfl), zsub_1 (List.mem_of_getElem? (i := 12) rfl)⟩
noncomputable def zcns2 : List (Nat × Nat × Nat × Nat) := [(14, 7, 12, 16), (12, 9, 10, 8), (12, 19, 1, 6), (1, 7, 6, 1), (12, 29, 8, 3), (12, 36, 7, 11), (12, 43, 4, 5), (4, 9, 6, 1), (4, 26, 5, 2), (5, 15, 2, 2), (4, 33, 9, 3), (9, 15, 2, 2), (12, 50, 11, 8), (11, 9, 6, 1), (12, 57, 5, 2), (12, 64, 9, 3), (12, 71, 6, 1), (14, 10, 13, 32)]
theorem zcns2_ok : ∀ q ∈ zcns2, zcnOK q := List.forall_mem_cons.mpr ⟨zcns2_0, List.forall_mem_cons.mpr ⟨zcns2_1, List.forall_mem_cons.mpr ⟨zcns2_2, List.forall_mem_cons.mpr ⟨zcns2_3, List.forall_mem_cons.mpr ⟨zcns2_4, List.forall_mem_cons.mpr ⟨zcns2_5, List.forall_mem_cons.mpr ⟨zcns2_6, List.forall_mem_cons.mpr ⟨zcns2_7, List.forall_mem_cons.mpr ⟨zcns2_8, List.forall_mem_cons.mpr ⟨zcns2_9, List.forall_mem_cons.mpr ⟨zcns2_10, List.forall_mem_cons.mpr ⟨zcns2_11, List.forall_mem_cons.mpr ⟨zcns2_12, List.forall_mem_cons.mpr ⟨zcns2_13, List.forall_mem_cons.mpr ⟨zcns2_14, List.forall_mem_cons.mpr ⟨zcns2_15, List.forall_mem_cons.mpr ⟨zcns2_16, List.forall_mem_cons.mpr ⟨zcns2_17, fun _ h => absurd h List.not_mem_nil⟩⟩⟩⟩⟩⟩⟩⟩⟩⟩⟩⟩⟩⟩⟩⟩⟩⟩
def zanm (c : Nat) : String := if c = 30 then "RaysOfShapes$Fraction" else if c = 31 then "RaysOfShapes$Places" else "java/lang/String"
def zanOK (q : Nat × Nat × Nat) : Prop := Jvm.Cond.classLink (zcnOf q.1) q.2.1 (zanm q.2.2) ∈ lw_tbl ∧ Jvm.Cond.arrayOver (.object (zanm q.2.2)) ∈ lw_tbl
set_option maxRecDepth 100000 in
theorem zans_0 : zanOK (1, 7, 31) := ⟨zsub_1 (List.mem_of_getElem? (i := 67) rfl), zsub_1 (List.mem_of_getElem? (i := 78) rfl)⟩
set_option maxRecDepth 100000 in
theorem zans_1 : zanOK (4, 9, 31) := ⟨zsub_1 (List.mem_of_getElem? (i := 160) rfl), zsub_1 (List.mem_of_getElem? (i := 78) rfl)⟩
set_option maxRecDepth 100000 in
theorem zans_2 : zanOK (5, 15, 30) := ⟨zsub_1 (List.mem_of_getElem? (i := 168) rfl), zsub_1 (List.mem_of_getElem? (i := 169) rfl)⟩
set_option maxRecDepth 100000 in
theorem zans_3 : zanOK (9, 15, 30) := ⟨zsub_1 (List.mem_of_getElem? (i := 195) rfl), zsub_1 (List.mem_of_getElem? (i := 169) rfl)⟩
set_option maxRecDepth 100000 in
theorem zans_4 : zanOK (13, 38, 34) := ⟨zsub_6 (List.mem_of_getElem? (i := 60) rfl), zsub_6 (List.mem_of_getElem? (i := 61) rfl)⟩
noncomputable def zans : List (Nat × Nat × Nat) := [(1, 7, 31), (4, 9, 31), (5, 15, 30), (9, 15, 30), (13, 38, 34)]
theorem zans_ok : ∀ q ∈ zans, zanOK q := List.forall_mem_cons.mpr ⟨zans_0, List.forall_mem_cons.mpr ⟨zans_1, List.forall_mem_cons.mpr ⟨zans_2, List.forall_mem_cons.mpr ⟨zans_3, List.forall_mem_cons.mpr ⟨zans_4, fun _ h => absurd h List.not_mem_nil⟩⟩⟩⟩⟩
def zfdT (ty : Nat) (t : FieldType) : Prop := match ty with
  | 1 => t = .int
  | 2 => t = .long
  | 6 => t = .boolean
  | _ => t.isReference = true
def zfdOK (q : Nat × Nat × Nat × Int × Int × Bool) : Prop := ∃ r : vw_C, znth zcl (q.1 - 1) = some r ∧ 0 < q.1 ∧ q.2.1 < r.2.2 ∧ (∃ t, parseFieldDescriptor (r.2.1 q.2.1).2.2.1 = some t ∧ zfdT q.2.2.1 t) ∧ (r.2.1 q.2.1).2.2.2 = q.2.2.2.2.2
set_option maxRecDepth 100000 in
theorem zfds_0 : zfdOK (1, 0, 3, 6, 1, true) := ⟨(RX0, TX0, 6), rfl, by decide, by decide, ⟨_, tyX0_ok 0 (by decide), by first | rfl | (show FieldType.isReference _ = true; rfl)⟩, rfl⟩
set_option maxRecDepth 100000 in
theorem zfds_1 : zfdOK (1, 1, 3, 31, 12, true) := ⟨(RX0, TX0, 6), rfl, by decide, by decide, ⟨_, tyX0_ok 1 (by decide), by first | rfl | (show FieldType.isReference _ = true; rfl)⟩, rfl⟩
set_option maxRecDepth 100000 in
theorem zfds_2 : zfdOK (1, 2, 1, 0, 0, false) := ⟨(RX0, TX0, 6), rfl, by decide, by decide, ⟨_, tyX0_ok 2 (by decide), by first | rfl | (show FieldType.isReference _ = true; rfl)⟩, rfl⟩
set_option maxRecDepth 100000 in
theorem zfds_3 : zfdOK (1, 3, 1, 0, 0, false) := ⟨(RX0, TX0, 6), rfl, by decide, by decide, ⟨_, tyX0_ok 3 (by decide), by first | rfl | (show FieldType.isReference _ = true; rfl)⟩, rfl⟩
set_option maxRecDepth 100000 in
theorem zfds_4 : zfdOK (1, 4, 1, 0, 0, false) := ⟨(RX0, TX0, 6), rfl, by decide, by decide, ⟨_, tyX0_ok 4 (by decide), by first | rfl | (show FieldType.isReference _ = true; rfl)⟩, rfl⟩
set_option maxRecDepth 100000 in
theorem zfds_5 : zfdOK (1, 5, 1, 0, 0, false) := ⟨(RX0, TX0, 6), rfl, by decide, by decide, ⟨_, tyX0_ok 5 (by decide), by first | rfl | (show FieldType.isReference _ = true; rfl)⟩, rfl⟩
set_option maxRecDepth 100000 in
theorem zfds_6 : zfdOK (2, 0, 2, 0, 0, false) := ⟨(RX1, TX1, 2), rfl, by decide, by decide, ⟨_, tyX1_ok 0 (by decide), by first | rfl | (show FieldType.isReference _ = true; rfl)⟩, rfl⟩
set_option maxRecDepth 100000 in
theorem zfds_7 : zfdOK (2, 1, 2, 0, 0, false) := ⟨(RX1, TX1, 2), rfl, by decide, by decide, ⟨_, tyX1_ok 1 (by decide), by first | rfl | (show FieldType.isReference _ = true; rfl)⟩, rfl⟩
set_option maxRecDepth 100000 in
theorem zfds_8 : zfdOK (4, 0, 3, 31, 24, true) := ⟨(RX3, TX3, 5), rfl, by decide, by decide, ⟨_, tyX3_ok 0 (by decide), by first | rfl | (show FieldType.isReference _ = true; rfl)⟩, rfl⟩
set_option maxRecDepth 100000 in
theorem zfds_9 : zfdOK (4, 1, 3, 20, 24, true) := ⟨(RX3, TX3, 5), rfl, by decide, by decide, ⟨_, tyX3_ok 1 (by decide), by first | rfl | (show FieldType.isReference _ = true; rfl)⟩, rfl⟩
set_option maxRecDepth 100000 in
theorem zfds_10 : zfdOK (4, 2, 3, 6, 1, true) := ⟨(RX3, TX3, 5), rfl, by decide, by decide, ⟨_, tyX3_ok 2 (by decide), by first | rfl | (show FieldType.isReference _ = true; rfl)⟩, rfl⟩
set_option maxRecDepth 100000 in
theorem zfds_11 : zfdOK (4, 3, 3, 5, 2, true) := ⟨(RX3, TX3, 5), rfl, by decide, by decide, ⟨_, tyX3_ok 3 (by decide), by first | rfl | (show FieldType.isReference _ = true; rfl)⟩, rfl⟩
set_option maxRecDepth 100000 in
theorem zfds_12 : zfdOK (4, 4, 3, 9, 3, true) := ⟨(RX3, TX3, 5), rfl, by decide, by decide, ⟨_, tyX3_ok 4 (by decide), by first | rfl | (show FieldType.isReference _ = true; rfl)⟩, rfl⟩
set_option maxRecDepth 100000 in
theorem zfds_13 : zfdOK (5, 0, 3, 20, 24, true) := ⟨(RX4, TX4, 2), rfl, by decide, by decide, ⟨_, tyX4_ok 0 (by decide), by first | rfl | (show FieldType.isReference _ = true; rfl)⟩, rfl⟩
set_option maxRecDepth 100000 in
theorem zfds_14 : zfdOK (5, 1, 3, 30, 8, true) := ⟨(RX4, TX4, 2), rfl, by decide, by decide, ⟨_, tyX4_ok 1 (by decide), by first | rfl | (show FieldType.isReference _ = true; rfl)⟩, rfl⟩
set_option maxRecDepth 100000 in
theorem zfds_15 : zfdOK (6, 0, 3, 21, 64, true) := ⟨(RX5, TX5, 1), rfl, by decide, by decide, ⟨_, tyX5_ok 0 (by decide), by first | rfl | (show FieldType.isReference _ = true; rfl)⟩, rfl⟩
set_option maxRecDepth 100000 in
theorem zfds_16 : zfdOK (7, 0, 3, 20, 250, true) := ⟨(RX6, TX6, 11), rfl, by decide, by decide, ⟨_, tyX6_ok 0 (by decide), by first | rfl | (show FieldType.isReference _ = true; rfl)⟩, rfl⟩
set_option maxRecDepth 100000 in
theorem zfds_17 : zfdOK (7, 1, 1, 0, 0, false) := ⟨(RX6, TX6, 11), rfl, by decide, by decide, ⟨_, tyX6_ok 1 (by decide), by first | rfl | (show FieldType.isReference _ = true; rfl)⟩, rfl⟩
set_option maxRecDepth 100000 in
theorem zfds_18 : zfdOK (7, 2, 1, 0, 0, false) := ⟨(RX6, TX6, 11), rfl, by decide, by decide, ⟨_, tyX6_ok 2 (by decide), by first | rfl | (show FieldType.isReference _ = true; rfl)⟩, rfl⟩
set_option maxRecDepth 100000 in
theorem zfds_19 : zfdOK (7, 3, 1, 0, 0, false) := ⟨(RX6, TX6, 11), rfl, by decide, by decide, ⟨_, tyX6_ok 3 (by decide), by first | rfl | (show FieldType.isReference _ = true; rfl)⟩, rfl⟩
set_option maxRecDepth 100000 in
theorem zfds_20 : zfdOK (7, 4, 1, 0, 0, false) := ⟨(RX6, TX6, 11), rfl, by decide, by decide, ⟨_, tyX6_ok 4 (by decide), by first | rfl | (show FieldType.isReference _ = true; rfl)⟩, rfl⟩
set_option maxRecDepth 100000 in
theorem zfds_21 : zfdOK (7, 5, 1, 0, 0, false) := ⟨(RX6, TX6, 11), rfl, by decide, by decide, ⟨_, tyX6_ok 5 (by decide), by first | rfl | (show FieldType.isReference _ = true; rfl)⟩, rfl⟩
set_option maxRecDepth 100000 in
theorem zfds_22 : zfdOK (7, 6, 3, 20, 64, true) := ⟨(RX6, TX6, 11), rfl, by decide, by decide, ⟨_, tyX6_ok 6 (by decide), by first | rfl | (show FieldType.isReference _ = true; rfl)⟩, rfl⟩
set_option maxRecDepth 100000 in
theorem zfds_23 : zfdOK (7, 7, 3, 20, 64, true) := ⟨(RX6, TX6, 11), rfl, by decide, by decide, ⟨_, tyX6_ok 7 (by decide), by first | rfl | (show FieldType.isReference _ = true; rfl)⟩, rfl⟩
set_option maxRecDepth 100000 in
theorem zfds_24 : zfdOK (7, 8, 3, 20, 64, true) := ⟨(RX6, TX6, 11), rfl, by decide, by decide, ⟨_, tyX6_ok 8 (by decide), by first | rfl | (show FieldType.isReference _ = true; rfl)⟩, rfl⟩
set_option maxRecDepth 100000 in
theorem zfds_25 : zfdOK (7, 9, 3, 20, 384, true) := ⟨(RX6, TX6, 11), rfl, by decide, by decide, ⟨_, tyX6_ok 9 (by decide), by first | rfl | (show FieldType.isReference _ = true; rfl)⟩, rfl⟩
set_option maxRecDepth 100000 in
theorem zfds_26 : zfdOK (7, 10, 3, 20, 6, true) := ⟨(RX6, TX6, 11), rfl, by decide, by decide, ⟨_, tyX6_ok 10 (by decide), by first | rfl | (show FieldType.isReference _ = true; rfl)⟩, rfl⟩
set_option maxRecDepth 100000 in
theorem zfds_27 : zfdOK (8, 0, 3, 20, 8, true) := ⟨(RX7, TX7, 3), rfl, by decide, by decide, ⟨_, tyX7_ok 0 (by decide), by first | rfl | (show FieldType.isReference _ = true; rfl)⟩, rfl⟩
set_option maxRecDepth 100000 in
theorem zfds_28 : zfdOK (8, 1, 3, 20, 8, true) := ⟨(RX7, TX7, 3), rfl, by decide, by decide, ⟨_, tyX7_ok 1 (by decide), by first | rfl | (show FieldType.isReference _ = true; rfl)⟩, rfl⟩
set_option maxRecDepth 100000 in
theorem zfds_29 : zfdOK (8, 2, 3, 21, 320, true) := ⟨(RX7, TX7, 3), rfl, by decide, by decide, ⟨_, tyX7_ok 2 (by decide), by first | rfl | (show FieldType.isReference _ = true; rfl)⟩, rfl⟩
set_option maxRecDepth 100000 in
theorem zfds_30 : zfdOK (9, 0, 3, 20, 48, true) := ⟨(RX8, TX8, 3), rfl, by decide, by decide, ⟨_, tyX8_ok 0 (by decide), by first | rfl | (show FieldType.isReference _ = true; rfl)⟩, rfl⟩
set_option maxRecDepth 100000 in
theorem zfds_31 : zfdOK (9, 1, 3, 30, 8, true) := ⟨(RX8, TX8, 3), rfl, by decide, by decide, ⟨_, tyX8_ok 1 (by decide), by first | rfl | (show FieldType.isReference _ = true; rfl)⟩, rfl⟩
set_option maxRecDepth 100000 in
theorem zfds_32 : zfdOK (9, 2, 3, 30, 8, true) := ⟨(RX8, TX8, 3), rfl, by decide, by decide, ⟨_, tyX8_ok 2 (by decide), by first | rfl | (show FieldType.isReference _ = true; rfl)⟩, rfl⟩
set_option maxRecDepth 100000 in
theorem zfds_33 : zfdOK (10, 0, 3, 20, 88, true) := ⟨(RX9, TX9, 8), rfl, by decide, by decide, ⟨_, tyX9_ok 0 (by decide), by first | rfl | (show FieldType.isReference _ = true; rfl)⟩, rfl⟩
set_option maxRecDepth 100000 in
theorem zfds_34 : zfdOK (10, 1, 3, 20, 88, true) := ⟨(RX9, TX9, 8), rfl, by decide, by decide, ⟨_, tyX9_ok 1 (by decide), by first | rfl | (show FieldType.isReference _ = true; rfl)⟩, rfl⟩
set_option maxRecDepth 100000 in
theorem zfds_35 : zfdOK (10, 2, 3, 20, 88, true) := ⟨(RX9, TX9, 8), rfl, by decide, by decide, ⟨_, tyX9_ok 2 (by decide), by first | rfl | (show FieldType.isReference _ = true; rfl)⟩, rfl⟩
set_option maxRecDepth 100000 in
theorem zfds_36 : zfdOK (10, 3, 3, 20, 88, true) := ⟨(RX9, TX9, 8), rfl, by decide, by decide, ⟨_, tyX9_ok 3 (by decide), by first | rfl | (show FieldType.isReference _ = true; rfl)⟩, rfl⟩
set_option maxRecDepth 100000 in
theorem zfds_37 : zfdOK (10, 4, 3, 20, 88, true) := ⟨(RX9, TX9, 8), rfl, by decide, by decide, ⟨_, tyX9_ok 4 (by decide), by first | rfl | (show FieldType.isReference _ = true; rfl)⟩, rfl⟩
set_option maxRecDepth 100000 in
theorem zfds_38 : zfdOK (10, 5, 3, 20, 88, true) := ⟨(RX9, TX9, 8), rfl, by decide, by decide, ⟨_, tyX9_ok 5 (by decide), by first | rfl | (show FieldType.isReference _ = true; rfl)⟩, rfl⟩
set_option maxRecDepth 100000 in
theorem zfds_39 : zfdOK (10, 6, 3, 20, 528, true) := ⟨(RX9, TX9, 8), rfl, by decide, by decide, ⟨_, tyX9_ok 6 (by decide), by first | rfl | (show FieldType.isReference _ = true; rfl)⟩, rfl⟩
set_option maxRecDepth 100000 in
theorem zfds_40 : zfdOK (10, 7, 1, 0, 0, false) := ⟨(RX9, TX9, 8), rfl, by decide, by decide, ⟨_, tyX9_ok 7 (by decide), by first | rfl | (show FieldType.isReference _ = true; rfl)⟩, rfl⟩
set_option maxRecDepth 100000 in
theorem zfds_41 : zfdOK (11, 0, 3, 6, 1, true) := ⟨(RX10, TX10, 8), rfl, by decide, by decide, ⟨_, tyX10_ok 0 (by decide), by first | rfl | (show FieldType.isReference _ = true; rfl)⟩, rfl⟩
set_option maxRecDepth 100000 in
theorem zfds_42 : zfdOK (11, 1, 3, 20, 4096, true) := ⟨(RX10, TX10, 8), rfl, by decide, by decide, ⟨_, tyX10_ok 1 (by decide), by first | rfl | (show FieldType.isReference _ = true; rfl)⟩, rfl⟩
set_option maxRecDepth 100000 in
theorem zfds_43 : zfdOK (11, 2, 1, 0, 0, false) := ⟨(RX10, TX10, 8), rfl, by decide, by decide, ⟨_, tyX10_ok 2 (by decide), by first | rfl | (show FieldType.isReference _ = true; rfl)⟩, rfl⟩
set_option maxRecDepth 100000 in
theorem zfds_44 : zfdOK (11, 3, 1, 0, 0, false) := ⟨(RX10, TX10, 8), rfl, by decide, by decide, ⟨_, tyX10_ok 3 (by decide), by first | rfl | (show FieldType.isReference _ = true; rfl)⟩, rfl⟩
set_option maxRecDepth 100000 in
theorem zfds_45 : zfdOK (11, 4, 1, 0, 0, false) := ⟨(RX10, TX10, 8), rfl, by decide, by decide, ⟨_, tyX10_ok 4 (by decide), by first | rfl | (show FieldType.isReference _ = true; rfl)⟩, rfl⟩
set_option maxRecDepth 100000 in
theorem zfds_46 : zfdOK (11, 5, 1, 0, 0, false) := ⟨(RX10, TX10, 8), rfl, by decide, by decide, ⟨_, tyX10_ok 5 (by decide), by first | rfl | (show FieldType.isReference _ = true; rfl)⟩, rfl⟩
set_option maxRecDepth 100000 in
theorem zfds_47 : zfdOK (11, 6, 1, 0, 0, false) := ⟨(RX10, TX10, 8), rfl, by decide, by decide, ⟨_, tyX10_ok 6 (by decide), by first | rfl | (show FieldType.isReference _ = true; rfl)⟩, rfl⟩
set_option maxRecDepth 100000 in
theorem zfds_48 : zfdOK (11, 7, 1, 0, 0, false) := ⟨(RX10, TX10, 8), rfl, by decide, by decide, ⟨_, tyX10_ok 7 (by decide), by first | rfl | (show FieldType.isReference _ = true; rfl)⟩, rfl⟩
set_option maxRecDepth 100000 in
theorem zfds_49 : zfdOK (12, 0, 3, 10, 8, true) := ⟨(RX11, TX11, 16), rfl, by decide, by decide, ⟨_, tyX11_ok 0 (by decide), by first | rfl | (show FieldType.isReference _ = true; rfl)⟩, rfl⟩
set_option maxRecDepth 100000 in
theorem zfds_50 : zfdOK (12, 1, 3, 10, 8, true) := ⟨(RX11, TX11, 16), rfl, by decide, by decide, ⟨_, tyX11_ok 1 (by decide), by first | rfl | (show FieldType.isReference _ = true; rfl)⟩, rfl⟩
set_option maxRecDepth 100000 in
theorem zfds_51 : zfdOK (12, 2, 3, 1, 6, true) := ⟨(RX11, TX11, 16), rfl, by decide, by decide, ⟨_, tyX11_ok 2 (by decide), by first | rfl | (show FieldType.isReference _ = true; rfl)⟩, rfl⟩
set_option maxRecDepth 100000 in
theorem zfds_52 : zfdOK (12, 3, 3, 1, 6, true) := ⟨(RX11, TX11, 16), rfl, by decide, by decide, ⟨_, tyX11_ok 3 (by decide), by first | rfl | (show FieldType.isReference _ = true; rfl)⟩, rfl⟩
set_option maxRecDepth 100000 in
theorem zfds_53 : zfdOK (12, 4, 3, 8, 3, true) := ⟨(RX11, TX11, 16), rfl, by decide, by decide, ⟨_, tyX11_ok 4 (by decide), by first | rfl | (show FieldType.isReference _ = true; rfl)⟩, rfl⟩
set_option maxRecDepth 100000 in
theorem zfds_54 : zfdOK (12, 5, 3, 7, 11, true) := ⟨(RX11, TX11, 16), rfl, by decide, by decide, ⟨_, tyX11_ok 5 (by decide), by first | rfl | (show FieldType.isReference _ = true; rfl)⟩, rfl⟩
set_option maxRecDepth 100000 in
theorem zfds_55 : zfdOK (12, 6, 3, 4, 5, true) := ⟨(RX11, TX11, 16), rfl, by decide, by decide, ⟨_, tyX11_ok 6 (by decide), by first | rfl | (show FieldType.isReference _ = true; rfl)⟩, rfl⟩
set_option maxRecDepth 100000 in
theorem zfds_56 : zfdOK (12, 7, 3, 11, 8, true) := ⟨(RX11, TX11, 16), rfl, by decide, by decide, ⟨_, tyX11_ok 7 (by decide), by first | rfl | (show FieldType.isReference _ = true; rfl)⟩, rfl⟩
set_option maxRecDepth 100000 in
theorem zfds_57 : zfdOK (12, 8, 3, 5, 2, true) := ⟨(RX11, TX11, 16), rfl, by decide, by decide, ⟨_, tyX11_ok 8 (by decide), by first | rfl | (show FieldType.isReference _ = true; rfl)⟩, rfl⟩
set_option maxRecDepth 100000 in
theorem zfds_58 : zfdOK (12, 9, 3, 9, 3, true) := ⟨(RX11, TX11, 16), rfl, by decide, by decide, ⟨_, tyX11_ok 9 (by decide), by first | rfl | (show FieldType.isReference _ = true; rfl)⟩, rfl⟩
set_option maxRecDepth 100000 in
theorem zfds_59 : zfdOK (12, 10, 3, 6, 1, true) := ⟨(RX11, TX11, 16), rfl, by decide, by decide, ⟨_, tyX11_ok 10 (by decide), by first | rfl | (show FieldType.isReference _ = true; rfl)⟩, rfl⟩
set_option maxRecDepth 100000 in
theorem zfds_60 : zfdOK (12, 11, 3, 20, 6, true) := ⟨(RX11, TX11, 16), rfl, by decide, by decide, ⟨_, tyX11_ok 11 (by decide), by first | rfl | (show FieldType.isReference _ = true; rfl)⟩, rfl⟩
set_option maxRecDepth 100000 in
theorem zfds_61 : zfdOK (12, 12, 3, 20, 10, true) := ⟨(RX11, TX11, 16), rfl, by decide, by decide, ⟨_, tyX11_ok 12 (by decide), by first | rfl | (show FieldType.isReference _ = true; rfl)⟩, rfl⟩
set_option maxRecDepth 100000 in
theorem zfds_62 : zfdOK (12, 13, 3, 20, 5, true) := ⟨(RX11, TX11, 16), rfl, by decide, by decide, ⟨_, tyX11_ok 13 (by decide), by first | rfl | (show FieldType.isReference _ = true; rfl)⟩, rfl⟩
set_option maxRecDepth 100000 in
theorem zfds_63 : zfdOK (12, 14, 6, 0, 0, false) := ⟨(RX11, TX11, 16), rfl, by decide, by decide, ⟨_, tyX11_ok 14 (by decide), by first | rfl | (show FieldType.isReference _ = true; rfl)⟩, rfl⟩
set_option maxRecDepth 100000 in
theorem zfds_64 : zfdOK (12, 15, 1, 0, 0, false) := ⟨(RX11, TX11, 16), rfl, by decide, by decide, ⟨_, tyX11_ok 15 (by decide), by first | rfl | (show FieldType.isReference _ = true; rfl)⟩, rfl⟩
set_option maxRecDepth 100000 in
theorem zfds_65 : zfdOK (13, 0, 3, 20, 264, true) := ⟨(RX12, TX12, 32), rfl, by decide, by decide, ⟨_, tyX12_ok 0 (by decide), by first | rfl | (show FieldType.isReference _ = true; rfl)⟩, rfl⟩
set_option maxRecDepth 100000 in
theorem zfds_66 : zfdOK (13, 1, 1, 0, 0, false) := ⟨(RX12, TX12, 32), rfl, by decide, by decide, ⟨_, tyX12_ok 1 (by decide), by first | rfl | (show FieldType.isReference _ = true; rfl)⟩, rfl⟩
set_option maxRecDepth 100000 in
theorem zfds_67 : zfdOK (13, 2, 3, 20, 5, true) := ⟨(RX12, TX12, 32), rfl, by decide, by decide, ⟨_, tyX12_ok 2 (by decide), by first | rfl | (show FieldType.isReference _ = true; rfl)⟩, rfl⟩
set_option maxRecDepth 100000 in
theorem zfds_68 : zfdOK (13, 3, 3, 21, 9, true) := ⟨(RX12, TX12, 32), rfl, by decide, by decide, ⟨_, tyX12_ok 3 (by decide), by first | rfl | (show FieldType.isReference _ = true; rfl)⟩, rfl⟩
set_option maxRecDepth 100000 in
theorem zfds_69 : zfdOK (13, 4, 3, 21, 9, true) := ⟨(RX12, TX12, 32), rfl, by decide, by decide, ⟨_, tyX12_ok 4 (by decide), by first | rfl | (show FieldType.isReference _ = true; rfl)⟩, rfl⟩
set_option maxRecDepth 100000 in
theorem zfds_70 : zfdOK (13, 5, 3, 32, 4, true) := ⟨(RX12, TX12, 32), rfl, by decide, by decide, ⟨_, tyX12_ok 5 (by decide), by first | rfl | (show FieldType.isReference _ = true; rfl)⟩, rfl⟩
set_option maxRecDepth 100000 in
theorem zfds_71 : zfdOK (13, 6, 3, 22, 4096, true) := ⟨(RX12, TX12, 32), rfl, by decide, by decide, ⟨_, tyX12_ok 6 (by decide), by first | rfl | (show FieldType.isReference _ = true; rfl)⟩, rfl⟩
set_option maxRecDepth 100000 in
theorem zfds_72 : zfdOK (13, 7, 3, 20, 4096, true) := ⟨(RX12, TX12, 32), rfl, by decide, by decide, ⟨_, tyX12_ok 7 (by decide), by first | rfl | (show FieldType.isReference _ = true; rfl)⟩, rfl⟩
set_option maxRecDepth 100000 in
theorem zfds_73 : zfdOK (13, 8, 3, 20, 6, true) := ⟨(RX12, TX12, 32), rfl, by decide, by decide, ⟨_, tyX12_ok 8 (by decide), by first | rfl | (show FieldType.isReference _ = true; rfl)⟩, rfl⟩
set_option maxRecDepth 100000 in
theorem zfds_74 : zfdOK (13, 9, 3, 34, 13, true) := ⟨(RX12, TX12, 32), rfl, by decide, by decide, ⟨_, tyX12_ok 9 (by decide), by first | rfl | (show FieldType.isReference _ = true; rfl)⟩, rfl⟩
set_option maxRecDepth 100000 in
theorem zfds_75 : zfdOK (13, 10, 3, 20, 250, true) := ⟨(RX12, TX12, 32), rfl, by decide, by decide, ⟨_, tyX12_ok 10 (by decide), by first | rfl | (show FieldType.isReference _ = true; rfl)⟩, rfl⟩
set_option maxRecDepth 100000 in
theorem zfds_76 : zfdOK (13, 11, 1, 0, 0, false) := ⟨(RX12, TX12, 32), rfl, by decide, by decide, ⟨_, tyX12_ok 11 (by decide), by first | rfl | (show FieldType.isReference _ = true; rfl)⟩, rfl⟩
set_option maxRecDepth 100000 in
theorem zfds_77 : zfdOK (13, 12, 1, 0, 0, false) := ⟨(RX12, TX12, 32), rfl, by decide, by decide, ⟨_, tyX12_ok 12 (by decide), by first | rfl | (show FieldType.isReference _ = true; rfl)⟩, rfl⟩
set_option maxRecDepth 100000 in
theorem zfds_78 : zfdOK (13, 13, 1, 0, 0, false) := ⟨(RX12, TX12, 32), rfl, by decide, by decide, ⟨_, tyX12_ok 13 (by decide), by first | rfl | (show FieldType.isReference _ = true; rfl)⟩, rfl⟩
set_option maxRecDepth 100000 in
theorem zfds_79 : zfdOK (13, 14, 1, 0, 0, false) := ⟨(RX12, TX12, 32), rfl, by decide, by decide, ⟨_, tyX12_ok 14 (by decide), by first | rfl | (show FieldType.isReference _ = true; rfl)⟩, rfl⟩
set_option maxRecDepth 100000 in
theorem zfds_80 : zfdOK (13, 15, 1, 0, 0, false) := ⟨(RX12, TX12, 32), rfl, by decide, by decide, ⟨_, tyX12_ok 15 (by decide), by first | rfl | (show FieldType.isReference _ = true; rfl)⟩, rfl⟩
set_option maxRecDepth 100000 in
theorem zfds_81 : zfdOK (13, 16, 3, 20, 770, true) := ⟨(RX12, TX12, 32), rfl, by decide, by decide, ⟨_, tyX12_ok 16 (by decide), by first | rfl | (show FieldType.isReference _ = true; rfl)⟩, rfl⟩
set_option maxRecDepth 100000 in
theorem zfds_82 : zfdOK (13, 17, 1, 0, 0, false) := ⟨(RX12, TX12, 32), rfl, by decide, by decide, ⟨_, tyX12_ok 17 (by decide), by first | rfl | (show FieldType.isReference _ = true; rfl)⟩, rfl⟩
set_option maxRecDepth 100000 in
theorem zfds_83 : zfdOK (13, 18, 3, 20, 420, true) := ⟨(RX12, TX12, 32), rfl, by decide, by decide, ⟨_, tyX12_ok 18 (by decide), by first | rfl | (show FieldType.isReference _ = true; rfl)⟩, rfl⟩
set_option maxRecDepth 100000 in
theorem zfds_84 : zfdOK (13, 19, 3, 20, 8, true) := ⟨(RX12, TX12, 32), rfl, by decide, by decide, ⟨_, tyX12_ok 19 (by decide), by first | rfl | (show FieldType.isReference _ = true; rfl)⟩, rfl⟩
set_option maxRecDepth 100000 in
theorem zfds_85 : zfdOK (13, 20, 3, 20, 8, true) := ⟨(RX12, TX12, 32), rfl, by decide, by decide, ⟨_, tyX12_ok 20 (by decide), by first | rfl | (show FieldType.isReference _ = true; rfl)⟩, rfl⟩
set_option maxRecDepth 100000 in
theorem zfds_86 : zfdOK (13, 21, 3, 21, 320, true) := ⟨(RX12, TX12, 32), rfl, by decide, by decide, ⟨_, tyX12_ok 21 (by decide), by first | rfl | (show FieldType.isReference _ = true; rfl)⟩, rfl⟩
set_option maxRecDepth 100000 in
theorem zfds_87 : zfdOK (13, 22, 3, 22, 4096, true) := ⟨(RX12, TX12, 32), rfl, by decide, by decide, ⟨_, tyX12_ok 22 (by decide), by first | rfl | (show FieldType.isReference _ = true; rfl)⟩, rfl⟩
set_option maxRecDepth 100000 in
theorem zfds_88 : zfdOK (13, 23, 3, 33, 12, true) := ⟨(RX12, TX12, 32), rfl, by decide, by decide, ⟨_, tyX12_ok 23 (by decide), by first | rfl | (show FieldType.isReference _ = true; rfl)⟩, rfl⟩
set_option maxRecDepth 100000 in
theorem zfds_89 : zfdOK (13, 24, 1, 0, 0, false) := ⟨(RX12, TX12, 32), rfl, by decide, by decide, ⟨_, tyX12_ok 24 (by decide), by first | rfl | (show FieldType.isReference _ = true; rfl)⟩, rfl⟩
set_option maxRecDepth 100000 in
theorem zfds_90 : zfdOK (13, 25, 1, 0, 0, false) := ⟨(RX12, TX12, 32), rfl, by decide, by decide, ⟨_, tyX12_ok 25 (by decide), by first | rfl | (show FieldType.isReference _ = true; rfl)⟩, rfl⟩
set_option maxRecDepth 100000 in
theorem zfds_91 : zfdOK (13, 26, 1, 0, 0, false) := ⟨(RX12, TX12, 32), rfl, by decide, by decide, ⟨_, tyX12_ok 26 (by decide), by first | rfl | (show FieldType.isReference _ = true; rfl)⟩, rfl⟩
set_option maxRecDepth 100000 in
theorem zfds_92 : zfdOK (13, 27, 3, 20, 264, true) := ⟨(RX12, TX12, 32), rfl, by decide, by decide, ⟨_, tyX12_ok 27 (by decide), by first | rfl | (show FieldType.isReference _ = true; rfl)⟩, rfl⟩
set_option maxRecDepth 100000 in
theorem zfds_93 : zfdOK (13, 28, 3, 22, 4096, true) := ⟨(RX12, TX12, 32), rfl, by decide, by decide, ⟨_, tyX12_ok 28 (by decide), by first | rfl | (show FieldType.isReference _ = true; rfl)⟩, rfl⟩
set_option maxRecDepth 100000 in
theorem zfds_94 : zfdOK (13, 29, 3, 32, 12, true) := ⟨(RX12, TX12, 32), rfl, by decide, by decide, ⟨_, tyX12_ok 29 (by decide), by first | rfl | (show FieldType.isReference _ = true; rfl)⟩, rfl⟩
set_option maxRecDepth 100000 in
theorem zfds_95 : zfdOK (13, 30, 3, 20, 4, true) := ⟨(RX12, TX12, 32), rfl, by decide, by decide, ⟨_, tyX12_ok 30 (by decide), by first | rfl | (show FieldType.isReference _ = true; rfl)⟩, rfl⟩
set_option maxRecDepth 100000 in
theorem zfds_96 : zfdOK (13, 31, 6, 0, 0, false) := ⟨(RX12, TX12, 32), rfl, by decide, by decide, ⟨_, tyX12_ok 31 (by decide), by first | rfl | (show FieldType.isReference _ = true; rfl)⟩, rfl⟩
noncomputable def zfds : List (Nat × Nat × Nat × Int × Int × Bool) := [(1, 0, 3, 6, 1, true), (1, 1, 3, 31, 12, true), (1, 2, 1, 0, 0, false), (1, 3, 1, 0, 0, false), (1, 4, 1, 0, 0, false), (1, 5, 1, 0, 0, false), (2, 0, 2, 0, 0, false), (2, 1, 2, 0, 0, false), (4, 0, 3, 31, 24, true), (4, 1, 3, 20, 24, true), (4, 2, 3, 6, 1, true), (4, 3, 3, 5, 2, true), (4, 4, 3, 9, 3, true), (5, 0, 3, 20, 24, true), (5, 1, 3, 30, 8, true), (6, 0, 3, 21, 64, true), (7, 0, 3, 20, 250, true), (7, 1, 1, 0, 0, false), (7, 2, 1, 0, 0, false), (7, 3, 1, 0, 0, false), (7, 4, 1, 0, 0, false), (7, 5, 1, 0, 0, false), (7, 6, 3, 20, 64, true), (7, 7, 3, 20, 64, true), (7, 8, 3, 20, 64, true), (7, 9, 3, 20, 384, true), (7, 10, 3, 20, 6, true), (8, 0, 3, 20, 8, true), (8, 1, 3, 20, 8, true), (8, 2, 3, 21, 320, true), (9, 0, 3, 20, 48, true), (9, 1, 3, 30, 8, true), (9, 2, 3, 30, 8, true), (10, 0, 3, 20, 88, true), (10, 1, 3, 20, 88, true), (10, 2, 3, 20, 88, true), (10, 3, 3, 20, 88, true), (10, 4, 3, 20, 88, true), (10, 5, 3, 20, 88, true), (10, 6, 3, 20, 528, true), (10, 7, 1, 0, 0, false), (11, 0, 3, 6, 1, true), (11, 1, 3, 20, 4096, true), (11, 2, 1, 0, 0, false), (11, 3, 1, 0, 0, false), (11, 4, 1, 0, 0, false), (11, 5, 1, 0, 0, false), (11, 6, 1, 0, 0, false), (11, 7, 1, 0, 0, false), (12, 0, 3, 10, 8, true), (12, 1, 3, 10, 8, true), (12, 2, 3, 1, 6, true), (12, 3, 3, 1, 6, true), (12, 4, 3, 8, 3, true), (12, 5, 3, 7, 11, true), (12, 6, 3, 4, 5, true), (12, 7, 3, 11, 8, true), (12, 8, 3, 5, 2, true), (12, 9, 3, 9, 3, true), (12, 10, 3, 6, 1, true), (12, 11, 3, 20, 6, true), (12, 12, 3, 20, 10, true), (12, 13, 3, 20, 5, true), (12, 14, 6, 0, 0, false), (12, 15, 1, 0, 0, false), (13, 0, 3, 20, 264, true), (13, 1, 1, 0, 0, false), (13, 2, 3, 20, 5, true), (13, 3, 3, 21, 9, true), (13, 4, 3, 21, 9, true), (13, 5, 3, 32, 4, true), (13, 6, 3, 22, 4096, true), (13, 7, 3, 20, 4096, true), (13, 8, 3, 20, 6, true), (13, 9, 3, 34, 13, true), (13, 10, 3, 20, 250, true), (13, 11, 1, 0, 0, false), (13, 12, 1, 0, 0, false), (13, 13, 1, 0, 0, false), (13, 14, 1, 0, 0, false), (13, 15, 1, 0, 0, false), (13, 16, 3, 20, 770, true), (13, 17, 1, 0, 0, false), (13, 18, 3, 20, 420, true), (13, 19, 3, 20, 8, true), (13, 20, 3, 20, 8, true), (13, 21, 3, 21, 320, true), (13, 22, 3, 22, 4096, true), (13, 23, 3, 33, 12, true), (13, 24, 1, 0, 0, false), (13, 25, 1, 0, 0, false), (13, 26, 1, 0, 0, false), (13, 27, 3, 20, 264, true), (13, 28, 3, 22, 4096, true), (13, 29, 3, 32, 12, true), (13, 30, 3, 20, 4, true), (13, 31, 6, 0, 0, false)]
theorem zfds_ok : ∀ q ∈ zfds, zfdOK q := List.forall_mem_cons.mpr ⟨zfds_0, List.forall_mem_cons.mpr ⟨zfds_1, List.forall_mem_cons.mpr ⟨zfds_2, List.forall_mem_cons.mpr ⟨zfds_3, List.forall_mem_cons.mpr ⟨zfds_4, List.forall_mem_cons.mpr ⟨zfds_5, List.forall_mem_cons.mpr ⟨zfds_6, List.forall_mem_cons.mpr ⟨zfds_7, List.forall_mem_cons.mpr ⟨zfds_8, List.forall_mem_cons.mpr ⟨zfds_9, List.forall_mem_cons.mpr ⟨zfds_10, List.forall_mem_cons.mpr ⟨zfds_11, List.forall_mem_cons.mpr ⟨zfds_12, List.forall_mem_cons.mpr ⟨zfds_13, List.forall_mem_cons.mpr ⟨zfds_14, List.forall_mem_cons.mpr ⟨zfds_15, List.forall_mem_cons.mpr ⟨zfds_16, List.forall_mem_cons.mpr ⟨zfds_17, List.forall_mem_cons.mpr ⟨zfds_18, List.forall_mem_cons.mpr ⟨zfds_19, List.forall_mem_cons.mpr ⟨zfds_20, List.forall_mem_cons.mpr ⟨zfds_21, List.forall_mem_cons.mpr ⟨zfds_22, List.forall_mem_cons.mpr ⟨zfds_23, List.forall_mem_cons.mpr ⟨zfds_24, List.forall_mem_cons.mpr ⟨zfds_25, List.forall_mem_cons.mpr ⟨zfds_26, List.forall_mem_cons.mpr ⟨zfds_27, List.forall_mem_cons.mpr ⟨zfds_28, List.forall_mem_cons.mpr ⟨zfds_29, List.forall_mem_cons.mpr ⟨zfds_30, List.forall_mem_cons.mpr ⟨zfds_31, List.forall_mem_cons.mpr ⟨zfds_32, List.forall_mem_cons.mpr ⟨zfds_33, List.forall_mem_cons.mpr ⟨zfds_34, List.forall_mem_cons.mpr ⟨zfds_35, List.forall_mem_cons.mpr ⟨zfds_36, List.forall_mem_cons.mpr ⟨zfds_37, List.forall_mem_cons.mpr ⟨zfds_38, List.forall_mem_cons.mpr ⟨zfds_39, List.forall_mem_cons.mpr ⟨zfds_40, List.forall_mem_cons.mpr ⟨zfds_41, List.forall_mem_cons.mpr ⟨zfds_42, List.forall_mem_cons.mpr ⟨zfds_43, List.forall_mem_cons.mpr ⟨zfds_44, List.forall_mem_cons.mpr ⟨zfds_45, List.forall_mem_cons.mpr ⟨zfds_46, List.forall_mem_cons.mpr ⟨zfds_47, List.forall_mem_cons.mpr ⟨zfds_48, List.forall_mem_cons.mpr ⟨zfds_49, List.forall_mem_cons.mpr ⟨zfds_50, List.forall_mem_cons.mpr ⟨zfds_51, List.forall_mem_cons.mpr ⟨zfds_52, List.forall_mem_cons.mpr ⟨zfds_53, List.forall_mem_cons.mpr ⟨zfds_54, List.forall_mem_cons.mpr ⟨zfds_55, List.forall_mem_cons.mpr ⟨zfds_56, List.forall_mem_cons.mpr ⟨zfds_57, List.forall_mem_cons.mpr ⟨zfds_58, List.forall_mem_cons.mpr ⟨zfds_59, List.forall_mem_cons.mpr ⟨zfds_60, List.forall_mem_cons.mpr ⟨zfds_61, List.forall_mem_cons.mpr ⟨zfds_62, List.forall_mem_cons.mpr ⟨zfds_63, List.forall_mem_cons.mpr ⟨zfds_64, List.forall_mem_cons.mpr ⟨zfds_65, List.forall_mem_cons.mpr ⟨zfds_66, List.forall_mem_cons.mpr ⟨zfds_67, List.forall_mem_cons.mpr ⟨zfds_68, List.forall_mem_cons.mpr ⟨zfds_69, List.forall_mem_cons.mpr ⟨zfds_70, List.forall_mem_cons.mpr ⟨zfds_71, List.forall_mem_cons.mpr ⟨zfds_72, List.forall_mem_cons.mpr ⟨zfds_73, List.forall_mem_cons.mpr ⟨zfds_74, List.forall_mem_cons.mpr ⟨zfds_75, List.forall_mem_cons.mpr ⟨zfds_76, List.forall_mem_cons.mpr ⟨zfds_77, List.forall_mem_cons.mpr ⟨zfds_78, List.forall_mem_cons.mpr ⟨zfds_79, List.forall_mem_cons.mpr ⟨zfds_80, List.forall_mem_cons.mpr ⟨zfds_81, List.forall_mem_cons.mpr ⟨zfds_82, List.forall_mem_cons.mpr ⟨zfds_83, List.forall_mem_cons.mpr ⟨zfds_84, List.forall_mem_cons.mpr ⟨zfds_85, List.forall_mem_cons.mpr ⟨zfds_86, List.forall_mem_cons.mpr ⟨zfds_87, List.forall_mem_cons.mpr ⟨zfds_88, List.forall_mem_cons.mpr ⟨zfds_89, List.forall_mem_cons.mpr ⟨zfds_90, List.forall_mem_cons.mpr ⟨zfds_91, List.forall_mem_cons.mpr ⟨zfds_92, List.forall_mem_cons.mpr ⟨zfds_93, List.forall_mem_cons.mpr ⟨zfds_94, List.forall_mem_cons.mpr ⟨zfds_95, List.forall_mem_cons.mpr ⟨zfds_96, fun _ h => absurd h List.not_mem_nil⟩⟩⟩⟩⟩⟩⟩⟩⟩⟩⟩⟩⟩⟩⟩⟩⟩⟩⟩⟩⟩⟩⟩⟩⟩⟩⟩⟩⟩⟩⟩⟩⟩⟩⟩⟩⟩⟩⟩⟩⟩⟩⟩⟩⟩⟩⟩⟩⟩⟩⟩⟩⟩⟩⟩⟩⟩⟩⟩⟩⟩⟩⟩⟩⟩⟩⟩⟩⟩⟩⟩⟩⟩⟩⟩⟩⟩⟩⟩⟩⟩⟩⟩⟩⟩⟩⟩⟩⟩⟩⟩⟩⟩⟩⟩⟩⟩
end
