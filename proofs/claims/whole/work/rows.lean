section
-- ===== PART A: goes FIRST, ahead of the names: the tables' words, and 'selects' of the private methods out of them =====
/-- a private method of a class that the tables say can be made, by its rows of tables_1 -/
def lw_okq (q : MethodName × Nat) : Prop := (q.1.cls ≠ "java/lang/invoke/MethodHandle" ∧ q.1.cls ≠ "java/lang/invoke/VarHandle") ∧ Cond.instantiable q.1.cls q.2 ∈ tables_1 ∧ Cond.privateMethod q.1 ∈ tables_1 ∧ Cond.instanceMethod q.1 ∈ tables_1
theorem lw_p0 : lw_okq (⟨"RaysOfShapes", "refused", "(I)I"⟩, 16) := ⟨⟨by decide +kernel, by decide +kernel⟩, List.mem_of_getElem? (i := 22) (by decide +kernel), List.mem_of_getElem? (i := 322) (by decide +kernel), List.mem_of_getElem? (i := 323) (by decide +kernel)⟩
theorem lw_p1 : lw_okq (⟨"RaysOfShapes", "rowRefusal", "(I)I"⟩, 16) := ⟨⟨by decide +kernel, by decide +kernel⟩, List.mem_of_getElem? (i := 22) (by decide +kernel), List.mem_of_getElem? (i := 335) (by decide +kernel), List.mem_of_getElem? (i := 336) (by decide +kernel)⟩
theorem lw_p2 : lw_okq (⟨"RaysOfShapes$Shelves", "isElement", "(II)Z"⟩, 3) := ⟨⟨by decide +kernel, by decide +kernel⟩, List.mem_of_getElem? (i := 99) (by decide +kernel), List.mem_of_getElem? (i := 351) (by decide +kernel), List.mem_of_getElem? (i := 352) (by decide +kernel)⟩
theorem lw_p3 : lw_okq (⟨"RaysOfShapes", "isShape", "(I)Z"⟩, 16) := ⟨⟨by decide +kernel, by decide +kernel⟩, List.mem_of_getElem? (i := 22) (by decide +kernel), List.mem_of_getElem? (i := 389) (by decide +kernel), List.mem_of_getElem? (i := 390) (by decide +kernel)⟩
theorem lw_p4 : lw_okq (⟨"RaysOfShapes", "saysRefusal", "(II)I"⟩, 16) := ⟨⟨by decide +kernel, by decide +kernel⟩, List.mem_of_getElem? (i := 22) (by decide +kernel), List.mem_of_getElem? (i := 405) (by decide +kernel), List.mem_of_getElem? (i := 406) (by decide +kernel)⟩
theorem lw_p5 : lw_okq (⟨"RaysOfShapes", "placesOf", "(I)LRaysOfShapes$Places;"⟩, 16) := ⟨⟨by decide +kernel, by decide +kernel⟩, List.mem_of_getElem? (i := 22) (by decide +kernel), List.mem_of_getElem? (i := 430) (by decide +kernel), List.mem_of_getElem? (i := 431) (by decide +kernel)⟩
theorem lw_p6 : lw_okq (⟨"RaysOfShapes$Looker", "look", "(LRaysOfShapes$Table;III)V"⟩, 5) := ⟨⟨by decide +kernel, by decide +kernel⟩, List.mem_of_getElem? (i := 155) (by decide +kernel), List.mem_of_getElem? (i := 442) (by decide +kernel), List.mem_of_getElem? (i := 443) (by decide +kernel)⟩
theorem lw_p7 : lw_okq (⟨"RaysOfShapes$Measure", "find", "(LRaysOfShapes$Table;III)V"⟩, 2) := ⟨⟨by decide +kernel, by decide +kernel⟩, List.mem_of_getElem? (i := 163) (by decide +kernel), List.mem_of_getElem? (i := 456) (by decide +kernel), List.mem_of_getElem? (i := 457) (by decide +kernel)⟩
theorem lw_p8 : lw_okq (⟨"RaysOfShapes$Measure", "ofSolid", "(LRaysOfShapes$Table;III)I"⟩, 2) := ⟨⟨by decide +kernel, by decide +kernel⟩, List.mem_of_getElem? (i := 163) (by decide +kernel), List.mem_of_getElem? (i := 464) (by decide +kernel), List.mem_of_getElem? (i := 465) (by decide +kernel)⟩
theorem lw_p9 : lw_okq (⟨"RaysOfShapes$Measure", "ofPair", "(LRaysOfShapes$Table;III)V"⟩, 2) := ⟨⟨by decide +kernel, by decide +kernel⟩, List.mem_of_getElem? (i := 163) (by decide +kernel), List.mem_of_getElem? (i := 483) (by decide +kernel), List.mem_of_getElem? (i := 484) (by decide +kernel)⟩
theorem lw_p10 : lw_okq (⟨"RaysOfShapes$Measure", "ofChange", "(LRaysOfShapes$Table;III)V"⟩, 2) := ⟨⟨by decide +kernel, by decide +kernel⟩, List.mem_of_getElem? (i := 163) (by decide +kernel), List.mem_of_getElem? (i := 521) (by decide +kernel), List.mem_of_getElem? (i := 522) (by decide +kernel)⟩
theorem lw_p11 : lw_okq (⟨"RaysOfShapes$Measure", "move", "(LRaysOfShapes$Table;II)V"⟩, 2) := ⟨⟨by decide +kernel, by decide +kernel⟩, List.mem_of_getElem? (i := 163) (by decide +kernel), List.mem_of_getElem? (i := 525) (by decide +kernel), List.mem_of_getElem? (i := 526) (by decide +kernel)⟩
theorem lw_p12 : lw_okq (⟨"RaysOfShapes$Span", "find", "(LRaysOfShapes$Table;III)V"⟩, 3) := ⟨⟨by decide +kernel, by decide +kernel⟩, List.mem_of_getElem? (i := 190) (by decide +kernel), List.mem_of_getElem? (i := 566) (by decide +kernel), List.mem_of_getElem? (i := 567) (by decide +kernel)⟩
theorem lw_p13 : lw_okq (⟨"RaysOfShapes$Span", "ofBall", "(LRaysOfShapes$Table;III)V"⟩, 3) := ⟨⟨by decide +kernel, by decide +kernel⟩, List.mem_of_getElem? (i := 190) (by decide +kernel), List.mem_of_getElem? (i := 571) (by decide +kernel), List.mem_of_getElem? (i := 572) (by decide +kernel)⟩
theorem lw_p14 : lw_okq (⟨"RaysOfShapes$Span", "ofBox", "(LRaysOfShapes$Table;III)V"⟩, 3) := ⟨⟨by decide +kernel, by decide +kernel⟩, List.mem_of_getElem? (i := 190) (by decide +kernel), List.mem_of_getElem? (i := 581) (by decide +kernel), List.mem_of_getElem? (i := 582) (by decide +kernel)⟩
theorem lw_p15 : lw_okq (⟨"RaysOfShapes$Span", "ofHalf", "(LRaysOfShapes$Table;III)V"⟩, 3) := ⟨⟨by decide +kernel, by decide +kernel⟩, List.mem_of_getElem? (i := 190) (by decide +kernel), List.mem_of_getElem? (i := 586) (by decide +kernel), List.mem_of_getElem? (i := 587) (by decide +kernel)⟩
def lw_privs_1 : List (MethodName × Nat) := [(⟨"RaysOfShapes", "refused", "(I)I"⟩, 16), (⟨"RaysOfShapes", "rowRefusal", "(I)I"⟩, 16), (⟨"RaysOfShapes$Shelves", "isElement", "(II)Z"⟩, 3), (⟨"RaysOfShapes", "isShape", "(I)Z"⟩, 16), (⟨"RaysOfShapes", "saysRefusal", "(II)I"⟩, 16), (⟨"RaysOfShapes", "placesOf", "(I)LRaysOfShapes$Places;"⟩, 16), (⟨"RaysOfShapes$Looker", "look", "(LRaysOfShapes$Table;III)V"⟩, 5), (⟨"RaysOfShapes$Measure", "find", "(LRaysOfShapes$Table;III)V"⟩, 2), (⟨"RaysOfShapes$Measure", "ofSolid", "(LRaysOfShapes$Table;III)I"⟩, 2), (⟨"RaysOfShapes$Measure", "ofPair", "(LRaysOfShapes$Table;III)V"⟩, 2), (⟨"RaysOfShapes$Measure", "ofChange", "(LRaysOfShapes$Table;III)V"⟩, 2), (⟨"RaysOfShapes$Measure", "move", "(LRaysOfShapes$Table;II)V"⟩, 2), (⟨"RaysOfShapes$Span", "find", "(LRaysOfShapes$Table;III)V"⟩, 3), (⟨"RaysOfShapes$Span", "ofBall", "(LRaysOfShapes$Table;III)V"⟩, 3), (⟨"RaysOfShapes$Span", "ofBox", "(LRaysOfShapes$Table;III)V"⟩, 3), (⟨"RaysOfShapes$Span", "ofHalf", "(LRaysOfShapes$Table;III)V"⟩, 3)]
theorem lw_r1 : ∀ q ∈ lw_privs_1, lw_okq q := List.forall_mem_cons.mpr ⟨lw_p0, List.forall_mem_cons.mpr ⟨lw_p1, List.forall_mem_cons.mpr ⟨lw_p2, List.forall_mem_cons.mpr ⟨lw_p3, List.forall_mem_cons.mpr ⟨lw_p4, List.forall_mem_cons.mpr ⟨lw_p5, List.forall_mem_cons.mpr ⟨lw_p6, List.forall_mem_cons.mpr ⟨lw_p7, List.forall_mem_cons.mpr ⟨lw_p8, List.forall_mem_cons.mpr ⟨lw_p9, List.forall_mem_cons.mpr ⟨lw_p10, List.forall_mem_cons.mpr ⟨lw_p11, List.forall_mem_cons.mpr ⟨lw_p12, List.forall_mem_cons.mpr ⟨lw_p13, List.forall_mem_cons.mpr ⟨lw_p14, List.forall_mem_cons.mpr ⟨lw_p15, fun _ h => absurd h List.not_mem_nil⟩⟩⟩⟩⟩⟩⟩⟩⟩⟩⟩⟩⟩⟩⟩⟩
theorem lw_p16 : lw_okq (⟨"RaysOfShapes$Span", "ofPair", "(LRaysOfShapes$Table;III)V"⟩, 3) := ⟨⟨by decide +kernel, by decide +kernel⟩, List.mem_of_getElem? (i := 190) (by decide +kernel), List.mem_of_getElem? (i := 590) (by decide +kernel), List.mem_of_getElem? (i := 591) (by decide +kernel)⟩
theorem lw_p17 : lw_okq (⟨"RaysOfShapes$Span", "ofChange", "(LRaysOfShapes$Table;III)V"⟩, 3) := ⟨⟨by decide +kernel, by decide +kernel⟩, List.mem_of_getElem? (i := 190) (by decide +kernel), List.mem_of_getElem? (i := 601) (by decide +kernel), List.mem_of_getElem? (i := 602) (by decide +kernel)⟩
theorem lw_p18 : lw_okq (⟨"RaysOfShapes$Span", "move", "(LRaysOfShapes$Table;II)V"⟩, 3) := ⟨⟨by decide +kernel, by decide +kernel⟩, List.mem_of_getElem? (i := 190) (by decide +kernel), List.mem_of_getElem? (i := 605) (by decide +kernel), List.mem_of_getElem? (i := 606) (by decide +kernel)⟩
theorem lw_p19 : lw_okq (⟨"RaysOfShapes$Span", "repeat", "(II)V"⟩, 3) := ⟨⟨by decide +kernel, by decide +kernel⟩, List.mem_of_getElem? (i := 190) (by decide +kernel), List.mem_of_getElem? (i := 610) (by decide +kernel), List.mem_of_getElem? (i := 611) (by decide +kernel)⟩
theorem lw_p20 : lw_okq (⟨"RaysOfShapes$Span", "mirror", "(II)V"⟩, 3) := ⟨⟨by decide +kernel, by decide +kernel⟩, List.mem_of_getElem? (i := 190) (by decide +kernel), List.mem_of_getElem? (i := 615) (by decide +kernel), List.mem_of_getElem? (i := 616) (by decide +kernel)⟩
theorem lw_p21 : lw_okq (⟨"RaysOfShapes$Span", "turn", "(II)V"⟩, 3) := ⟨⟨by decide +kernel, by decide +kernel⟩, List.mem_of_getElem? (i := 190) (by decide +kernel), List.mem_of_getElem? (i := 619) (by decide +kernel), List.mem_of_getElem? (i := 620) (by decide +kernel)⟩
theorem lw_p22 : lw_okq (⟨"RaysOfShapes$Looker", "lookAtEighths", "(LRaysOfShapes$Table;III)V"⟩, 5) := ⟨⟨by decide +kernel, by decide +kernel⟩, List.mem_of_getElem? (i := 155) (by decide +kernel), List.mem_of_getElem? (i := 654) (by decide +kernel), List.mem_of_getElem? (i := 655) (by decide +kernel)⟩
theorem lw_p23 : lw_okq (⟨"RaysOfShapes", "saidOfNumbers", "(II)I"⟩, 16) := ⟨⟨by decide +kernel, by decide +kernel⟩, List.mem_of_getElem? (i := 22) (by decide +kernel), List.mem_of_getElem? (i := 677) (by decide +kernel), List.mem_of_getElem? (i := 678) (by decide +kernel)⟩
theorem lw_p24 : lw_okq (⟨"RaysOfShapes$Reader", "begin", "(LRaysOfShapes$Table;)Z"⟩, 11) := ⟨⟨by decide +kernel, by decide +kernel⟩, List.mem_of_getElem? (i := 115) (by decide +kernel), List.mem_of_getElem? (i := 714) (by decide +kernel), List.mem_of_getElem? (i := 715) (by decide +kernel)⟩
theorem lw_p25 : lw_okq (⟨"RaysOfShapes$Reader", "skipBlanks", "()V"⟩, 11) := ⟨⟨by decide +kernel, by decide +kernel⟩, List.mem_of_getElem? (i := 115) (by decide +kernel), List.mem_of_getElem? (i := 718) (by decide +kernel), List.mem_of_getElem? (i := 719) (by decide +kernel)⟩
theorem lw_p26 : lw_okq (⟨"RaysOfShapes$Reader", "byteAt", "(I)I"⟩, 11) := ⟨⟨by decide +kernel, by decide +kernel⟩, List.mem_of_getElem? (i := 115) (by decide +kernel), List.mem_of_getElem? (i := 722) (by decide +kernel), List.mem_of_getElem? (i := 723) (by decide +kernel)⟩
theorem lw_p27 : lw_okq (⟨"RaysOfShapes$Reader", "readWord", "()I"⟩, 11) := ⟨⟨by decide +kernel, by decide +kernel⟩, List.mem_of_getElem? (i := 115) (by decide +kernel), List.mem_of_getElem? (i := 726) (by decide +kernel), List.mem_of_getElem? (i := 727) (by decide +kernel)⟩
theorem lw_p28 : lw_okq (⟨"RaysOfShapes$Reader", "isWord", "(ILjava/lang/String;)Z"⟩, 11) := ⟨⟨by decide +kernel, by decide +kernel⟩, List.mem_of_getElem? (i := 115) (by decide +kernel), List.mem_of_getElem? (i := 748) (by decide +kernel), List.mem_of_getElem? (i := 749) (by decide +kernel)⟩
theorem lw_p29 : lw_okq (⟨"RaysOfShapes$Reader", "isFault", "(I)Z"⟩, 11) := ⟨⟨by decide +kernel, by decide +kernel⟩, List.mem_of_getElem? (i := 115) (by decide +kernel), List.mem_of_getElem? (i := 800) (by decide +kernel), List.mem_of_getElem? (i := 801) (by decide +kernel)⟩
theorem lw_p30 : lw_okq (⟨"RaysOfShapes$Reader", "readNumber", "(II)Z"⟩, 11) := ⟨⟨by decide +kernel, by decide +kernel⟩, List.mem_of_getElem? (i := 115) (by decide +kernel), List.mem_of_getElem? (i := 809) (by decide +kernel), List.mem_of_getElem? (i := 810) (by decide +kernel)⟩
theorem lw_p31 : lw_okq (⟨"RaysOfShapes$Reader", "write", "(LRaysOfShapes$Table;III)I"⟩, 11) := ⟨⟨by decide +kernel, by decide +kernel⟩, List.mem_of_getElem? (i := 115) (by decide +kernel), List.mem_of_getElem? (i := 825) (by decide +kernel), List.mem_of_getElem? (i := 826) (by decide +kernel)⟩
def lw_privs_2 : List (MethodName × Nat) := [(⟨"RaysOfShapes$Span", "ofPair", "(LRaysOfShapes$Table;III)V"⟩, 3), (⟨"RaysOfShapes$Span", "ofChange", "(LRaysOfShapes$Table;III)V"⟩, 3), (⟨"RaysOfShapes$Span", "move", "(LRaysOfShapes$Table;II)V"⟩, 3), (⟨"RaysOfShapes$Span", "repeat", "(II)V"⟩, 3), (⟨"RaysOfShapes$Span", "mirror", "(II)V"⟩, 3), (⟨"RaysOfShapes$Span", "turn", "(II)V"⟩, 3), (⟨"RaysOfShapes$Looker", "lookAtEighths", "(LRaysOfShapes$Table;III)V"⟩, 5), (⟨"RaysOfShapes", "saidOfNumbers", "(II)I"⟩, 16), (⟨"RaysOfShapes$Reader", "begin", "(LRaysOfShapes$Table;)Z"⟩, 11), (⟨"RaysOfShapes$Reader", "skipBlanks", "()V"⟩, 11), (⟨"RaysOfShapes$Reader", "byteAt", "(I)I"⟩, 11), (⟨"RaysOfShapes$Reader", "readWord", "()I"⟩, 11), (⟨"RaysOfShapes$Reader", "isWord", "(ILjava/lang/String;)Z"⟩, 11), (⟨"RaysOfShapes$Reader", "isFault", "(I)Z"⟩, 11), (⟨"RaysOfShapes$Reader", "readNumber", "(II)Z"⟩, 11), (⟨"RaysOfShapes$Reader", "write", "(LRaysOfShapes$Table;III)I"⟩, 11)]
theorem lw_r2 : ∀ q ∈ lw_privs_2, lw_okq q := List.forall_mem_cons.mpr ⟨lw_p16, List.forall_mem_cons.mpr ⟨lw_p17, List.forall_mem_cons.mpr ⟨lw_p18, List.forall_mem_cons.mpr ⟨lw_p19, List.forall_mem_cons.mpr ⟨lw_p20, List.forall_mem_cons.mpr ⟨lw_p21, List.forall_mem_cons.mpr ⟨lw_p22, List.forall_mem_cons.mpr ⟨lw_p23, List.forall_mem_cons.mpr ⟨lw_p24, List.forall_mem_cons.mpr ⟨lw_p25, List.forall_mem_cons.mpr ⟨lw_p26, List.forall_mem_cons.mpr ⟨lw_p27, List.forall_mem_cons.mpr ⟨lw_p28, List.forall_mem_cons.mpr ⟨lw_p29, List.forall_mem_cons.mpr ⟨lw_p30, List.forall_mem_cons.mpr ⟨lw_p31, fun _ h => absurd h List.not_mem_nil⟩⟩⟩⟩⟩⟩⟩⟩⟩⟩⟩⟩⟩⟩⟩⟩
theorem lw_p32 : lw_okq (⟨"RaysOfShapes$Table", "deepOver", "(III)I"⟩, 8) := ⟨⟨by decide +kernel, by decide +kernel⟩, List.mem_of_getElem? (i := 30) (by decide +kernel), List.mem_of_getElem? (i := 834) (by decide +kernel), List.mem_of_getElem? (i := 835) (by decide +kernel)⟩
theorem lw_p33 : lw_okq (⟨"RaysOfShapes$Table", "blendsOver", "(III)I"⟩, 8) := ⟨⟨by decide +kernel, by decide +kernel⟩, List.mem_of_getElem? (i := 30) (by decide +kernel), List.mem_of_getElem? (i := 841) (by decide +kernel), List.mem_of_getElem? (i := 842) (by decide +kernel)⟩
theorem lw_p34 : lw_okq (⟨"RaysOfShapes$Table", "blendsOf", "(I)I"⟩, 8) := ⟨⟨by decide +kernel, by decide +kernel⟩, List.mem_of_getElem? (i := 30) (by decide +kernel), List.mem_of_getElem? (i := 845) (by decide +kernel), List.mem_of_getElem? (i := 846) (by decide +kernel)⟩
theorem lw_p35 : lw_okq (⟨"RaysOfShapes$Reader", "end", "(LRaysOfShapes$Table;I)Z"⟩, 11) := ⟨⟨by decide +kernel, by decide +kernel⟩, List.mem_of_getElem? (i := 115) (by decide +kernel), List.mem_of_getElem? (i := 853) (by decide +kernel), List.mem_of_getElem? (i := 854) (by decide +kernel)⟩
theorem lw_p36 : lw_okq (⟨"RaysOfShapes$Reader", "readSign", "(I)Z"⟩, 11) := ⟨⟨by decide +kernel, by decide +kernel⟩, List.mem_of_getElem? (i := 115) (by decide +kernel), List.mem_of_getElem? (i := 859) (by decide +kernel), List.mem_of_getElem? (i := 860) (by decide +kernel)⟩
theorem lw_p37 : lw_okq (⟨"RaysOfShapes$Reader", "begun", "(II)Z"⟩, 11) := ⟨⟨by decide +kernel, by decide +kernel⟩, List.mem_of_getElem? (i := 115) (by decide +kernel), List.mem_of_getElem? (i := 868) (by decide +kernel), List.mem_of_getElem? (i := 869) (by decide +kernel)⟩
theorem lw_p38 : lw_okq (⟨"RaysOfShapes", "added", "(I)I"⟩, 16) := ⟨⟨by decide +kernel, by decide +kernel⟩, List.mem_of_getElem? (i := 22) (by decide +kernel), List.mem_of_getElem? (i := 876) (by decide +kernel), List.mem_of_getElem? (i := 877) (by decide +kernel)⟩
theorem lw_p39 : lw_okq (⟨"RaysOfShapes", "putNumbers", "(III)V"⟩, 16) := ⟨⟨by decide +kernel, by decide +kernel⟩, List.mem_of_getElem? (i := 22) (by decide +kernel), List.mem_of_getElem? (i := 894) (by decide +kernel), List.mem_of_getElem? (i := 895) (by decide +kernel)⟩
theorem lw_p40 : lw_okq (⟨"RaysOfShapes", "built", "(III)I"⟩, 16) := ⟨⟨by decide +kernel, by decide +kernel⟩, List.mem_of_getElem? (i := 22) (by decide +kernel), List.mem_of_getElem? (i := 898) (by decide +kernel), List.mem_of_getElem? (i := 899) (by decide +kernel)⟩
theorem lw_p41 : lw_okq (⟨"RaysOfShapes$Walker", "sizeOfPiece", "(LRaysOfShapes$Places;I)I"⟩, 8) := ⟨⟨by decide +kernel, by decide +kernel⟩, List.mem_of_getElem? (i := 224) (by decide +kernel), List.mem_of_getElem? (i := 1072) (by decide +kernel), List.mem_of_getElem? (i := 1073) (by decide +kernel)⟩
theorem lw_p42 : lw_okq (⟨"RaysOfShapes", "countBlends", "(III)V"⟩, 16) := ⟨⟨by decide +kernel, by decide +kernel⟩, List.mem_of_getElem? (i := 22) (by decide +kernel), List.mem_of_getElem? (i := 1113) (by decide +kernel), List.mem_of_getElem? (i := 1114) (by decide +kernel)⟩
theorem lw_p43 : lw_okq (⟨"RaysOfShapes", "worthIn", "(II)LRaysOfShapes$Fraction;"⟩, 16) := ⟨⟨by decide +kernel, by decide +kernel⟩, List.mem_of_getElem? (i := 22) (by decide +kernel), List.mem_of_getElem? (i := 1117) (by decide +kernel), List.mem_of_getElem? (i := 1118) (by decide +kernel)⟩
theorem lw_p44 : lw_okq (⟨"RaysOfShapes", "toldRefusal", "(II)I"⟩, 16) := ⟨⟨by decide +kernel, by decide +kernel⟩, List.mem_of_getElem? (i := 22) (by decide +kernel), List.mem_of_getElem? (i := 1125) (by decide +kernel), List.mem_of_getElem? (i := 1126) (by decide +kernel)⟩
theorem lw_p45 : lw_okq (⟨"RaysOfShapes", "isSoOfPair", "(IIIII)Z"⟩, 16) := ⟨⟨by decide +kernel, by decide +kernel⟩, List.mem_of_getElem? (i := 22) (by decide +kernel), List.mem_of_getElem? (i := 1130) (by decide +kernel), List.mem_of_getElem? (i := 1131) (by decide +kernel)⟩
theorem lw_p46 : lw_okq (⟨"RaysOfShapes", "isInPair", "(IIII)Z"⟩, 16) := ⟨⟨by decide +kernel, by decide +kernel⟩, List.mem_of_getElem? (i := 22) (by decide +kernel), List.mem_of_getElem? (i := 1134) (by decide +kernel), List.mem_of_getElem? (i := 1135) (by decide +kernel)⟩
theorem lw_p47 : lw_okq (⟨"RaysOfShapesModel", "isShape", "(I)Z"⟩, 32) := ⟨⟨by decide +kernel, by decide +kernel⟩, List.mem_of_getElem? (i := 1253) (by decide +kernel), List.mem_of_getElem? (i := 1378) (by decide +kernel), List.mem_of_getElem? (i := 1379) (by decide +kernel)⟩
def lw_privs_3 : List (MethodName × Nat) := [(⟨"RaysOfShapes$Table", "deepOver", "(III)I"⟩, 8), (⟨"RaysOfShapes$Table", "blendsOver", "(III)I"⟩, 8), (⟨"RaysOfShapes$Table", "blendsOf", "(I)I"⟩, 8), (⟨"RaysOfShapes$Reader", "end", "(LRaysOfShapes$Table;I)Z"⟩, 11), (⟨"RaysOfShapes$Reader", "readSign", "(I)Z"⟩, 11), (⟨"RaysOfShapes$Reader", "begun", "(II)Z"⟩, 11), (⟨"RaysOfShapes", "added", "(I)I"⟩, 16), (⟨"RaysOfShapes", "putNumbers", "(III)V"⟩, 16), (⟨"RaysOfShapes", "built", "(III)I"⟩, 16), (⟨"RaysOfShapes$Walker", "sizeOfPiece", "(LRaysOfShapes$Places;I)I"⟩, 8), (⟨"RaysOfShapes", "countBlends", "(III)V"⟩, 16), (⟨"RaysOfShapes", "worthIn", "(II)LRaysOfShapes$Fraction;"⟩, 16), (⟨"RaysOfShapes", "toldRefusal", "(II)I"⟩, 16), (⟨"RaysOfShapes", "isSoOfPair", "(IIIII)Z"⟩, 16), (⟨"RaysOfShapes", "isInPair", "(IIII)Z"⟩, 16), (⟨"RaysOfShapesModel", "isShape", "(I)Z"⟩, 32)]
theorem lw_r3 : ∀ q ∈ lw_privs_3, lw_okq q := List.forall_mem_cons.mpr ⟨lw_p32, List.forall_mem_cons.mpr ⟨lw_p33, List.forall_mem_cons.mpr ⟨lw_p34, List.forall_mem_cons.mpr ⟨lw_p35, List.forall_mem_cons.mpr ⟨lw_p36, List.forall_mem_cons.mpr ⟨lw_p37, List.forall_mem_cons.mpr ⟨lw_p38, List.forall_mem_cons.mpr ⟨lw_p39, List.forall_mem_cons.mpr ⟨lw_p40, List.forall_mem_cons.mpr ⟨lw_p41, List.forall_mem_cons.mpr ⟨lw_p42, List.forall_mem_cons.mpr ⟨lw_p43, List.forall_mem_cons.mpr ⟨lw_p44, List.forall_mem_cons.mpr ⟨lw_p45, List.forall_mem_cons.mpr ⟨lw_p46, List.forall_mem_cons.mpr ⟨lw_p47, fun _ h => absurd h List.not_mem_nil⟩⟩⟩⟩⟩⟩⟩⟩⟩⟩⟩⟩⟩⟩⟩⟩
theorem lw_p48 : lw_okq (⟨"RaysOfShapesModel", "refusedLong", "(I)J"⟩, 32) := ⟨⟨by decide +kernel, by decide +kernel⟩, List.mem_of_getElem? (i := 1253) (by decide +kernel), List.mem_of_getElem? (i := 1387) (by decide +kernel), List.mem_of_getElem? (i := 1388) (by decide +kernel)⟩
theorem lw_p49 : lw_okq (⟨"RaysOfShapesModel", "refused", "(I)I"⟩, 32) := ⟨⟨by decide +kernel, by decide +kernel⟩, List.mem_of_getElem? (i := 1253) (by decide +kernel), List.mem_of_getElem? (i := 1391) (by decide +kernel), List.mem_of_getElem? (i := 1392) (by decide +kernel)⟩
theorem lw_p50 : lw_okq (⟨"RaysOfShapesModel", "worthAt", "(IIII)J"⟩, 32) := ⟨⟨by decide +kernel, by decide +kernel⟩, List.mem_of_getElem? (i := 1253) (by decide +kernel), List.mem_of_getElem? (i := 1396) (by decide +kernel), List.mem_of_getElem? (i := 1397) (by decide +kernel)⟩
theorem lw_p51 : lw_okq (⟨"RaysOfShapesModel", "of", "(II)I"⟩, 32) := ⟨⟨by decide +kernel, by decide +kernel⟩, List.mem_of_getElem? (i := 1253) (by decide +kernel), List.mem_of_getElem? (i := 1400) (by decide +kernel), List.mem_of_getElem? (i := 1401) (by decide +kernel)⟩
theorem lw_p52 : lw_okq (⟨"RaysOfShapesModel", "number", "(II)I"⟩, 32) := ⟨⟨by decide +kernel, by decide +kernel⟩, List.mem_of_getElem? (i := 1253) (by decide +kernel), List.mem_of_getElem? (i := 1404) (by decide +kernel), List.mem_of_getElem? (i := 1405) (by decide +kernel)⟩
theorem lw_p53 : lw_okq (⟨"RaysOfShapesModel", "beyond", "(III)J"⟩, 32) := ⟨⟨by decide +kernel, by decide +kernel⟩, List.mem_of_getElem? (i := 1253) (by decide +kernel), List.mem_of_getElem? (i := 1409) (by decide +kernel), List.mem_of_getElem? (i := 1410) (by decide +kernel)⟩
theorem lw_p54 : lw_okq (⟨"RaysOfShapesModel", "blended", "(IJJ)J"⟩, 32) := ⟨⟨by decide +kernel, by decide +kernel⟩, List.mem_of_getElem? (i := 1253) (by decide +kernel), List.mem_of_getElem? (i := 1420) (by decide +kernel), List.mem_of_getElem? (i := 1421) (by decide +kernel)⟩
theorem lw_p55 : lw_okq (⟨"RaysOfShapesModel", "changed", "(IIII)J"⟩, 32) := ⟨⟨by decide +kernel, by decide +kernel⟩, List.mem_of_getElem? (i := 1253) (by decide +kernel), List.mem_of_getElem? (i := 1424) (by decide +kernel), List.mem_of_getElem? (i := 1425) (by decide +kernel)⟩
theorem lw_p56 : lw_okq (⟨"RaysOfShapesModel", "grownBy", "(I)J"⟩, 32) := ⟨⟨by decide +kernel, by decide +kernel⟩, List.mem_of_getElem? (i := 1253) (by decide +kernel), List.mem_of_getElem? (i := 1432) (by decide +kernel), List.mem_of_getElem? (i := 1433) (by decide +kernel)⟩
theorem lw_p57 : lw_okq (⟨"RaysOfShapesModel", "bound", "(IIIIIIII)V"⟩, 32) := ⟨⟨by decide +kernel, by decide +kernel⟩, List.mem_of_getElem? (i := 1253) (by decide +kernel), List.mem_of_getElem? (i := 1461) (by decide +kernel), List.mem_of_getElem? (i := 1462) (by decide +kernel)⟩
theorem lw_p58 : lw_okq (⟨"RaysOfShapesModel", "lowBeyond", "(IIII)J"⟩, 32) := ⟨⟨by decide +kernel, by decide +kernel⟩, List.mem_of_getElem? (i := 1253) (by decide +kernel), List.mem_of_getElem? (i := 1471) (by decide +kernel), List.mem_of_getElem? (i := 1472) (by decide +kernel)⟩
theorem lw_p59 : lw_okq (⟨"RaysOfShapesModel", "highBeyond", "(IIII)J"⟩, 32) := ⟨⟨by decide +kernel, by decide +kernel⟩, List.mem_of_getElem? (i := 1253) (by decide +kernel), List.mem_of_getElem? (i := 1475) (by decide +kernel), List.mem_of_getElem? (i := 1476) (by decide +kernel)⟩
theorem lw_p60 : lw_okq (⟨"RaysOfShapesModel", "boundPair", "(IIIIIIII)V"⟩, 32) := ⟨⟨by decide +kernel, by decide +kernel⟩, List.mem_of_getElem? (i := 1253) (by decide +kernel), List.mem_of_getElem? (i := 1482) (by decide +kernel), List.mem_of_getElem? (i := 1483) (by decide +kernel)⟩
theorem lw_p61 : lw_okq (⟨"RaysOfShapesModel", "boundChange", "(IIIIIIII)V"⟩, 32) := ⟨⟨by decide +kernel, by decide +kernel⟩, List.mem_of_getElem? (i := 1253) (by decide +kernel), List.mem_of_getElem? (i := 1486) (by decide +kernel), List.mem_of_getElem? (i := 1487) (by decide +kernel)⟩
theorem lw_p62 : lw_okq (⟨"RaysOfShapesModel", "boundTurn", "(IIIIIIIIII)V"⟩, 32) := ⟨⟨by decide +kernel, by decide +kernel⟩, List.mem_of_getElem? (i := 1253) (by decide +kernel), List.mem_of_getElem? (i := 1506) (by decide +kernel), List.mem_of_getElem? (i := 1507) (by decide +kernel)⟩
theorem lw_p63 : lw_okq (⟨"RaysOfShapesModel", "boundGrown", "(II)V"⟩, 32) := ⟨⟨by decide +kernel, by decide +kernel⟩, List.mem_of_getElem? (i := 1253) (by decide +kernel), List.mem_of_getElem? (i := 1510) (by decide +kernel), List.mem_of_getElem? (i := 1511) (by decide +kernel)⟩
def lw_privs_4 : List (MethodName × Nat) := [(⟨"RaysOfShapesModel", "refusedLong", "(I)J"⟩, 32), (⟨"RaysOfShapesModel", "refused", "(I)I"⟩, 32), (⟨"RaysOfShapesModel", "worthAt", "(IIII)J"⟩, 32), (⟨"RaysOfShapesModel", "of", "(II)I"⟩, 32), (⟨"RaysOfShapesModel", "number", "(II)I"⟩, 32), (⟨"RaysOfShapesModel", "beyond", "(III)J"⟩, 32), (⟨"RaysOfShapesModel", "blended", "(IJJ)J"⟩, 32), (⟨"RaysOfShapesModel", "changed", "(IIII)J"⟩, 32), (⟨"RaysOfShapesModel", "grownBy", "(I)J"⟩, 32), (⟨"RaysOfShapesModel", "bound", "(IIIIIIII)V"⟩, 32), (⟨"RaysOfShapesModel", "lowBeyond", "(IIII)J"⟩, 32), (⟨"RaysOfShapesModel", "highBeyond", "(IIII)J"⟩, 32), (⟨"RaysOfShapesModel", "boundPair", "(IIIIIIII)V"⟩, 32), (⟨"RaysOfShapesModel", "boundChange", "(IIIIIIII)V"⟩, 32), (⟨"RaysOfShapesModel", "boundTurn", "(IIIIIIIIII)V"⟩, 32), (⟨"RaysOfShapesModel", "boundGrown", "(II)V"⟩, 32)]
theorem lw_r4 : ∀ q ∈ lw_privs_4, lw_okq q := List.forall_mem_cons.mpr ⟨lw_p48, List.forall_mem_cons.mpr ⟨lw_p49, List.forall_mem_cons.mpr ⟨lw_p50, List.forall_mem_cons.mpr ⟨lw_p51, List.forall_mem_cons.mpr ⟨lw_p52, List.forall_mem_cons.mpr ⟨lw_p53, List.forall_mem_cons.mpr ⟨lw_p54, List.forall_mem_cons.mpr ⟨lw_p55, List.forall_mem_cons.mpr ⟨lw_p56, List.forall_mem_cons.mpr ⟨lw_p57, List.forall_mem_cons.mpr ⟨lw_p58, List.forall_mem_cons.mpr ⟨lw_p59, List.forall_mem_cons.mpr ⟨lw_p60, List.forall_mem_cons.mpr ⟨lw_p61, List.forall_mem_cons.mpr ⟨lw_p62, List.forall_mem_cons.mpr ⟨lw_p63, fun _ h => absurd h List.not_mem_nil⟩⟩⟩⟩⟩⟩⟩⟩⟩⟩⟩⟩⟩⟩⟩⟩
theorem lw_p64 : lw_okq (⟨"RaysOfShapesModel", "isInside", "(II)Z"⟩, 32) := ⟨⟨by decide +kernel, by decide +kernel⟩, List.mem_of_getElem? (i := 1253) (by decide +kernel), List.mem_of_getElem? (i := 1518) (by decide +kernel), List.mem_of_getElem? (i := 1519) (by decide +kernel)⟩
theorem lw_p65 : lw_okq (⟨"RaysOfShapesModel", "fills", "(II)I"⟩, 32) := ⟨⟨by decide +kernel, by decide +kernel⟩, List.mem_of_getElem? (i := 1253) (by decide +kernel), List.mem_of_getElem? (i := 1526) (by decide +kernel), List.mem_of_getElem? (i := 1527) (by decide +kernel)⟩
theorem lw_p66 : lw_okq (⟨"RaysOfShapesModel", "looked", "(IIIII)I"⟩, 32) := ⟨⟨by decide +kernel, by decide +kernel⟩, List.mem_of_getElem? (i := 1253) (by decide +kernel), List.mem_of_getElem? (i := 1530) (by decide +kernel), List.mem_of_getElem? (i := 1531) (by decide +kernel)⟩
theorem lw_p67 : lw_okq (⟨"RaysOfShapesModel", "skinOf", "(I)I"⟩, 32) := ⟨⟨by decide +kernel, by decide +kernel⟩, List.mem_of_getElem? (i := 1253) (by decide +kernel), List.mem_of_getElem? (i := 1561) (by decide +kernel), List.mem_of_getElem? (i := 1562) (by decide +kernel)⟩
theorem lw_p68 : lw_okq (⟨"RaysOfShapesModel", "piecesOf", "(II)I"⟩, 32) := ⟨⟨by decide +kernel, by decide +kernel⟩, List.mem_of_getElem? (i := 1253) (by decide +kernel), List.mem_of_getElem? (i := 1572) (by decide +kernel), List.mem_of_getElem? (i := 1573) (by decide +kernel)⟩
theorem lw_p69 : lw_okq (⟨"RaysOfShapesModel", "piece", "(II)I"⟩, 32) := ⟨⟨by decide +kernel, by decide +kernel⟩, List.mem_of_getElem? (i := 1253) (by decide +kernel), List.mem_of_getElem? (i := 1576) (by decide +kernel), List.mem_of_getElem? (i := 1577) (by decide +kernel)⟩
theorem lw_p70 : lw_okq (⟨"RaysOfShapesModel", "fillsBoth", "(II)I"⟩, 32) := ⟨⟨by decide +kernel, by decide +kernel⟩, List.mem_of_getElem? (i := 1253) (by decide +kernel), List.mem_of_getElem? (i := 1584) (by decide +kernel), List.mem_of_getElem? (i := 1585) (by decide +kernel)⟩
theorem lw_p71 : lw_okq (⟨"RaysOfShapesModel", "meets", "(II)Z"⟩, 32) := ⟨⟨by decide +kernel, by decide +kernel⟩, List.mem_of_getElem? (i := 1253) (by decide +kernel), List.mem_of_getElem? (i := 1603) (by decide +kernel), List.mem_of_getElem? (i := 1604) (by decide +kernel)⟩
theorem lw_p72 : lw_okq (⟨"RaysOfShapesModel", "deepOver", "(II)I"⟩, 32) := ⟨⟨by decide +kernel, by decide +kernel⟩, List.mem_of_getElem? (i := 1253) (by decide +kernel), List.mem_of_getElem? (i := 1613) (by decide +kernel), List.mem_of_getElem? (i := 1614) (by decide +kernel)⟩
theorem lw_p73 : lw_okq (⟨"RaysOfShapesModel", "blendsOver", "(II)I"⟩, 32) := ⟨⟨by decide +kernel, by decide +kernel⟩, List.mem_of_getElem? (i := 1253) (by decide +kernel), List.mem_of_getElem? (i := 1617) (by decide +kernel), List.mem_of_getElem? (i := 1618) (by decide +kernel)⟩
theorem lw_p74 : lw_okq (⟨"RaysOfShapesModel", "tells", "(IIII)V"⟩, 32) := ⟨⟨by decide +kernel, by decide +kernel⟩, List.mem_of_getElem? (i := 1253) (by decide +kernel), List.mem_of_getElem? (i := 1625) (by decide +kernel), List.mem_of_getElem? (i := 1626) (by decide +kernel)⟩
theorem lw_p75 : lw_okq (⟨"RaysOfShapesModel", "made", "(III)I"⟩, 32) := ⟨⟨by decide +kernel, by decide +kernel⟩, List.mem_of_getElem? (i := 1253) (by decide +kernel), List.mem_of_getElem? (i := 1629) (by decide +kernel), List.mem_of_getElem? (i := 1630) (by decide +kernel)⟩
theorem lw_p76 : lw_okq (⟨"RaysOfShapesModel", "areNumbers", "(I)Z"⟩, 32) := ⟨⟨by decide +kernel, by decide +kernel⟩, List.mem_of_getElem? (i := 1253) (by decide +kernel), List.mem_of_getElem? (i := 1633) (by decide +kernel), List.mem_of_getElem? (i := 1634) (by decide +kernel)⟩
theorem lw_p77 : lw_okq (⟨"RaysOfShapesModel", "isTooDeep", "(III)Z"⟩, 32) := ⟨⟨by decide +kernel, by decide +kernel⟩, List.mem_of_getElem? (i := 1253) (by decide +kernel), List.mem_of_getElem? (i := 1653) (by decide +kernel), List.mem_of_getElem? (i := 1654) (by decide +kernel)⟩
theorem lw_p78 : lw_okq (⟨"RaysOfShapesModel", "deepBy", "(III)I"⟩, 32) := ⟨⟨by decide +kernel, by decide +kernel⟩, List.mem_of_getElem? (i := 1253) (by decide +kernel), List.mem_of_getElem? (i := 1657) (by decide +kernel), List.mem_of_getElem? (i := 1658) (by decide +kernel)⟩
theorem lw_p79 : lw_okq (⟨"RaysOfShapesModel", "blendsBy", "(III)I"⟩, 32) := ⟨⟨by decide +kernel, by decide +kernel⟩, List.mem_of_getElem? (i := 1253) (by decide +kernel), List.mem_of_getElem? (i := 1661) (by decide +kernel), List.mem_of_getElem? (i := 1662) (by decide +kernel)⟩
def lw_privs_5 : List (MethodName × Nat) := [(⟨"RaysOfShapesModel", "isInside", "(II)Z"⟩, 32), (⟨"RaysOfShapesModel", "fills", "(II)I"⟩, 32), (⟨"RaysOfShapesModel", "looked", "(IIIII)I"⟩, 32), (⟨"RaysOfShapesModel", "skinOf", "(I)I"⟩, 32), (⟨"RaysOfShapesModel", "piecesOf", "(II)I"⟩, 32), (⟨"RaysOfShapesModel", "piece", "(II)I"⟩, 32), (⟨"RaysOfShapesModel", "fillsBoth", "(II)I"⟩, 32), (⟨"RaysOfShapesModel", "meets", "(II)Z"⟩, 32), (⟨"RaysOfShapesModel", "deepOver", "(II)I"⟩, 32), (⟨"RaysOfShapesModel", "blendsOver", "(II)I"⟩, 32), (⟨"RaysOfShapesModel", "tells", "(IIII)V"⟩, 32), (⟨"RaysOfShapesModel", "made", "(III)I"⟩, 32), (⟨"RaysOfShapesModel", "areNumbers", "(I)Z"⟩, 32), (⟨"RaysOfShapesModel", "isTooDeep", "(III)Z"⟩, 32), (⟨"RaysOfShapesModel", "deepBy", "(III)I"⟩, 32), (⟨"RaysOfShapesModel", "blendsBy", "(III)I"⟩, 32)]
theorem lw_r5 : ∀ q ∈ lw_privs_5, lw_okq q := List.forall_mem_cons.mpr ⟨lw_p64, List.forall_mem_cons.mpr ⟨lw_p65, List.forall_mem_cons.mpr ⟨lw_p66, List.forall_mem_cons.mpr ⟨lw_p67, List.forall_mem_cons.mpr ⟨lw_p68, List.forall_mem_cons.mpr ⟨lw_p69, List.forall_mem_cons.mpr ⟨lw_p70, List.forall_mem_cons.mpr ⟨lw_p71, List.forall_mem_cons.mpr ⟨lw_p72, List.forall_mem_cons.mpr ⟨lw_p73, List.forall_mem_cons.mpr ⟨lw_p74, List.forall_mem_cons.mpr ⟨lw_p75, List.forall_mem_cons.mpr ⟨lw_p76, List.forall_mem_cons.mpr ⟨lw_p77, List.forall_mem_cons.mpr ⟨lw_p78, List.forall_mem_cons.mpr ⟨lw_p79, fun _ h => absurd h List.not_mem_nil⟩⟩⟩⟩⟩⟩⟩⟩⟩⟩⟩⟩⟩⟩⟩⟩
theorem lw_p80 : lw_okq (⟨"RaysOfShapesModel", "comes", "(IIIII[II)I"⟩, 32) := ⟨⟨by decide +kernel, by decide +kernel⟩, List.mem_of_getElem? (i := 1253) (by decide +kernel), List.mem_of_getElem? (i := 1665) (by decide +kernel), List.mem_of_getElem? (i := 1666) (by decide +kernel)⟩
theorem lw_p81 : lw_okq (⟨"RaysOfShapesModel", "looseShelves", "()V"⟩, 32) := ⟨⟨by decide +kernel, by decide +kernel⟩, List.mem_of_getElem? (i := 1253) (by decide +kernel), List.mem_of_getElem? (i := 1705) (by decide +kernel), List.mem_of_getElem? (i := 1706) (by decide +kernel)⟩
theorem lw_p82 : lw_okq (⟨"RaysOfShapesModel", "solids", "(I)I"⟩, 32) := ⟨⟨by decide +kernel, by decide +kernel⟩, List.mem_of_getElem? (i := 1253) (by decide +kernel), List.mem_of_getElem? (i := 1713) (by decide +kernel), List.mem_of_getElem? (i := 1714) (by decide +kernel)⟩
theorem lw_p83 : lw_okq (⟨"RaysOfShapesModel", "next", "()V"⟩, 32) := ⟨⟨by decide +kernel, by decide +kernel⟩, List.mem_of_getElem? (i := 1253) (by decide +kernel), List.mem_of_getElem? (i := 1730) (by decide +kernel), List.mem_of_getElem? (i := 1731) (by decide +kernel)⟩
theorem lw_p84 : lw_okq (⟨"RaysOfShapesModel", "byteAt", "(I)I"⟩, 32) := ⟨⟨by decide +kernel, by decide +kernel⟩, List.mem_of_getElem? (i := 1253) (by decide +kernel), List.mem_of_getElem? (i := 1734) (by decide +kernel), List.mem_of_getElem? (i := 1735) (by decide +kernel)⟩
theorem lw_p85 : lw_okq (⟨"RaysOfShapesModel", "wordOf", "(II)I"⟩, 32) := ⟨⟨by decide +kernel, by decide +kernel⟩, List.mem_of_getElem? (i := 1253) (by decide +kernel), List.mem_of_getElem? (i := 1740) (by decide +kernel), List.mem_of_getElem? (i := 1741) (by decide +kernel)⟩
theorem lw_p86 : lw_okq (⟨"RaysOfShapesModel", "shapeRead", "(I)I"⟩, 32) := ⟨⟨by decide +kernel, by decide +kernel⟩, List.mem_of_getElem? (i := 1253) (by decide +kernel), List.mem_of_getElem? (i := 1749) (by decide +kernel), List.mem_of_getElem? (i := 1750) (by decide +kernel)⟩
theorem lw_p87 : lw_okq (⟨"RaysOfShapesModel", "areRead", "(II)Z"⟩, 32) := ⟨⟨by decide +kernel, by decide +kernel⟩, List.mem_of_getElem? (i := 1253) (by decide +kernel), List.mem_of_getElem? (i := 1753) (by decide +kernel), List.mem_of_getElem? (i := 1754) (by decide +kernel)⟩
theorem lw_p88 : lw_okq (⟨"RaysOfShapesModel", "isSign", "(I)Z"⟩, 32) := ⟨⟨by decide +kernel, by decide +kernel⟩, List.mem_of_getElem? (i := 1253) (by decide +kernel), List.mem_of_getElem? (i := 1760) (by decide +kernel), List.mem_of_getElem? (i := 1761) (by decide +kernel)⟩
theorem lw_p89 : lw_okq (⟨"RaysOfShapesModel", "isClosed", "()Z"⟩, 32) := ⟨⟨by decide +kernel, by decide +kernel⟩, List.mem_of_getElem? (i := 1253) (by decide +kernel), List.mem_of_getElem? (i := 1764) (by decide +kernel), List.mem_of_getElem? (i := 1765) (by decide +kernel)⟩
theorem lw_p90 : lw_okq (⟨"RaysOfShapesModel", "saysOf", "(II)I"⟩, 32) := ⟨⟨by decide +kernel, by decide +kernel⟩, List.mem_of_getElem? (i := 1253) (by decide +kernel), List.mem_of_getElem? (i := 1807) (by decide +kernel), List.mem_of_getElem? (i := 1808) (by decide +kernel)⟩
theorem lw_p91 : lw_okq (⟨"RaysOfShapesModel", "wholePlaces", "(I)I"⟩, 32) := ⟨⟨by decide +kernel, by decide +kernel⟩, List.mem_of_getElem? (i := 1253) (by decide +kernel), List.mem_of_getElem? (i := 1811) (by decide +kernel), List.mem_of_getElem? (i := 1812) (by decide +kernel)⟩
theorem lw_p92 : lw_okq (⟨"RaysOfShapesModel", "isTold", "(II)I"⟩, 32) := ⟨⟨by decide +kernel, by decide +kernel⟩, List.mem_of_getElem? (i := 1253) (by decide +kernel), List.mem_of_getElem? (i := 1820) (by decide +kernel), List.mem_of_getElem? (i := 1821) (by decide +kernel)⟩
theorem lw_p93 : lw_okq (⟨"RaysOfShapesModel", "isPaired", "(IIII)Z"⟩, 32) := ⟨⟨by decide +kernel, by decide +kernel⟩, List.mem_of_getElem? (i := 1253) (by decide +kernel), List.mem_of_getElem? (i := 1824) (by decide +kernel), List.mem_of_getElem? (i := 1825) (by decide +kernel)⟩
theorem lw_p94 : lw_okq (⟨"RaysOfShapesModel", "carves", "(I)I"⟩, 32) := ⟨⟨by decide +kernel, by decide +kernel⟩, List.mem_of_getElem? (i := 1253) (by decide +kernel), List.mem_of_getElem? (i := 1836) (by decide +kernel), List.mem_of_getElem? (i := 1837) (by decide +kernel)⟩
theorem lw_p95 : lw_okq (⟨"RaysOfShapesModel", "blockMany", "()I"⟩, 32) := ⟨⟨by decide +kernel, by decide +kernel⟩, List.mem_of_getElem? (i := 1253) (by decide +kernel), List.mem_of_getElem? (i := 1848) (by decide +kernel), List.mem_of_getElem? (i := 1849) (by decide +kernel)⟩
def lw_privs_6 : List (MethodName × Nat) := [(⟨"RaysOfShapesModel", "comes", "(IIIII[II)I"⟩, 32), (⟨"RaysOfShapesModel", "looseShelves", "()V"⟩, 32), (⟨"RaysOfShapesModel", "solids", "(I)I"⟩, 32), (⟨"RaysOfShapesModel", "next", "()V"⟩, 32), (⟨"RaysOfShapesModel", "byteAt", "(I)I"⟩, 32), (⟨"RaysOfShapesModel", "wordOf", "(II)I"⟩, 32), (⟨"RaysOfShapesModel", "shapeRead", "(I)I"⟩, 32), (⟨"RaysOfShapesModel", "areRead", "(II)Z"⟩, 32), (⟨"RaysOfShapesModel", "isSign", "(I)Z"⟩, 32), (⟨"RaysOfShapesModel", "isClosed", "()Z"⟩, 32), (⟨"RaysOfShapesModel", "saysOf", "(II)I"⟩, 32), (⟨"RaysOfShapesModel", "wholePlaces", "(I)I"⟩, 32), (⟨"RaysOfShapesModel", "isTold", "(II)I"⟩, 32), (⟨"RaysOfShapesModel", "isPaired", "(IIII)Z"⟩, 32), (⟨"RaysOfShapesModel", "carves", "(I)I"⟩, 32), (⟨"RaysOfShapesModel", "blockMany", "()I"⟩, 32)]
theorem lw_r6 : ∀ q ∈ lw_privs_6, lw_okq q := List.forall_mem_cons.mpr ⟨lw_p80, List.forall_mem_cons.mpr ⟨lw_p81, List.forall_mem_cons.mpr ⟨lw_p82, List.forall_mem_cons.mpr ⟨lw_p83, List.forall_mem_cons.mpr ⟨lw_p84, List.forall_mem_cons.mpr ⟨lw_p85, List.forall_mem_cons.mpr ⟨lw_p86, List.forall_mem_cons.mpr ⟨lw_p87, List.forall_mem_cons.mpr ⟨lw_p88, List.forall_mem_cons.mpr ⟨lw_p89, List.forall_mem_cons.mpr ⟨lw_p90, List.forall_mem_cons.mpr ⟨lw_p91, List.forall_mem_cons.mpr ⟨lw_p92, List.forall_mem_cons.mpr ⟨lw_p93, List.forall_mem_cons.mpr ⟨lw_p94, List.forall_mem_cons.mpr ⟨lw_p95, fun _ h => absurd h List.not_mem_nil⟩⟩⟩⟩⟩⟩⟩⟩⟩⟩⟩⟩⟩⟩⟩⟩
theorem lw_p96 : lw_okq (⟨"RaysOfShapesModel", "draw", "(I)I"⟩, 32) := ⟨⟨by decide +kernel, by decide +kernel⟩, List.mem_of_getElem? (i := 1253) (by decide +kernel), List.mem_of_getElem? (i := 1865) (by decide +kernel), List.mem_of_getElem? (i := 1866) (by decide +kernel)⟩
theorem lw_p97 : lw_okq (⟨"RaysOfShapesModel", "held", "()I"⟩, 32) := ⟨⟨by decide +kernel, by decide +kernel⟩, List.mem_of_getElem? (i := 1253) (by decide +kernel), List.mem_of_getElem? (i := 1889) (by decide +kernel), List.mem_of_getElem? (i := 1890) (by decide +kernel)⟩
def lw_privs_7 : List (MethodName × Nat) := [(⟨"RaysOfShapesModel", "draw", "(I)I"⟩, 32), (⟨"RaysOfShapesModel", "held", "()I"⟩, 32)]
theorem lw_r7 : ∀ q ∈ lw_privs_7, lw_okq q := List.forall_mem_cons.mpr ⟨lw_p96, List.forall_mem_cons.mpr ⟨lw_p97, fun _ h => absurd h List.not_mem_nil⟩⟩
def lw_privs : List (MethodName × Nat) := lw_privs_1 ++ (lw_privs_2 ++ (lw_privs_3 ++ (lw_privs_4 ++ (lw_privs_5 ++ (lw_privs_6 ++ (lw_privs_7))))))
def lw_tbl : List Cond := k2_sels lw_privs ++ tables_1
theorem lw_privs_ok : ∀ q ∈ lw_privs, lw_okq q := by
  show ∀ q ∈ lw_privs_1 ++ (lw_privs_2 ++ (lw_privs_3 ++ (lw_privs_4 ++ (lw_privs_5 ++ (lw_privs_6 ++ (lw_privs_7)))))), lw_okq q
  exact List.forall_mem_append.mpr ⟨lw_r1, List.forall_mem_append.mpr ⟨lw_r2, List.forall_mem_append.mpr ⟨lw_r3, List.forall_mem_append.mpr ⟨lw_r4, List.forall_mem_append.mpr ⟨lw_r5, List.forall_mem_append.mpr ⟨lw_r6, lw_r7⟩⟩⟩⟩⟩⟩
end
section
/-! A small machine: words are tagged Int, memory is (object number, slot) ↦ Int. 'zstp' is one instruction, in continuation form. -/
abbrev zV : Type := Int ⊕ (Int ⊕ ((Int × Int × Int) ⊕ Unit))
abbrev zI (x : Int) : zV := .inl x
abbrev zJ (x : Int) : zV := .inr (.inl x)
abbrev zA (c n a : Int) : zV := .inr (.inr (.inl (c, n, a)))
abbrev zU : zV := .inr (.inr (.inr ()))
abbrev zMem : Type := Int → Int → Int
def zw8 (z : Int) : Int := (z + 128) % 256 - 128
def zw16 (z : Int) : Int := (z + 32768) % 65536 - 32768
def zw32 (z : Int) : Int := (z + 2147483648) % 4294967296 - 2147483648
def zw64 (z : Int) : Int := (z + 9223372036854775808) % 18446744073709551616 - 9223372036854775808
def zu32 (z : Int) : Nat := (z % 4294967296).toNat
def zu64 (z : Int) : Nat := (z % 18446744073709551616).toNat
def zand (x y : Int) : Int := zw32 ((zu32 x &&& zu32 y : Nat) : Int)
def zor (x y : Int) : Int := zw32 ((zu32 x ||| zu32 y : Nat) : Int)
def zxor (x y : Int) : Int := zw32 ((zu32 x ^^^ zu32 y : Nat) : Int)
def zandL (x y : Int) : Int := zw64 ((zu64 x &&& zu64 y : Nat) : Int)
def zorL (x y : Int) : Int := zw64 ((zu64 x ||| zu64 y : Nat) : Int)
def zxorL (x y : Int) : Int := zw64 ((zu64 x ^^^ zu64 y : Nat) : Int)
def zshl (x s : Int) : Int := zw32 (x * 2 ^ (zu32 s % 32))
def zshr (x s : Int) : Int := x / 2 ^ (zu32 s % 32)
def zushr (x s : Int) : Int := zw32 ((zu32 x / 2 ^ (zu32 s % 32) : Nat) : Int)
def zshlL (x s : Int) : Int := zw64 (x * 2 ^ (zu32 s % 64))
def zushrL (x s : Int) : Int := zw64 ((zu64 x / 2 ^ (zu32 s % 64) : Nat) : Int)
def zcmp (x y : Int) : Int := if x < y then -1 else if x = y then 0 else 1
def znth {β : Type} : List β → Nat → Option β
  | [], _ => none
  | a :: _, 0 => some a
  | _ :: l, n + 1 => znth l n
def zlng : Nat → zV → zV
  | 0, .inr (.inl _) => zU
  | _, a => a
def zst1 : List zV → Nat → zV → List zV
  | [], _, _ => []
  | _ :: l, 0, v => v :: l
  | a :: l, n + 1, v => zlng n a :: zst1 l n v
def zst2 : List zV → Nat → zV → List zV
  | [], _, _ => []
  | _ :: [], 0, v => [v]
  | _ :: _ :: l, 0, v => v :: zU :: l
  | a :: l, n + 1, v => zlng n a :: zst2 l n v
def zcat : zV → Nat
  | .inr (.inl _) => 2
  | _ => 1
def zcats : List zV → Nat
  | [] => 0
  | a :: l => zcat a + zcats l
def zspread : List zV → List zV
  | [] => []
  | .inr (.inl x) :: r => zJ x :: zU :: zspread r
  | .inl x :: r => zI x :: zspread r
  | .inr (.inr x) :: r => .inr (.inr x) :: zspread r
def zent (n : Nat) (as : List zV) : List zV := zspread as ++ List.replicate (n - (zspread as).length) zU
/-- what a call's answer is on the stack: kind 0 nothing, 2 a long, 3 a reference with its tag, else an int -/
def zpush (k : Nat) (c n : Int) (r : Int) (st : List zV) : List zV := match k with
  | 0 => st
  | 2 => zJ r :: st
  | 3 => zA c n r :: st
  | _ => zI r :: st
section
variable {α : Type}
def zi1 (kf : α) (st : List zV) (f : Int → List zV → α) : α := match st with
  | .inl x :: st => f x st
  | _ => kf
def zi2 (kf : α) (st : List zV) (f : Int → Int → List zV → α) : α := match st with
  | .inl y :: .inl x :: st => f x y st
  | _ => kf
def zj1 (kf : α) (st : List zV) (f : Int → List zV → α) : α := match st with
  | .inr (.inl x) :: st => f x st
  | _ => kf
def zj2 (kf : α) (st : List zV) (f : Int → Int → List zV → α) : α := match st with
  | .inr (.inl y) :: .inr (.inl x) :: st => f x y st
  | _ => kf
def zji (kf : α) (st : List zV) (f : Int → Int → List zV → α) : α := match st with
  | .inl y :: .inr (.inl x) :: st => f x y st
  | _ => kf
def zr1 (kf : α) (st : List zV) (f : Int → Int → Int → List zV → α) : α := match st with
  | .inr (.inr (.inl (c, n, a))) :: st => f c n a st
  | _ => kf
def zri (kf : α) (st : List zV) (f : Int → Int → Int → Int → List zV → α) : α := match st with
  | .inl i :: .inr (.inr (.inl (c, n, a))) :: st => f c n a i st
  | _ => kf
def zrii (kf : α) (st : List zV) (f : Int → Int → Int → Int → Int → List zV → α) : α := match st with
  | .inl x :: .inl i :: .inr (.inr (.inl (c, n, a))) :: st => f c n a i x st
  | _ => kf
def zrij (kf : α) (st : List zV) (f : Int → Int → Int → Int → Int → List zV → α) : α := match st with
  | .inr (.inl x) :: .inl i :: .inr (.inr (.inl (c, n, a))) :: st => f c n a i x st
  | _ => kf
def zrir (kf : α) (st : List zV) (f : Int → Int → Int → Int → Int → Int → Int → List zV → α) : α := match st with
  | .inr (.inr (.inl (c2, n2, x))) :: .inl i :: .inr (.inr (.inl (c, n, a))) :: st => f c n a i c2 n2 x st
  | _ => kf
def zsw (x : Int) (kn : Nat → α) (d : Nat) : Int → List Nat → α
  | _, [] => kn d
  | v, t :: r => if x = v then kn t else zsw x kn d (v + 1) r
def zlk (x : Int) (kn : Nat → α) (d : Nat) : List Int → List Nat → α
  | v :: vs, t :: r => if x = v then kn t else zlk x kn d vs r
  | _, _ => kn d
def zcond (c : Jvm.ClassFile.Cond) (x y : Int) (a b : α) : α := match c with
  | .eq => if x = y then a else b
  | .ne => if x = y then b else a
  | .lt => if x < y then a else b
  | .ge => if x < y then b else a
  | .gt => if y < x then a else b
  | .le => if y < x then b else a
def zfill {M : Type} (wr : M → Int → Int → Int → M) (m : M) (a : Int) (f : Int → Int) : Nat → M
  | 0 => m
  | n + 1 => wr (zfill wr m a f n) a n (f n)
end
/-- the tag of an element of an array of references, by the array's code -/
def zet (c : Int) : Int × Int := if c = 30 then (2, 2) else if c = 31 then (6, 1) else if c = 34 then (40, 0) else (22, 4096)
section
variable {α M : Type} (ph : Bool) (K : Int → Int × Int) (R : Int → Int → Int) (rd : M → Int → Int → Int) (wr : M → Int → Int → Int → M) (cp : M → Int → Int → Int → Int → Int → Option M)
  (kn : Nat → List zV → List zV → M → α) (kc : Nat → List zV → M → Nat → Int → Int → Nat → List zV → List zV → α) (kr : Int → M → α) (kf : α)
def zretI (k : Nat) (x : Int) (m : M) : α := match k with
  | 1 => kr x m
  | 4 => if 0 ≤ x ∧ x ≤ 1 then kr x m else kf
  | 5 => if 0 ≤ x ∧ x ≤ 65535 then kr x m else kf
  | _ => if -128 ≤ x ∧ x ≤ 127 then kr x m else kf
def zgetf (c k ty : Nat) (c2 n2 : Int) (a : Int) (m : M) (f : zV → α) : α := match ty with
  | 1 => f (zI (rd m a k))
  | 2 => f (zJ (rd m a k))
  | 3 => match ph with
    | true => f (zA c2 n2 (R a k))
    | false => if rd m a k = 1 then f (zA c2 n2 (R a k)) else kf
  | 4 => f (zI (R a k))
  | _ => f (zA c2 n2 (R a k))
def zputf (c k ty : Nat) (c2 n2 : Int) (st : List zV) (m : M) (f : List zV → M → α) : α := match ty with
  | 1 => match st with
    | .inl x :: .inr (.inr (.inl (c', _, a))) :: st => if c' = c then f st (wr m a k x) else kf
    | _ => kf
  | 2 => match st with
    | .inr (.inl x) :: .inr (.inr (.inl (c', _, a))) :: st => if c' = c then f st (wr m a k x) else kf
    | _ => kf
  | 6 => match st with
    | .inl x :: .inr (.inr (.inl (c', _, a))) :: st => if c' = c ∧ 0 ≤ x ∧ x ≤ 1 then f st (wr m a k x) else kf
    | _ => kf
  | _ => match ph with
    | true => kf
    | false => match st with
      | .inr (.inr (.inl (c3, n3, b))) :: .inr (.inr (.inl (c', _, a))) :: st => if c' = c ∧ c3 = c2 ∧ n3 = n2 ∧ b = R a k then f st (wr m a k 1) else kf
      | _ => kf
def zinvoke (an : List Nat) (az : List Int) (pc : Nat) (ls st : List zV) (m : M) : α := match an with
  | [_, y, n, k] => match az with
    | [c2, n2] => if zcats (st.drop n) ≤ 8 ∧ n ≤ st.length then kc y (st.take n).reverse m k c2 n2 (pc + 1) ls (st.drop n) else kf
    | _ => kf
  | _ => kf
/-- the receiver of a call has the class that the entry names -/
def zrecv (c : Int) (n : Nat) (st : List zV) (a : α) : α := match znth st (n - 1) with
  | some (.inr (.inr (.inl (c', _, _)))) => if c' = c then a else kf
  | _ => kf
def zstp (pc : Nat) (ls st : List zV) (m : M) (i : Jvm.ClassFile.Instr) (an : List Nat) (az : List Int) : α := match i with
  | .iconst n => kn (pc + 1) ls (zI n :: st) m
  | .bipush n => kn (pc + 1) ls (zI n :: st) m
  | .sipush n => kn (pc + 1) ls (zI n :: st) m
  | .lconst n => kn (pc + 1) ls (zJ (n.val : Nat) :: st) m
  | .ldc _ => match an, az with
    | [_, 0], [v] => kn (pc + 1) ls (zI v :: st) m
    | [_, 1], [a] => kn (pc + 1) ls (zA 40 0 a :: st) m
    | _, _ => kf
  | .ldc_w _ => match an, az with
    | [_, 0], [v] => kn (pc + 1) ls (zI v :: st) m
    | _, _ => kf
  | .ldc2_w _ => match az with
    | [v] => kn (pc + 1) ls (zJ v :: st) m
    | _ => kf
  | .iload n => match znth ls n with
    | some (.inl x) => kn (pc + 1) ls (zI x :: st) m
    | _ => kf
  | .iload_n n => match znth ls n.val with
    | some (.inl x) => kn (pc + 1) ls (zI x :: st) m
    | _ => kf
  | .lload n => match znth ls n with
    | some (.inr (.inl x)) => kn (pc + 1) ls (zJ x :: st) m
    | _ => kf
  | .lload_n n => match znth ls n.val with
    | some (.inr (.inl x)) => kn (pc + 1) ls (zJ x :: st) m
    | _ => kf
  | .aload n => match znth ls n with
    | some (.inr (.inr (.inl q))) => kn (pc + 1) ls (.inr (.inr (.inl q)) :: st) m
    | _ => kf
  | .aload_n n => match znth ls n.val with
    | some (.inr (.inr (.inl q))) => kn (pc + 1) ls (.inr (.inr (.inl q)) :: st) m
    | _ => kf
  | .istore n => zi1 kf st fun x st => if n < ls.length then kn (pc + 1) (zst1 ls n (zI x)) st m else kf
  | .istore_n n => zi1 kf st fun x st => if n.val < ls.length then kn (pc + 1) (zst1 ls n.val (zI x)) st m else kf
  | .lstore n => zj1 kf st fun x st => if n + 1 < ls.length then kn (pc + 1) (zst2 ls n (zJ x)) st m else kf
  | .lstore_n n => zj1 kf st fun x st => if n.val + 1 < ls.length then kn (pc + 1) (zst2 ls n.val (zJ x)) st m else kf
  | .astore n => zr1 kf st fun c k a st => if n < ls.length then kn (pc + 1) (zst1 ls n (zA c k a)) st m else kf
  | .astore_n n => zr1 kf st fun c k a st => if n.val < ls.length then kn (pc + 1) (zst1 ls n.val (zA c k a)) st m else kf
  | .iinc n v => match znth ls n with
    | some (.inl x) => kn (pc + 1) (zst1 ls n (zI (zw32 (x + v)))) st m
    | _ => kf
  | .iadd => zi2 kf st fun x y st => kn (pc + 1) ls (zI (zw32 (x + y)) :: st) m
  | .isub => zi2 kf st fun x y st => kn (pc + 1) ls (zI (zw32 (x - y)) :: st) m
  | .imul => zi2 kf st fun x y st => kn (pc + 1) ls (zI (zw32 (x * y)) :: st) m
  | .idiv => zi2 kf st fun x y st => if y = 0 then kf else kn (pc + 1) ls (zI (zw32 (x.tdiv y)) :: st) m
  | .irem => zi2 kf st fun x y st => if y = 0 then kf else kn (pc + 1) ls (zI (x.tmod y) :: st) m
  | .ineg => zi1 kf st fun x st => kn (pc + 1) ls (zI (zw32 (-x)) :: st) m
  | .iand => zi2 kf st fun x y st => kn (pc + 1) ls (zI (zand x y) :: st) m
  | .ior => zi2 kf st fun x y st => kn (pc + 1) ls (zI (zor x y) :: st) m
  | .ixor => zi2 kf st fun x y st => kn (pc + 1) ls (zI (zxor x y) :: st) m
  | .ishl => zi2 kf st fun x y st => kn (pc + 1) ls (zI (zshl x y) :: st) m
  | .ishr => zi2 kf st fun x y st => kn (pc + 1) ls (zI (zshr x y) :: st) m
  | .iushr => zi2 kf st fun x y st => kn (pc + 1) ls (zI (zushr x y) :: st) m
  | .ladd => zj2 kf st fun x y st => kn (pc + 1) ls (zJ (zw64 (x + y)) :: st) m
  | .lsub => zj2 kf st fun x y st => kn (pc + 1) ls (zJ (zw64 (x - y)) :: st) m
  | .lmul => zj2 kf st fun x y st => kn (pc + 1) ls (zJ (zw64 (x * y)) :: st) m
  | .ldiv => zj2 kf st fun x y st => if y = 0 then kf else kn (pc + 1) ls (zJ (zw64 (x.tdiv y)) :: st) m
  | .lrem => zj2 kf st fun x y st => if y = 0 then kf else kn (pc + 1) ls (zJ (x.tmod y) :: st) m
  | .lneg => zj1 kf st fun x st => kn (pc + 1) ls (zJ (zw64 (-x)) :: st) m
  | .land => zj2 kf st fun x y st => kn (pc + 1) ls (zJ (zandL x y) :: st) m
  | .lor => zj2 kf st fun x y st => kn (pc + 1) ls (zJ (zorL x y) :: st) m
  | .lxor => zj2 kf st fun x y st => kn (pc + 1) ls (zJ (zxorL x y) :: st) m
  | .lshl => zji kf st fun x y st => kn (pc + 1) ls (zJ (zshlL x y) :: st) m
  | .lushr => zji kf st fun x y st => kn (pc + 1) ls (zJ (zushrL x y) :: st) m
  | .lcmp => zj2 kf st fun x y st => kn (pc + 1) ls (zI (zcmp x y) :: st) m
  | .i2l => zi1 kf st fun x st => kn (pc + 1) ls (zJ x :: st) m
  | .l2i => zj1 kf st fun x st => kn (pc + 1) ls (zI (zw32 x) :: st) m
  | .i2b => zi1 kf st fun x st => kn (pc + 1) ls (zI (zw8 x) :: st) m
  | .i2s => zi1 kf st fun x st => kn (pc + 1) ls (zI (zw16 x) :: st) m
  | .i2c => zi1 kf st fun x st => kn (pc + 1) ls (zI (x % 65536) :: st) m
  | .dup => match st with
    | .inl x :: st => kn (pc + 1) ls (zI x :: zI x :: st) m
    | .inr (.inr x) :: st => kn (pc + 1) ls (.inr (.inr x) :: .inr (.inr x) :: st) m
    | _ => kf
  | .dup2 => match st with
    | .inl x :: .inr (.inr (.inl q)) :: st => kn (pc + 1) ls (zI x :: .inr (.inr (.inl q)) :: zI x :: .inr (.inr (.inl q)) :: st) m
    | .inr (.inl x) :: st => kn (pc + 1) ls (zJ x :: zJ x :: st) m
    | _ => kf
  | .pop => match st with
    | .inl _ :: st => kn (pc + 1) ls st m
    | .inr (.inr _) :: st => kn (pc + 1) ls st m
    | _ => kf
  | .goto _ => match an with
    | [t] => kn t ls st m
    | _ => kf
  | .ifCond c _ => match an with
    | [t] => zi1 kf st fun x st => zcond c x 0 (kn t ls st m) (kn (pc + 1) ls st m)
    | _ => kf
  | .if_icmp c _ => match an with
    | [t] => zi2 kf st fun x y st => zcond c x y (kn t ls st m) (kn (pc + 1) ls st m)
    | _ => kf
  | .tableswitch _ lo _ _ => match an with
    | d :: ts => zi1 kf st fun x st => zsw x (fun t => kn t ls st m) d lo ts
    | _ => kf
  | .lookupswitch _ _ => match an with
    | d :: ts => zi1 kf st fun x st => zlk x (fun t => kn t ls st m) d az ts
    | _ => kf
  | .getfield _ => match an with
    | [_, c, k, ty] => match az with
      | [c2, n2] => zr1 kf st fun c' _ a st => if c' = c then zgetf ph R rd kf c k ty c2 n2 a m (fun v => kn (pc + 1) ls (v :: st) m) else kf
      | _ => kf
    | _ => kf
  | .putfield _ => match an with
    | [_, c, k, ty] => match az with
      | [c2, n2] => zputf ph R wr kf c k ty c2 n2 st m (fun st m => kn (pc + 1) ls st m)
      | _ => kf
    | _ => kf
  | .getstatic _ => match an, az with
    | [_, 0], [c, n, a] => kn (pc + 1) ls (zA c n a :: st) m
    | [_, 1], [v] => kn (pc + 1) ls (zI v :: st) m
    | [_, 2], _ => kn (pc + 1) ls (zU :: st) m
    | _, _ => kf
  | .iaload => zri kf st fun c n a i st => if 0 ≤ i ∧ i < n then if c = 20 then kn (pc + 1) ls (zI (rd m a i) :: st) m else if c = 23 then kn (pc + 1) ls (zI (R a i) :: st) m else kf else kf
  | .baload => zri kf st fun c n a i st => if c = 22 then if 0 ≤ i ∧ i < n then kn (pc + 1) ls (zI (rd m a i) :: st) m else kf else if c = 24 then if 0 ≤ i ∧ i < R a (-1) then kn (pc + 1) ls (zI (R a i) :: st) m else kf else kf
  | .laload => zri kf st fun c n a i st => if 0 ≤ i ∧ i < n then if c = 21 then kn (pc + 1) ls (zJ (rd m a i) :: st) m else kf else kf
  | .aaload => zri kf st fun c n a i st => if 0 ≤ i ∧ i < n then if c = 33 then kn (pc + 1) ls (zA 22 4096 (rd m a i) :: st) m else if 30 ≤ c ∧ c ≤ 34 then match ph with
      | true => kn (pc + 1) ls (zA (zet c).1 (zet c).2 (R a i) :: st) m
      | false => if rd m a i = 1 then kn (pc + 1) ls (zA (zet c).1 (zet c).2 (R a i) :: st) m else kf
    else kf else kf
  | .iastore => zrii kf st fun c n a i x st => if 0 ≤ i ∧ i < n then if c = 20 then kn (pc + 1) ls st (wr m a i x) else kf else kf
  | .bastore => zrii kf st fun c n a i x st => if 0 ≤ i ∧ i < n then if c = 22 then kn (pc + 1) ls st (wr m a i (x % 2)) else kf else kf
  | .lastore => zrij kf st fun c n a i x st => if 0 ≤ i ∧ i < n then if c = 21 then kn (pc + 1) ls st (wr m a i x) else kf else kf
  | .aastore => zrir kf st fun c n a i c2 n2 x st => if 0 ≤ i ∧ i < n then if c = 33 then if c2 = 22 ∧ n2 = 4096 then kn (pc + 1) ls st (wr m a i x) else kf else match ph with
      | true => kf
      | false => if (c = 30 ∨ c = 31 ∨ c = 34) ∧ c2 = (zet c).1 ∧ n2 = (zet c).2 ∧ x = R a i then kn (pc + 1) ls st (wr m a i 1) else kf
    else kf
  | .arraylength => zr1 kf st fun c n a st => if c = 24 then kn (pc + 1) ls (zI (R a (-1)) :: st) m else if 20 ≤ c ∧ c ≤ 34 then kn (pc + 1) ls (zI n :: st) m else kf
  | .new _ => match ph, an with
    | false, [_, c, n] => if K (rd m 0 0) = ((c : Int), (n : Int)) then kn (pc + 1) ls (zA c n (rd m 0 0) :: st) (wr m 0 0 (rd m 0 0 + 1)) else kf
    | _, _ => kf
  | .newarray _ => match ph, an with
    | false, [c] => zi1 kf st fun x st => if K (rd m 0 0) = ((c : Int), x) then kn (pc + 1) ls (zA c x (rd m 0 0) :: st) (wr m 0 0 (rd m 0 0 + 1)) else kf
    | _, _ => kf
  | .anewarray _ => match ph, an with
    | false, [_, c] => zi1 kf st fun x st => if K (rd m 0 0) = ((c : Int), x) then kn (pc + 1) ls (zA c x (rd m 0 0) :: st) (wr m 0 0 (rd m 0 0 + 1)) else kf
    | _, _ => kf
  | .multianewarray _ _ => match ph, an with
    | false, [_, c] => zi2 kf st fun x y st => if K (rd m 0 0) = ((c : Int), x) ∧ (List.range x.toNat).all (fun j => decide (K (rd m 0 0 + 1 + (j : Nat)) = (22, y)) && (c == 33 || decide (R (rd m 0 0) (j : Nat) = rd m 0 0 + 1 + (j : Nat)))) = true then
        kn (pc + 1) ls (zA c x (rd m 0 0) :: st) (wr (zfill wr m (rd m 0 0) (fun j => if c = 33 then rd m 0 0 + 1 + j else 1) x.toNat) 0 0 (rd m 0 0 + 1 + x)) else kf
    | _, _ => kf
  | .invokevirtual _ => match an, az with
    | [e, y, n, k], [c2, n2, c] => zrecv kf c n st (zinvoke kc kf [e, y, n, k] [c2, n2] pc ls st m)
    | _, _ => kf
  | .invokespecial _ => match an, az with
    | [9999], _ => zr1 kf st fun _ _ _ st => if zcats st ≤ 8 then kn (pc + 1) ls st m else kf
    | [e, y, n, 0], [c2, n2, c] => zrecv kf c n st (zinvoke kc kf [e, y, n, 0] [c2, n2] pc ls st m)
    | _, _ => kf
  | .invokestatic _ => match an, az with
    | [9998], _ => match st with
      | .inl n :: .inl dp :: .inr (.inr (.inl (c2, n2, b))) :: .inl sp :: .inr (.inr (.inl (c1, n1, a))) :: st =>
        if c1 = c2 ∧ (c1 = 20 ∨ c1 = 21) ∧ 0 ≤ n ∧ 0 ≤ sp ∧ 0 ≤ dp ∧ sp + n ≤ n1 ∧ dp + n ≤ n2 ∧ zcats st ≤ 8 then match cp m a sp b dp n with
          | some m => kn (pc + 1) ls st m
          | none => kf
        else kf
      | _ => kf
    | [e, y, n, k], [c2, n2] => zinvoke kc kf [e, y, n, k] [c2, n2] pc ls st m
    | _, _ => kf
  | .ireturn => match an with
    | [k] => zi1 kf st fun x st => match st with
      | [] => zretI kr kf k x m
      | _ => kf
    | _ => kf
  | .lreturn => zj1 kf st fun x st => match st with
      | [] => kr x m
      | _ => kf
  | .areturn => match az with
    | [c2, n2] => zr1 kf st fun c n a st => match st with
      | [] => if c = c2 ∧ n = n2 then kr a m else kf
      | _ => kf
    | _ => kf
  | .return_ => match st with
    | [] => kr 0 m
    | _ => kf
  | _ => kf
end
end
section
/-! Runs: fuel function zex, its limit zden, the unfolding equation, and 'zunr' (many instructions at once, up to cut points) -/
abbrev zKN (M : Type) (α : Type) : Type := Nat → List zV → List zV → M → α
abbrev zKC (M : Type) (α : Type) : Type := Nat → List zV → M → Nat → Int → Int → Nat → List zV → List zV → α
abbrev zAct (M : Type) : Type := (Nat × List zV × List zV × M) ⊕ ((Nat × List zV × M × Nat × Int × Int × Nat × List zV × List zV) ⊕ ((Int × M) ⊕ Unit))
def zint {M α : Type} (act : zAct M) (kn : zKN M α) (kc : zKC M α) (kr : Int → M → α) (kf : α) : α := match act with
  | .inl (pc, ls, st, m) => kn pc ls st m
  | .inr (.inl (y, as, m, k, c2, n2, pc, ls, st)) => kc y as m k c2 n2 pc ls st
  | .inr (.inr (.inl (x, m))) => kr x m
  | .inr (.inr (.inr _)) => kf
/-- what is one of the four ends, and the same one for all continuations -/
def zGood {M : Type} (F : ∀ α : Type, zKN M α → zKC M α → (Int → M → α) → α → α) : Prop := ∃ act : zAct M, ∀ (α : Type) (kn : zKN M α) (kc : zKC M α) (kr : Int → M → α) (kf : α), F α kn kc kr kf = zint act kn kc kr kf
theorem zg_kn {M : Type} (pc : Nat) (ls st : List zV) (m : M) : zGood (fun α kn (_ : zKC M α) _ _ => kn pc ls st m) := ⟨.inl (pc, ls, st, m), fun _ _ _ _ _ => rfl⟩
theorem zg_kc {M : Type} (y : Nat) (as : List zV) (m : M) (k : Nat) (c2 n2 : Int) (pc : Nat) (ls st : List zV) : zGood (fun α (_ : zKN M α) kc _ _ => kc y as m k c2 n2 pc ls st) := ⟨.inr (.inl (y, as, m, k, c2, n2, pc, ls, st)), fun _ _ _ _ _ => rfl⟩
theorem zg_kr {M : Type} (x : Int) (m : M) : zGood (fun α (_ : zKN M α) (_ : zKC M α) kr _ => kr x m) := ⟨.inr (.inr (.inl (x, m))), fun _ _ _ _ _ => rfl⟩
theorem zg_kf {M : Type} : zGood (fun α (_ : zKN M α) (_ : zKC M α) (_ : Int → M → α) kf => kf) := ⟨.inr (.inr (.inr ())), fun _ _ _ _ _ => rfl⟩
theorem zg_ite {M : Type} {F G : ∀ α : Type, zKN M α → zKC M α → (Int → M → α) → α → α} (c : Prop) {h : Decidable c} (hF : zGood F) (hG : zGood G) : zGood (fun α kn kc kr kf => @ite α c h (F α kn kc kr kf) (G α kn kc kr kf)) := by
  by_cases q : c
  · obtain ⟨act, ha⟩ := hF
    exact ⟨act, fun α kn kc kr kf => (if_pos q).trans (ha α kn kc kr kf)⟩
  · obtain ⟨act, ha⟩ := hG
    exact ⟨act, fun α kn kc kr kf => (if_neg q).trans (ha α kn kc kr kf)⟩
section
variable {M : Type} (F1 : ∀ α : Type, zKN M α → zKC M α → (Int → M → α) → α → Int → List zV → α)
theorem zg_i1 (st : List zV) (h : ∀ x s, zGood (fun α kn kc kr kf => F1 α kn kc kr kf x s)) : zGood (fun α kn kc kr kf => zi1 kf st (F1 α kn kc kr kf)) := by
  rcases st with _ | ⟨(x | x), s⟩
  · exact zg_kf
  · exact h x s
  · exact zg_kf
theorem zg_j1 (st : List zV) (h : ∀ x s, zGood (fun α kn kc kr kf => F1 α kn kc kr kf x s)) : zGood (fun α kn kc kr kf => zj1 kf st (F1 α kn kc kr kf)) := by
  rcases st with _ | ⟨(x | (x | x)), s⟩
  · exact zg_kf
  · exact zg_kf
  · exact h x s
  · exact zg_kf
variable (F2 : ∀ α : Type, zKN M α → zKC M α → (Int → M → α) → α → Int → Int → List zV → α)
theorem zg_i2 (st : List zV) (h : ∀ x y s, zGood (fun α kn kc kr kf => F2 α kn kc kr kf x y s)) : zGood (fun α kn kc kr kf => zi2 kf st (F2 α kn kc kr kf)) := by
  rcases st with _ | ⟨(x | x), _ | ⟨(y | y), s⟩⟩
  · exact zg_kf
  · exact zg_kf
  · exact h y x s
  · exact zg_kf
  · exact zg_kf
  · exact zg_kf
  · exact zg_kf
theorem zg_j2 (st : List zV) (h : ∀ x y s, zGood (fun α kn kc kr kf => F2 α kn kc kr kf x y s)) : zGood (fun α kn kc kr kf => zj2 kf st (F2 α kn kc kr kf)) := by
  rcases st with _ | ⟨(x | (x | x)), _ | ⟨(y | (y | y)), s⟩⟩
  all_goals first | exact h y x s | exact zg_kf
theorem zg_ji (st : List zV) (h : ∀ x y s, zGood (fun α kn kc kr kf => F2 α kn kc kr kf x y s)) : zGood (fun α kn kc kr kf => zji kf st (F2 α kn kc kr kf)) := by
  rcases st with _ | ⟨(x | (x | x)), _ | ⟨(y | (y | y)), s⟩⟩
  all_goals first | exact h y x s | exact zg_kf
variable (F3 : ∀ α : Type, zKN M α → zKC M α → (Int → M → α) → α → Int → Int → Int → List zV → α)
theorem zg_r1 (st : List zV) (h : ∀ x y z s, zGood (fun α kn kc kr kf => F3 α kn kc kr kf x y z s)) : zGood (fun α kn kc kr kf => zr1 kf st (F3 α kn kc kr kf)) := by
  rcases st with _ | ⟨(x | (x | (⟨x, y, z⟩ | x))), s⟩
  all_goals first | exact h x y z s | exact zg_kf
variable (F4 : ∀ α : Type, zKN M α → zKC M α → (Int → M → α) → α → Int → Int → Int → Int → List zV → α)
theorem zg_ri (st : List zV) (h : ∀ x y z i s, zGood (fun α kn kc kr kf => F4 α kn kc kr kf x y z i s)) : zGood (fun α kn kc kr kf => zri kf st (F4 α kn kc kr kf)) := by
  rcases st with _ | ⟨(i | i), _ | ⟨(x | (x | (⟨x, y, z⟩ | x))), s⟩⟩
  all_goals first | exact h x y z i s | exact zg_kf
variable (F5 : ∀ α : Type, zKN M α → zKC M α → (Int → M → α) → α → Int → Int → Int → Int → Int → List zV → α)
theorem zg_rii (st : List zV) (h : ∀ x y z i v s, zGood (fun α kn kc kr kf => F5 α kn kc kr kf x y z i v s)) : zGood (fun α kn kc kr kf => zrii kf st (F5 α kn kc kr kf)) := by
  rcases st with _ | ⟨(v | v), _ | ⟨(i | i), _ | ⟨(x | (x | (⟨x, y, z⟩ | x))), s⟩⟩⟩
  all_goals first | exact h x y z i v s | exact zg_kf
theorem zg_rij (st : List zV) (h : ∀ x y z i v s, zGood (fun α kn kc kr kf => F5 α kn kc kr kf x y z i v s)) : zGood (fun α kn kc kr kf => zrij kf st (F5 α kn kc kr kf)) := by
  rcases st with _ | ⟨(v | (v | v)), _ | ⟨(i | i), _ | ⟨(x | (x | (⟨x, y, z⟩ | x))), s⟩⟩⟩
  all_goals first | exact h x y z i v s | exact zg_kf
variable (F7 : ∀ α : Type, zKN M α → zKC M α → (Int → M → α) → α → Int → Int → Int → Int → Int → Int → Int → List zV → α)
theorem zg_rir (st : List zV) (h : ∀ x y z i c n v s, zGood (fun α kn kc kr kf => F7 α kn kc kr kf x y z i c n v s)) : zGood (fun α kn kc kr kf => zrir kf st (F7 α kn kc kr kf)) := by
  rcases st with _ | ⟨(v | (v | (⟨c, n, v⟩ | v))), _ | ⟨(i | i), _ | ⟨(x | (x | (⟨x, y, z⟩ | x))), s⟩⟩⟩
  all_goals first | exact h x y z i c n v s | exact zg_kf
variable (G1 : ∀ α : Type, zKN M α → zKC M α → (Int → M → α) → α → Nat → α)
theorem zg_sw (x : Int) (d : Nat) (h : ∀ t, zGood (fun α kn kc kr kf => G1 α kn kc kr kf t)) : ∀ (ts : List Nat) (v : Int), zGood (fun α kn kc kr kf => zsw x (G1 α kn kc kr kf) d v ts)
  | [], _ => h d
  | t :: r, v => zg_ite (x = v) (h t) (zg_sw x d h r (v + 1))
theorem zg_lk (x : Int) (d : Nat) (h : ∀ t, zGood (fun α kn kc kr kf => G1 α kn kc kr kf t)) : ∀ (ts : List Nat) (vs : List Int), zGood (fun α kn kc kr kf => zlk x (G1 α kn kc kr kf) d vs ts)
  | _, [] => h d
  | [], _ :: _ => h d
  | t :: r, v :: vs => zg_ite (x = v) (h t) (zg_lk x d h r vs)
theorem zg_cond (c : Jvm.ClassFile.Cond) (x y : Int) {F G : ∀ α : Type, zKN M α → zKC M α → (Int → M → α) → α → α} (hF : zGood F) (hG : zGood G) : zGood (fun α kn kc kr kf => zcond c x y (F α kn kc kr kf) (G α kn kc kr kf)) := by
  cases c <;> first | exact zg_ite _ hF hG | exact zg_ite _ hG hF
end
section
variable {M : Type} (ph : Bool) (K : Int → Int × Int) (R : Int → Int → Int) (rd : M → Int → Int → Int) (wr : M → Int → Int → Int → M) (cp : M → Int → Int → Int → Int → Int → Option M)
theorem zg_retI (k : Nat) (x : Int) (m : M) : zGood (fun α (_ : zKN M α) (_ : zKC M α) kr kf => zretI kr kf k x m) := by
  unfold zretI
  split <;> (repeat' first | with_reducible exact zg_kn _ _ _ _ | with_reducible exact zg_kf | with_reducible exact zg_kr _ _ | with_reducible exact zg_kc _ _ _ _ _ _ _ _ _ | with_reducible refine zg_ite _ ?_ ?_)
theorem zg_getf (c k ty : Nat) (c2 n2 a : Int) (m : M) (pc : Nat) (ls st : List zV) : zGood (fun α kn (_ : zKC M α) _ kf => zgetf ph R rd kf c k ty c2 n2 a m (fun v => kn (pc + 1) ls (v :: st) m)) := by
  rcases ty with _ | _ | _ | _ | _ | ty <;> cases ph <;> first | exact zg_kn _ _ _ _ | exact zg_ite _ (zg_kn _ _ _ _) zg_kf
theorem zg_putf (c k ty : Nat) (c2 n2 : Int) (m : M) (pc : Nat) (ls st : List zV) : zGood (fun α kn (_ : zKC M α) _ kf => zputf ph R wr kf c k ty c2 n2 st m (fun st m => kn (pc + 1) ls st m)) := by
  rcases ty with _ | _ | _ | _ | _ | _ | _ | ty <;> rcases st with _ | ⟨(v | (v | (⟨c3, n3, v⟩ | v))), _ | ⟨(x | (x | (⟨x, y, z⟩ | x))), s⟩⟩ <;> cases ph <;> first | exact zg_kf | exact zg_ite _ (zg_kn _ _ _ _) zg_kf
theorem zg_invoke (an : List Nat) (az : List Int) (pc : Nat) (ls st : List zV) (m : M) : zGood (fun α (_ : zKN M α) kc _ kf => zinvoke kc kf an az pc ls st m) := by
  unfold zinvoke
  rcases an with _ | ⟨a1, _ | ⟨a2, _ | ⟨a3, _ | ⟨a4, _ | ⟨a5, an⟩⟩⟩⟩⟩ <;> rcases az with _ | ⟨b1, _ | ⟨b2, _ | ⟨b3, az⟩⟩⟩ <;> dsimp only <;> (repeat' first | with_reducible exact zg_kn _ _ _ _ | with_reducible exact zg_kf | with_reducible exact zg_kr _ _ | with_reducible exact zg_kc _ _ _ _ _ _ _ _ _ | with_reducible refine zg_ite _ ?_ ?_)
theorem zg_recv (c : Int) (n : Nat) (st : List zV) {F : ∀ α : Type, zKN M α → zKC M α → (Int → M → α) → α → α} (h : zGood F) : zGood (fun α kn kc kr kf => zrecv kf c n st (F α kn kc kr kf)) := by
  unfold zrecv
  generalize znth st (n - 1) = o
  rcases o with _ | (x | (x | (⟨c', n', a⟩ | x))) <;> dsimp only
  · exact zg_kf
  · exact zg_kf
  · exact zg_kf
  · exact zg_ite _ h zg_kf
  · exact zg_kf
set_option maxHeartbeats 4000000 in
theorem zstp_good (pc : Nat) (ls st : List zV) (m : M) (i : Jvm.ClassFile.Instr) (an : List Nat) (az : List Int) : zGood (fun α kn kc kr kf => zstp ph K R rd wr cp kn kc kr kf pc ls st m i an az) := by
  cases i
  case iconst n => exact zg_kn _ _ _ _
  case bipush n => exact zg_kn _ _ _ _
  case sipush n => exact zg_kn _ _ _ _
  case lconst n => exact zg_kn _ _ _ _
  case iload n =>
    dsimp only [zstp]
    generalize znth ls n = o
    rcases o with _ | (x | (x | (q | x))) <;> dsimp only <;> first | exact zg_kn _ _ _ _ | exact zg_kf
  case iload_n n =>
    dsimp only [zstp]
    generalize znth ls n.val = o
    rcases o with _ | (x | (x | (q | x))) <;> dsimp only <;> first | exact zg_kn _ _ _ _ | exact zg_kf
  case lload n =>
    dsimp only [zstp]
    generalize znth ls n = o
    rcases o with _ | (x | (x | (q | x))) <;> dsimp only <;> first | exact zg_kn _ _ _ _ | exact zg_kf
  case lload_n n =>
    dsimp only [zstp]
    generalize znth ls n.val = o
    rcases o with _ | (x | (x | (q | x))) <;> dsimp only <;> first | exact zg_kn _ _ _ _ | exact zg_kf
  case aload n =>
    dsimp only [zstp]
    generalize znth ls n = o
    rcases o with _ | (x | (x | (q | x))) <;> dsimp only <;> first | exact zg_kn _ _ _ _ | exact zg_kf
  case aload_n n =>
    dsimp only [zstp]
    generalize znth ls n.val = o
    rcases o with _ | (x | (x | (q | x))) <;> dsimp only <;> first | exact zg_kn _ _ _ _ | exact zg_kf
  case iinc n v =>
    dsimp only [zstp]
    generalize znth ls n = o
    rcases o with _ | (x | (x | (q | x))) <;> dsimp only <;> first | exact zg_kn _ _ _ _ | exact zg_kf
  case istore n => exact zg_i1 _ _ fun x s => zg_ite _ (zg_kn _ _ _ _) zg_kf
  case istore_n n => exact zg_i1 _ _ fun x s => zg_ite _ (zg_kn _ _ _ _) zg_kf
  case lstore n => exact zg_j1 _ _ fun x s => zg_ite _ (zg_kn _ _ _ _) zg_kf
  case lstore_n n => exact zg_j1 _ _ fun x s => zg_ite _ (zg_kn _ _ _ _) zg_kf
  case astore n => exact zg_r1 _ _ fun x y z s => zg_ite _ (zg_kn _ _ _ _) zg_kf
  case astore_n n => exact zg_r1 _ _ fun x y z s => zg_ite _ (zg_kn _ _ _ _) zg_kf
  case iadd => exact zg_i2 _ _ fun x y s => zg_kn _ _ _ _
  case isub => exact zg_i2 _ _ fun x y s => zg_kn _ _ _ _
  case imul => exact zg_i2 _ _ fun x y s => zg_kn _ _ _ _
  case iand => exact zg_i2 _ _ fun x y s => zg_kn _ _ _ _
  case ior => exact zg_i2 _ _ fun x y s => zg_kn _ _ _ _
  case ixor => exact zg_i2 _ _ fun x y s => zg_kn _ _ _ _
  case ishl => exact zg_i2 _ _ fun x y s => zg_kn _ _ _ _
  case ishr => exact zg_i2 _ _ fun x y s => zg_kn _ _ _ _
  case iushr => exact zg_i2 _ _ fun x y s => zg_kn _ _ _ _
  case idiv => exact zg_i2 _ _ fun x y s => zg_ite _ zg_kf (zg_kn _ _ _ _)
  case irem => exact zg_i2 _ _ fun x y s => zg_ite _ zg_kf (zg_kn _ _ _ _)
  case ladd => exact zg_j2 _ _ fun x y s => zg_kn _ _ _ _
  case lsub => exact zg_j2 _ _ fun x y s => zg_kn _ _ _ _
  case lmul => exact zg_j2 _ _ fun x y s => zg_kn _ _ _ _
  case land => exact zg_j2 _ _ fun x y s => zg_kn _ _ _ _
  case lor => exact zg_j2 _ _ fun x y s => zg_kn _ _ _ _
  case lxor => exact zg_j2 _ _ fun x y s => zg_kn _ _ _ _
  case lcmp => exact zg_j2 _ _ fun x y s => zg_kn _ _ _ _
  case ldiv => exact zg_j2 _ _ fun x y s => zg_ite _ zg_kf (zg_kn _ _ _ _)
  case lrem => exact zg_j2 _ _ fun x y s => zg_ite _ zg_kf (zg_kn _ _ _ _)
  case ineg => exact zg_i1 _ _ fun x s => zg_kn _ _ _ _
  case i2l => exact zg_i1 _ _ fun x s => zg_kn _ _ _ _
  case i2b => exact zg_i1 _ _ fun x s => zg_kn _ _ _ _
  case i2s => exact zg_i1 _ _ fun x s => zg_kn _ _ _ _
  case i2c => exact zg_i1 _ _ fun x s => zg_kn _ _ _ _
  case lneg => exact zg_j1 _ _ fun x s => zg_kn _ _ _ _
  case l2i => exact zg_j1 _ _ fun x s => zg_kn _ _ _ _
  case lshl => exact zg_ji _ _ fun x y s => zg_kn _ _ _ _
  case lushr => exact zg_ji _ _ fun x y s => zg_kn _ _ _ _
  case dup => rcases st with _ | ⟨(x | (x | x)), s⟩ <;> first | exact zg_kn _ _ _ _ | exact zg_kf
  case pop => rcases st with _ | ⟨(x | (x | x)), s⟩ <;> first | exact zg_kn _ _ _ _ | exact zg_kf
  case dup2 => rcases st with _ | ⟨(x | (x | x)), _ | ⟨(y | (y | (q | y))), s⟩⟩ <;> first | exact zg_kn _ _ _ _ | exact zg_kf
  case goto o => rcases an with _ | ⟨a1, _ | ⟨a2, an⟩⟩ <;> first | exact zg_kn _ _ _ _ | exact zg_kf
  case ifCond c o => rcases an with _ | ⟨a1, _ | ⟨a2, an⟩⟩ <;> first | exact zg_kf | exact zg_i1 _ _ fun x s => zg_cond c x 0 (zg_kn _ _ _ _) (zg_kn _ _ _ _)
  case if_icmp c o => rcases an with _ | ⟨a1, _ | ⟨a2, an⟩⟩ <;> first | exact zg_kf | exact zg_i2 _ _ fun x y s => zg_cond c x y (zg_kn _ _ _ _) (zg_kn _ _ _ _)
  case tableswitch a lo b c => rcases an with _ | ⟨a1, an⟩ <;> first | exact zg_kf | exact zg_i1 _ _ fun x s => zg_sw _ x a1 (fun t => zg_kn _ _ _ _) an lo
  case lookupswitch a b => rcases an with _ | ⟨a1, an⟩ <;> first | exact zg_kf | exact zg_i1 _ _ fun x s => zg_lk _ x a1 (fun t => zg_kn _ _ _ _) an az
  case getfield o => rcases an with _ | ⟨a1, _ | ⟨a2, _ | ⟨a3, _ | ⟨a4, _ | ⟨a5, an⟩⟩⟩⟩⟩ <;> first | exact zg_kf | (rcases az with _ | ⟨b1, _ | ⟨b2, _ | ⟨b3, az⟩⟩⟩ <;> first | exact zg_kf | exact zg_r1 _ _ fun x y z s => zg_ite _ (zg_getf ph R rd _ _ _ _ _ _ _ _ _ _) zg_kf)
  case putfield o => rcases an with _ | ⟨a1, _ | ⟨a2, _ | ⟨a3, _ | ⟨a4, _ | ⟨a5, an⟩⟩⟩⟩⟩ <;> first | exact zg_kf | (rcases az with _ | ⟨b1, _ | ⟨b2, _ | ⟨b3, az⟩⟩⟩ <;> first | exact zg_kf | exact zg_putf ph R wr _ _ _ _ _ _ _ _ _)
  case getstatic o => rcases an with _ | ⟨a1, _ | ⟨(_ | _ | _ | a2), _ | ⟨a3, an⟩⟩⟩ <;> rcases az with _ | ⟨b1, _ | ⟨b2, _ | ⟨b3, _ | ⟨b4, az⟩⟩⟩⟩ <;> first | exact zg_kf | exact zg_kn _ _ _ _
  case ldc o => rcases an with _ | ⟨a1, _ | ⟨(_ | _ | a2), _ | ⟨a3, an⟩⟩⟩ <;> rcases az with _ | ⟨b1, _ | ⟨b2, az⟩⟩ <;> first | exact zg_kf | exact zg_kn _ _ _ _
  case ldc_w o => rcases an with _ | ⟨a1, _ | ⟨(_ | a2), _ | ⟨a3, an⟩⟩⟩ <;> rcases az with _ | ⟨b1, _ | ⟨b2, az⟩⟩ <;> first | exact zg_kf | exact zg_kn _ _ _ _
  case ldc2_w o => rcases az with _ | ⟨b1, _ | ⟨b2, az⟩⟩ <;> first | exact zg_kf | exact zg_kn _ _ _ _
  case iaload => exact zg_ri _ _ fun c n a i s => zg_ite _ (zg_ite _ (zg_kn _ _ _ _) (zg_ite _ (zg_kn _ _ _ _) zg_kf)) zg_kf
  case baload => exact zg_ri _ _ fun c n a i s => zg_ite _ (zg_ite _ (zg_kn _ _ _ _) zg_kf) (zg_ite _ (zg_ite _ (zg_kn _ _ _ _) zg_kf) zg_kf)
  case laload => exact zg_ri _ _ fun c n a i s => zg_ite _ (zg_ite _ (zg_kn _ _ _ _) zg_kf) zg_kf
  case aaload => cases ph <;> first | exact zg_ri _ _ fun c n a i s => zg_ite _ (zg_ite _ (zg_kn _ _ _ _) (zg_ite _ (zg_kn _ _ _ _) zg_kf)) zg_kf | exact zg_ri _ _ fun c n a i s => zg_ite _ (zg_ite _ (zg_kn _ _ _ _) (zg_ite _ (zg_ite _ (zg_kn _ _ _ _) zg_kf) zg_kf)) zg_kf
  case iastore => exact zg_rii _ _ fun c n a i x s => zg_ite _ (zg_ite _ (zg_kn _ _ _ _) zg_kf) zg_kf
  case bastore => exact zg_rii _ _ fun c n a i x s => zg_ite _ (zg_ite _ (zg_kn _ _ _ _) zg_kf) zg_kf
  case lastore => exact zg_rij _ _ fun c n a i x s => zg_ite _ (zg_ite _ (zg_kn _ _ _ _) zg_kf) zg_kf
  case aastore => cases ph <;> first | exact zg_rir _ _ fun c n a i c2 n2 x s => zg_ite _ (zg_ite _ (zg_ite _ (zg_kn _ _ _ _) zg_kf) zg_kf) zg_kf | exact zg_rir _ _ fun c n a i c2 n2 x s => zg_ite _ (zg_ite _ (zg_ite _ (zg_kn _ _ _ _) zg_kf) (zg_ite _ (zg_kn _ _ _ _) zg_kf)) zg_kf
  case arraylength => exact zg_r1 _ _ fun c n a s => zg_ite _ (zg_kn _ _ _ _) (zg_ite _ (zg_kn _ _ _ _) zg_kf)
  case new o => cases ph <;> rcases an with _ | ⟨a1, _ | ⟨a2, _ | ⟨a3, _ | ⟨a4, an⟩⟩⟩⟩ <;> first | exact zg_kf | exact zg_ite _ (zg_kn _ _ _ _) zg_kf
  case newarray o => cases ph <;> rcases an with _ | ⟨a1, _ | ⟨a2, an⟩⟩ <;> first | exact zg_kf | exact zg_i1 _ _ fun x s => zg_ite _ (zg_kn _ _ _ _) zg_kf
  case anewarray o => cases ph <;> rcases an with _ | ⟨a1, _ | ⟨a2, _ | ⟨a3, an⟩⟩⟩ <;> first | exact zg_kf | exact zg_i1 _ _ fun x s => zg_ite _ (zg_kn _ _ _ _) zg_kf
  case multianewarray o q => cases ph <;> rcases an with _ | ⟨a1, _ | ⟨a2, _ | ⟨a3, an⟩⟩⟩ <;> first | exact zg_kf | exact zg_i2 _ _ fun x y s => zg_ite _ (zg_kn _ _ _ _) zg_kf
  case invokevirtual o => rcases an with _ | ⟨a1, _ | ⟨a2, _ | ⟨a3, _ | ⟨a4, _ | ⟨a5, an⟩⟩⟩⟩⟩ <;> first | exact zg_kf | (rcases az with _ | ⟨b1, _ | ⟨b2, _ | ⟨b3, _ | ⟨b4, az⟩⟩⟩⟩ <;> first | exact zg_kf | exact zg_recv _ _ _ (zg_invoke _ _ _ _ _ _))
  case invokespecial o =>
    dsimp only [zstp]
    split
    · exact zg_r1 _ _ fun x y z s => zg_ite _ (zg_kn _ _ _ _) zg_kf
    · exact zg_recv _ _ _ (zg_invoke _ _ _ _ _ _)
    · exact zg_kf
  case invokestatic o =>
    dsimp only [zstp]
    split
    · rcases st with _ | ⟨(n | n), _ | ⟨(dp | dp), _ | ⟨(b | (b | (⟨c2, n2, b⟩ | b))), _ | ⟨(sp | sp), _ | ⟨(a | (a | (⟨c1, n1, a⟩ | a))), s⟩⟩⟩⟩⟩ <;> first
        | exact zg_kf
        | (dsimp only
           refine zg_ite _ ?_ zg_kf
           generalize cp m a sp b dp n = o
           rcases o with _ | m
           · exact zg_kf
           · exact zg_kn _ _ _ _)
    · exact zg_invoke _ _ _ _ _ _
    · exact zg_kf
  case ireturn =>
    rcases an with _ | ⟨a1, _ | ⟨a2, an⟩⟩ <;> first | exact zg_kf | (refine zg_i1 _ _ fun x s => ?_; rcases s with _ | ⟨b, s⟩ <;> first | exact zg_retI _ _ _ | exact zg_kf)
  case lreturn => exact zg_j1 _ _ fun x s => by rcases s with _ | ⟨b, s⟩ <;> first | exact zg_kr _ _ | exact zg_kf
  case areturn => rcases az with _ | ⟨b1, _ | ⟨b2, _ | ⟨b3, az⟩⟩⟩ <;> first | exact zg_kf | (refine zg_r1 _ _ fun x y z s => ?_; rcases s with _ | ⟨b, s⟩ <;> first | exact zg_ite _ (zg_kr _ _) zg_kf | exact zg_kf)
  case return_ => rcases st with _ | ⟨b, s⟩ <;> first | exact zg_kr _ _ | exact zg_kf
  all_goals exact zg_kf
theorem zstp_act (pc : Nat) (ls st : List zV) (m : M) (i : Jvm.ClassFile.Instr) (an : List Nat) (az : List Int) : ∃ act : zAct M, ∀ (α : Type) (kn : zKN M α) (kc : zKC M α) (kr : Int → M → α) (kf : α), zstp ph K R rd wr cp kn kc kr kf pc ls st m i an az = zint act kn kc kr kf := zstp_good ph K R rd wr cp pc ls st m i an az
end
def zex {M : Type} (ph : Bool) (K : Int → Int × Int) (R : Int → Int → Int) (P : Nat → Nat → Option (Jvm.ClassFile.Instr × List Nat × List Int)) (ml : Nat → Nat) (rd : M → Int → Int → Int) (wr : M → Int → Int → Int → M) (cp : M → Int → Int → Int → Int → Int → Option M) : Nat → Nat → Nat → Nat → List zV → List zV → M → Option (Int × M)
  | 0, _, _, _, _, _, _ => none
  | n + 1, d, y, pc, ls, st, m => match P y pc with
    | none => none
    | some q => zstp ph K R rd wr cp (fun pc ls st m => zex ph K R P ml rd wr cp n d y pc ls st m)
        (fun y' as m k c2 n2 pc ls st => match d with
          | 0 => none
          | d + 1 => (zex ph K R P ml rd wr cp n d y' 0 (zent (ml y') as) [] m).bind fun r => zex ph K R P ml rd wr cp n (d + 1) y pc ls (zpush k c2 n2 r.1 st) r.2)
        (fun x m => some (x, m)) none pc ls st m q.1 q.2.1 q.2.2
section
variable {M : Type} (ph : Bool) (K : Int → Int × Int) (R : Int → Int → Int) (P : Nat → Nat → Option (Jvm.ClassFile.Instr × List Nat × List Int)) (ml : Nat → Nat) (rd : M → Int → Int → Int) (wr : M → Int → Int → Int → M) (cp : M → Int → Int → Int → Int → Int → Option M)
theorem zex_mono1 : ∀ (n d y pc : Nat) (ls st : List zV) (m : M) (r : Int × M), zex ph K R P ml rd wr cp n d y pc ls st m = some r → zex ph K R P ml rd wr cp (n + 1) d y pc ls st m = some r := by
  intro n
  induction n with
  | zero => intro d y pc ls st m r h; cases h
  | succ n ih =>
    intro d y pc ls st m r h
    rw [zex] at h ⊢
    cases hq : P y pc with
    | none => rw [hq] at h; cases h
    | some q =>
      rw [hq] at h
      dsimp only at h ⊢
      obtain ⟨act, ha⟩ := zstp_act ph K R rd wr cp pc ls st m q.1 q.2.1 q.2.2
      rw [ha] at h ⊢
      rcases act with ⟨pc', ls', st', m'⟩ | ⟨y', as, m', k, c2, n2, pc', ls', st'⟩ | ⟨x, m'⟩ | u
      · exact ih _ _ _ _ _ _ _ h
      · dsimp only [zint] at h ⊢
        cases d with
        | zero => cases h
        | succ d =>
          dsimp only at h ⊢
          cases hc : zex ph K R P ml rd wr cp n d y' 0 (zent (ml y') as) [] m' with
          | none => rw [hc] at h; cases h
          | some v =>
            rw [hc] at h
            rw [ih _ _ _ _ _ _ _ hc]
            exact ih _ _ _ _ _ _ _ h
      · exact h
      · exact h
theorem zex_mono {n n' d y pc : Nat} {ls st : List zV} {m : M} {r : Int × M} (hn : n ≤ n') (h : zex ph K R P ml rd wr cp n d y pc ls st m = some r) : zex ph K R P ml rd wr cp n' d y pc ls st m = some r := by
  induction hn with
  | refl => exact h
  | step _ ih => exact zex_mono1 ph K R P ml rd wr cp _ _ _ _ _ _ _ _ ih
theorem zex_det {n n' d y pc : Nat} {ls st : List zV} {m : M} {r r' : Int × M} (h : zex ph K R P ml rd wr cp n d y pc ls st m = some r) (h' : zex ph K R P ml rd wr cp n' d y pc ls st m = some r') : r = r' := by
  have h1 := zex_mono ph K R P ml rd wr cp (Nat.le_max_left n n') h
  have h2 := zex_mono ph K R P ml rd wr cp (Nat.le_max_right n n') h'
  rw [h1] at h2
  exact Option.some.inj h2
noncomputable def zlim (d y pc : Nat) (ls st : List zV) (m : M) : Option (Int × M) :=
  @dite _ (∃ n r, zex ph K R P ml rd wr cp n d y pc ls st m = some r) (Classical.propDecidable _) (fun h => some (Classical.choose (Classical.choose_spec h))) (fun _ => none)
theorem zlim_of {n d y pc : Nat} {ls st : List zV} {m : M} {r : Int × M} (h : zex ph K R P ml rd wr cp n d y pc ls st m = some r) : zlim ph K R P ml rd wr cp d y pc ls st m = some r := by
  have hx : ∃ n r, zex ph K R P ml rd wr cp n d y pc ls st m = some r := ⟨n, r, h⟩
  unfold zlim
  rw [dif_pos hx]
  exact congrArg some (zex_det ph K R P ml rd wr cp (Classical.choose_spec (Classical.choose_spec hx)) h)
theorem zlim_ex {d y pc : Nat} {ls st : List zV} {m : M} {r : Int × M} (h : zlim ph K R P ml rd wr cp d y pc ls st m = some r) : ∃ n, zex ph K R P ml rd wr cp n d y pc ls st m = some r := by
  unfold zlim at h
  by_cases hx : ∃ n r, zex ph K R P ml rd wr cp n d y pc ls st m = some r
  · rw [dif_pos hx] at h
    have := Option.some.inj h
    exact ⟨Classical.choose hx, by rw [← this]; exact Classical.choose_spec (Classical.choose_spec hx)⟩
  · rw [dif_neg hx] at h
    cases h
theorem zopt_ext {β : Type} {a b : Option β} (h : ∀ r, a = some r ↔ b = some r) : a = b := by
  cases a with
  | none => cases b with
    | none => rfl
    | some y => exact absurd ((h y).mpr rfl) (by simp)
  | some x => exact ((h x).mp rfl).symm
theorem zlim_eq (d y pc : Nat) (ls st : List zV) (m : M) : zlim ph K R P ml rd wr cp d y pc ls st m = match P y pc with
    | none => none
    | some q => zstp ph K R rd wr cp (fun pc ls st m => zlim ph K R P ml rd wr cp d y pc ls st m)
        (fun y' as m k c2 n2 pc ls st => match d with
          | 0 => none
          | d + 1 => (zlim ph K R P ml rd wr cp d y' 0 (zent (ml y') as) [] m).bind fun r => zlim ph K R P ml rd wr cp (d + 1) y pc ls (zpush k c2 n2 r.1 st) r.2)
        (fun x m => some (x, m)) none pc ls st m q.1 q.2.1 q.2.2 := by
  apply zopt_ext
  intro r
  cases hq : P y pc with
  | none =>
    dsimp only
    refine ⟨fun h => ?_, fun h => by cases h⟩
    obtain ⟨n, h⟩ := zlim_ex ph K R P ml rd wr cp h
    cases n with
    | zero => cases h
    | succ n => rw [zex, hq] at h; cases h
  | some q =>
    dsimp only
    obtain ⟨act, ha⟩ := zstp_act ph K R rd wr cp pc ls st m q.1 q.2.1 q.2.2
    rw [ha]
    constructor
    · intro h
      obtain ⟨n, h⟩ := zlim_ex ph K R P ml rd wr cp h
      cases n with
      | zero => cases h
      | succ n =>
        rw [zex, hq] at h
        dsimp only at h
        rw [ha] at h
        rcases act with ⟨pc', ls', st', m'⟩ | ⟨y', as, m', k, c2, n2, pc', ls', st'⟩ | ⟨x, m'⟩ | u
        · exact zlim_of ph K R P ml rd wr cp h
        · dsimp only [zint] at h ⊢
          cases d with
          | zero => cases h
          | succ d =>
            dsimp only at h ⊢
            cases hc : zex ph K R P ml rd wr cp n d y' 0 (zent (ml y') as) [] m' with
            | none => rw [hc] at h; cases h
            | some v =>
              rw [hc] at h
              rw [zlim_of ph K R P ml rd wr cp hc]
              exact zlim_of ph K R P ml rd wr cp h
        · exact h
        · cases h
    · intro h
      rcases act with ⟨pc', ls', st', m'⟩ | ⟨y', as, m', k, c2, n2, pc', ls', st'⟩ | ⟨x, m'⟩ | u
      · obtain ⟨n, h⟩ := zlim_ex ph K R P ml rd wr cp h
        refine zlim_of ph K R P ml rd wr cp (n := n + 1) ?_
        rw [zex, hq]
        dsimp only
        rw [ha]
        exact h
      · dsimp only [zint] at h
        cases d with
        | zero => cases h
        | succ d =>
          dsimp only at h
          cases hc : zlim ph K R P ml rd wr cp d y' 0 (zent (ml y') as) [] m' with
          | none => rw [hc] at h; cases h
          | some v =>
            rw [hc] at h
            obtain ⟨n1, h1⟩ := zlim_ex ph K R P ml rd wr cp hc
            obtain ⟨n2, h2⟩ := zlim_ex ph K R P ml rd wr cp (show zlim ph K R P ml rd wr cp _ _ _ _ _ _ = some r from h)
            refine zlim_of ph K R P ml rd wr cp (n := max n1 n2 + 1) ?_
            rw [zex, hq]
            dsimp only
            rw [ha]
            dsimp only [zint]
            rw [zex_mono ph K R P ml rd wr cp (Nat.le_max_left n1 n2) h1]
            exact zex_mono ph K R P ml rd wr cp (Nat.le_max_right n1 n2) h2
      · refine zlim_of ph K R P ml rd wr cp (n := 1) ?_
        rw [zex, hq]
        dsimp only
        rw [ha]
        exact h
      · cases h
end
end
