section
-- ===== PART A: goes FIRST, ahead of the names: the tables' words, and 'selects' of the private methods out of them =====
/-- a private method of a class that the tables say can be made, by its rows of tables_1 -/
def lw_okq (q : MethodName × Nat) : Prop := (q.1.cls ≠ "java/lang/invoke/MethodHandle" ∧ q.1.cls ≠ "java/lang/invoke/VarHandle") ∧ Cond.instantiable q.1.cls q.2 ∈ tables_1 ∧ Cond.privateMethod q.1 ∈ tables_1 ∧ Cond.instanceMethod q.1 ∈ tables_1
theorem lw_p0 : lw_okq (⟨"PaintedLines", "refuse", "(I)I"⟩, 5) := ⟨⟨by decide +kernel, by decide +kernel⟩, List.mem_of_getElem? (i := 15) (by decide +kernel), List.mem_of_getElem? (i := 251) (by decide +kernel), List.mem_of_getElem? (i := 252) (by decide +kernel)⟩
theorem lw_p1 : lw_okq (⟨"PaintedLines$Painter", "paintTillMark", "(LPaintedLines$Line;)V"⟩, 3) := ⟨⟨by decide +kernel, by decide +kernel⟩, List.mem_of_getElem? (i := 142) (by decide +kernel), List.mem_of_getElem? (i := 320) (by decide +kernel), List.mem_of_getElem? (i := 321) (by decide +kernel)⟩
theorem lw_p2 : lw_okq (⟨"PaintedLines$Painter", "paintFrom", "(LPaintedLines$Line;II)I"⟩, 3) := ⟨⟨by decide +kernel, by decide +kernel⟩, List.mem_of_getElem? (i := 142) (by decide +kernel), List.mem_of_getElem? (i := 344) (by decide +kernel), List.mem_of_getElem? (i := 345) (by decide +kernel)⟩
theorem lw_p3 : lw_okq (⟨"PaintedLines$Painter", "takeInRemark", "(I)I"⟩, 3) := ⟨⟨by decide +kernel, by decide +kernel⟩, List.mem_of_getElem? (i := 142) (by decide +kernel), List.mem_of_getElem? (i := 348) (by decide +kernel), List.mem_of_getElem? (i := 349) (by decide +kernel)⟩
theorem lw_p4 : lw_okq (⟨"PaintedLines$Painter", "takeInString", "(I)I"⟩, 3) := ⟨⟨by decide +kernel, by decide +kernel⟩, List.mem_of_getElem? (i := 142) (by decide +kernel), List.mem_of_getElem? (i := 360) (by decide +kernel), List.mem_of_getElem? (i := 361) (by decide +kernel)⟩
theorem lw_p5 : lw_okq (⟨"PaintedLines$Painter", "paintName", "(LPaintedLines$Line;I)I"⟩, 3) := ⟨⟨by decide +kernel, by decide +kernel⟩, List.mem_of_getElem? (i := 142) (by decide +kernel), List.mem_of_getElem? (i := 371) (by decide +kernel), List.mem_of_getElem? (i := 372) (by decide +kernel)⟩
theorem lw_p6 : lw_okq (⟨"PaintedLines$Painter", "endOfFigures", "(LPaintedLines$Row;I)I"⟩, 3) := ⟨⟨by decide +kernel, by decide +kernel⟩, List.mem_of_getElem? (i := 142) (by decide +kernel), List.mem_of_getElem? (i := 386) (by decide +kernel), List.mem_of_getElem? (i := 387) (by decide +kernel)⟩
theorem lw_p7 : lw_okq (⟨"PaintedLines$Painter", "beginsMark", "(LPaintedLines$Row;I)Z"⟩, 3) := ⟨⟨by decide +kernel, by decide +kernel⟩, List.mem_of_getElem? (i := 142) (by decide +kernel), List.mem_of_getElem? (i := 390) (by decide +kernel), List.mem_of_getElem? (i := 391) (by decide +kernel)⟩
theorem lw_p8 : lw_okq (⟨"PaintedLines$Painter", "takeInCode", "(I)I"⟩, 3) := ⟨⟨by decide +kernel, by decide +kernel⟩, List.mem_of_getElem? (i := 142) (by decide +kernel), List.mem_of_getElem? (i := 397) (by decide +kernel), List.mem_of_getElem? (i := 398) (by decide +kernel)⟩
theorem lw_p9 : lw_okq (⟨"PaintedLines", "digestLine", "(JI)J"⟩, 5) := ⟨⟨by decide +kernel, by decide +kernel⟩, List.mem_of_getElem? (i := 15) (by decide +kernel), List.mem_of_getElem? (i := 556) (by decide +kernel), List.mem_of_getElem? (i := 557) (by decide +kernel)⟩
theorem lw_p10 : lw_okq (⟨"PaintedLinesModel", "refuses", "(I)I"⟩, 18) := ⟨⟨by decide +kernel, by decide +kernel⟩, List.mem_of_getElem? (i := 562) (by decide +kernel), List.mem_of_getElem? (i := 630) (by decide +kernel), List.mem_of_getElem? (i := 631) (by decide +kernel)⟩
theorem lw_p11 : lw_okq (⟨"PaintedLinesModel", "remembers", "()V"⟩, 18) := ⟨⟨by decide +kernel, by decide +kernel⟩, List.mem_of_getElem? (i := 562) (by decide +kernel), List.mem_of_getElem? (i := 642) (by decide +kernel), List.mem_of_getElem? (i := 643) (by decide +kernel)⟩
theorem lw_p12 : lw_okq (⟨"PaintedLinesModel", "opens", "(I)V"⟩, 18) := ⟨⟨by decide +kernel, by decide +kernel⟩, List.mem_of_getElem? (i := 562) (by decide +kernel), List.mem_of_getElem? (i := 646) (by decide +kernel), List.mem_of_getElem? (i := 647) (by decide +kernel)⟩
theorem lw_p13 : lw_okq (⟨"PaintedLinesModel", "moves", "(II)V"⟩, 18) := ⟨⟨by decide +kernel, by decide +kernel⟩, List.mem_of_getElem? (i := 562) (by decide +kernel), List.mem_of_getElem? (i := 650) (by decide +kernel), List.mem_of_getElem? (i := 651) (by decide +kernel)⟩
theorem lw_p14 : lw_okq (⟨"PaintedLinesModel", "takesText", "(I)V"⟩, 18) := ⟨⟨by decide +kernel, by decide +kernel⟩, List.mem_of_getElem? (i := 562) (by decide +kernel), List.mem_of_getElem? (i := 654) (by decide +kernel), List.mem_of_getElem? (i := 655) (by decide +kernel)⟩
theorem lw_p15 : lw_okq (⟨"PaintedLinesModel", "changes", "(II)V"⟩, 18) := ⟨⟨by decide +kernel, by decide +kernel⟩, List.mem_of_getElem? (i := 562) (by decide +kernel), List.mem_of_getElem? (i := 658) (by decide +kernel), List.mem_of_getElem? (i := 659) (by decide +kernel)⟩
def lw_privs_1 : List (MethodName × Nat) := [(⟨"PaintedLines", "refuse", "(I)I"⟩, 5), (⟨"PaintedLines$Painter", "paintTillMark", "(LPaintedLines$Line;)V"⟩, 3), (⟨"PaintedLines$Painter", "paintFrom", "(LPaintedLines$Line;II)I"⟩, 3), (⟨"PaintedLines$Painter", "takeInRemark", "(I)I"⟩, 3), (⟨"PaintedLines$Painter", "takeInString", "(I)I"⟩, 3), (⟨"PaintedLines$Painter", "paintName", "(LPaintedLines$Line;I)I"⟩, 3), (⟨"PaintedLines$Painter", "endOfFigures", "(LPaintedLines$Row;I)I"⟩, 3), (⟨"PaintedLines$Painter", "beginsMark", "(LPaintedLines$Row;I)Z"⟩, 3), (⟨"PaintedLines$Painter", "takeInCode", "(I)I"⟩, 3), (⟨"PaintedLines", "digestLine", "(JI)J"⟩, 5), (⟨"PaintedLinesModel", "refuses", "(I)I"⟩, 18), (⟨"PaintedLinesModel", "remembers", "()V"⟩, 18), (⟨"PaintedLinesModel", "opens", "(I)V"⟩, 18), (⟨"PaintedLinesModel", "moves", "(II)V"⟩, 18), (⟨"PaintedLinesModel", "takesText", "(I)V"⟩, 18), (⟨"PaintedLinesModel", "changes", "(II)V"⟩, 18)]
theorem lw_r1 : ∀ q ∈ lw_privs_1, lw_okq q := List.forall_mem_cons.mpr ⟨lw_p0, List.forall_mem_cons.mpr ⟨lw_p1, List.forall_mem_cons.mpr ⟨lw_p2, List.forall_mem_cons.mpr ⟨lw_p3, List.forall_mem_cons.mpr ⟨lw_p4, List.forall_mem_cons.mpr ⟨lw_p5, List.forall_mem_cons.mpr ⟨lw_p6, List.forall_mem_cons.mpr ⟨lw_p7, List.forall_mem_cons.mpr ⟨lw_p8, List.forall_mem_cons.mpr ⟨lw_p9, List.forall_mem_cons.mpr ⟨lw_p10, List.forall_mem_cons.mpr ⟨lw_p11, List.forall_mem_cons.mpr ⟨lw_p12, List.forall_mem_cons.mpr ⟨lw_p13, List.forall_mem_cons.mpr ⟨lw_p14, List.forall_mem_cons.mpr ⟨lw_p15, fun _ h => absurd h List.not_mem_nil⟩⟩⟩⟩⟩⟩⟩⟩⟩⟩⟩⟩⟩⟩⟩⟩
theorem lw_p16 : lw_okq (⟨"PaintedLinesModel", "paints", "()V"⟩, 18) := ⟨⟨by decide +kernel, by decide +kernel⟩, List.mem_of_getElem? (i := 562) (by decide +kernel), List.mem_of_getElem? (i := 662) (by decide +kernel), List.mem_of_getElem? (i := 663) (by decide +kernel)⟩
theorem lw_p17 : lw_okq (⟨"PaintedLinesModel", "paintsLine", "()V"⟩, 18) := ⟨⟨by decide +kernel, by decide +kernel⟩, List.mem_of_getElem? (i := 562) (by decide +kernel), List.mem_of_getElem? (i := 666) (by decide +kernel), List.mem_of_getElem? (i := 667) (by decide +kernel)⟩
theorem lw_p18 : lw_okq (⟨"PaintedLinesModel", "paintsMarked", "()V"⟩, 18) := ⟨⟨by decide +kernel, by decide +kernel⟩, List.mem_of_getElem? (i := 562) (by decide +kernel), List.mem_of_getElem? (i := 670) (by decide +kernel), List.mem_of_getElem? (i := 671) (by decide +kernel)⟩
theorem lw_p19 : lw_okq (⟨"PaintedLinesModel", "byteAt", "(I)I"⟩, 18) := ⟨⟨by decide +kernel, by decide +kernel⟩, List.mem_of_getElem? (i := 562) (by decide +kernel), List.mem_of_getElem? (i := 674) (by decide +kernel), List.mem_of_getElem? (i := 675) (by decide +kernel)⟩
theorem lw_p20 : lw_okq (⟨"PaintedLinesModel", "top", "()I"⟩, 18) := ⟨⟨by decide +kernel, by decide +kernel⟩, List.mem_of_getElem? (i := 562) (by decide +kernel), List.mem_of_getElem? (i := 678) (by decide +kernel), List.mem_of_getElem? (i := 679) (by decide +kernel)⟩
theorem lw_p21 : lw_okq (⟨"PaintedLinesModel", "paintsCode", "(I)I"⟩, 18) := ⟨⟨by decide +kernel, by decide +kernel⟩, List.mem_of_getElem? (i := 562) (by decide +kernel), List.mem_of_getElem? (i := 682) (by decide +kernel), List.mem_of_getElem? (i := 683) (by decide +kernel)⟩
theorem lw_p22 : lw_okq (⟨"PaintedLinesModel", "letters", "()I"⟩, 18) := ⟨⟨by decide +kernel, by decide +kernel⟩, List.mem_of_getElem? (i := 562) (by decide +kernel), List.mem_of_getElem? (i := 689) (by decide +kernel), List.mem_of_getElem? (i := 690) (by decide +kernel)⟩
theorem lw_p23 : lw_okq (⟨"PaintedLinesModel", "isWord", "(II)Z"⟩, 18) := ⟨⟨by decide +kernel, by decide +kernel⟩, List.mem_of_getElem? (i := 562) (by decide +kernel), List.mem_of_getElem? (i := 693) (by decide +kernel), List.mem_of_getElem? (i := 694) (by decide +kernel)⟩
theorem lw_p24 : lw_okq (⟨"PaintedLinesModel", "colour", "(II)V"⟩, 18) := ⟨⟨by decide +kernel, by decide +kernel⟩, List.mem_of_getElem? (i := 562) (by decide +kernel), List.mem_of_getElem? (i := 697) (by decide +kernel), List.mem_of_getElem? (i := 698) (by decide +kernel)⟩
theorem lw_p25 : lw_okq (⟨"PaintedLinesModel", "figures", "()I"⟩, 18) := ⟨⟨by decide +kernel, by decide +kernel⟩, List.mem_of_getElem? (i := 562) (by decide +kernel), List.mem_of_getElem? (i := 707) (by decide +kernel), List.mem_of_getElem? (i := 708) (by decide +kernel)⟩
theorem lw_p26 : lw_okq (⟨"PaintedLinesModel", "pushes", "(II)V"⟩, 18) := ⟨⟨by decide +kernel, by decide +kernel⟩, List.mem_of_getElem? (i := 562) (by decide +kernel), List.mem_of_getElem? (i := 711) (by decide +kernel), List.mem_of_getElem? (i := 712) (by decide +kernel)⟩
theorem lw_p27 : lw_okq (⟨"PaintedLinesModel", "comesOn", "(I)Z"⟩, 18) := ⟨⟨by decide +kernel, by decide +kernel⟩, List.mem_of_getElem? (i := 562) (by decide +kernel), List.mem_of_getElem? (i := 715) (by decide +kernel), List.mem_of_getElem? (i := 716) (by decide +kernel)⟩
theorem lw_p28 : lw_okq (⟨"PaintedLinesModel", "goesOff", "()V"⟩, 18) := ⟨⟨by decide +kernel, by decide +kernel⟩, List.mem_of_getElem? (i := 562) (by decide +kernel), List.mem_of_getElem? (i := 719) (by decide +kernel), List.mem_of_getElem? (i := 720) (by decide +kernel)⟩
theorem lw_p29 : lw_okq (⟨"PaintedLinesModel", "paintsRemark", "()V"⟩, 18) := ⟨⟨by decide +kernel, by decide +kernel⟩, List.mem_of_getElem? (i := 562) (by decide +kernel), List.mem_of_getElem? (i := 723) (by decide +kernel), List.mem_of_getElem? (i := 724) (by decide +kernel)⟩
theorem lw_p30 : lw_okq (⟨"PaintedLinesModel", "paintsString", "()V"⟩, 18) := ⟨⟨by decide +kernel, by decide +kernel⟩, List.mem_of_getElem? (i := 562) (by decide +kernel), List.mem_of_getElem? (i := 727) (by decide +kernel), List.mem_of_getElem? (i := 728) (by decide +kernel)⟩
theorem lw_p31 : lw_okq (⟨"PaintedLinesModel", "standing", "()I"⟩, 18) := ⟨⟨by decide +kernel, by decide +kernel⟩, List.mem_of_getElem? (i := 562) (by decide +kernel), List.mem_of_getElem? (i := 731) (by decide +kernel), List.mem_of_getElem? (i := 732) (by decide +kernel)⟩
def lw_privs_2 : List (MethodName × Nat) := [(⟨"PaintedLinesModel", "paints", "()V"⟩, 18), (⟨"PaintedLinesModel", "paintsLine", "()V"⟩, 18), (⟨"PaintedLinesModel", "paintsMarked", "()V"⟩, 18), (⟨"PaintedLinesModel", "byteAt", "(I)I"⟩, 18), (⟨"PaintedLinesModel", "top", "()I"⟩, 18), (⟨"PaintedLinesModel", "paintsCode", "(I)I"⟩, 18), (⟨"PaintedLinesModel", "letters", "()I"⟩, 18), (⟨"PaintedLinesModel", "isWord", "(II)Z"⟩, 18), (⟨"PaintedLinesModel", "colour", "(II)V"⟩, 18), (⟨"PaintedLinesModel", "figures", "()I"⟩, 18), (⟨"PaintedLinesModel", "pushes", "(II)V"⟩, 18), (⟨"PaintedLinesModel", "comesOn", "(I)Z"⟩, 18), (⟨"PaintedLinesModel", "goesOff", "()V"⟩, 18), (⟨"PaintedLinesModel", "paintsRemark", "()V"⟩, 18), (⟨"PaintedLinesModel", "paintsString", "()V"⟩, 18), (⟨"PaintedLinesModel", "standing", "()I"⟩, 18)]
theorem lw_r2 : ∀ q ∈ lw_privs_2, lw_okq q := List.forall_mem_cons.mpr ⟨lw_p16, List.forall_mem_cons.mpr ⟨lw_p17, List.forall_mem_cons.mpr ⟨lw_p18, List.forall_mem_cons.mpr ⟨lw_p19, List.forall_mem_cons.mpr ⟨lw_p20, List.forall_mem_cons.mpr ⟨lw_p21, List.forall_mem_cons.mpr ⟨lw_p22, List.forall_mem_cons.mpr ⟨lw_p23, List.forall_mem_cons.mpr ⟨lw_p24, List.forall_mem_cons.mpr ⟨lw_p25, List.forall_mem_cons.mpr ⟨lw_p26, List.forall_mem_cons.mpr ⟨lw_p27, List.forall_mem_cons.mpr ⟨lw_p28, List.forall_mem_cons.mpr ⟨lw_p29, List.forall_mem_cons.mpr ⟨lw_p30, List.forall_mem_cons.mpr ⟨lw_p31, fun _ h => absurd h List.not_mem_nil⟩⟩⟩⟩⟩⟩⟩⟩⟩⟩⟩⟩⟩⟩⟩⟩
theorem lw_p32 : lw_okq (⟨"PaintedLinesModel", "isLine", "(I)Z"⟩, 18) := ⟨⟨by decide +kernel, by decide +kernel⟩, List.mem_of_getElem? (i := 562) (by decide +kernel), List.mem_of_getElem? (i := 739) (by decide +kernel), List.mem_of_getElem? (i := 740) (by decide +kernel)⟩
theorem lw_p33 : lw_okq (⟨"PaintedLinesModel", "isTextWord", "()Z"⟩, 18) := ⟨⟨by decide +kernel, by decide +kernel⟩, List.mem_of_getElem? (i := 562) (by decide +kernel), List.mem_of_getElem? (i := 763) (by decide +kernel), List.mem_of_getElem? (i := 764) (by decide +kernel)⟩
theorem lw_p34 : lw_okq (⟨"PaintedLinesModel", "isTold", "()Z"⟩, 18) := ⟨⟨by decide +kernel, by decide +kernel⟩, List.mem_of_getElem? (i := 562) (by decide +kernel), List.mem_of_getElem? (i := 767) (by decide +kernel), List.mem_of_getElem? (i := 768) (by decide +kernel)⟩
theorem lw_p35 : lw_okq (⟨"PaintedLinesModel", "byteTold", "(III)I"⟩, 18) := ⟨⟨by decide +kernel, by decide +kernel⟩, List.mem_of_getElem? (i := 562) (by decide +kernel), List.mem_of_getElem? (i := 783) (by decide +kernel), List.mem_of_getElem? (i := 784) (by decide +kernel)⟩
theorem lw_p36 : lw_okq (⟨"PaintedLinesModel", "shadeOf", "(II)I"⟩, 18) := ⟨⟨by decide +kernel, by decide +kernel⟩, List.mem_of_getElem? (i := 562) (by decide +kernel), List.mem_of_getElem? (i := 787) (by decide +kernel), List.mem_of_getElem? (i := 788) (by decide +kernel)⟩
theorem lw_p37 : lw_okq (⟨"PaintedLinesModel", "lineTold", "(II)I"⟩, 18) := ⟨⟨by decide +kernel, by decide +kernel⟩, List.mem_of_getElem? (i := 562) (by decide +kernel), List.mem_of_getElem? (i := 795) (by decide +kernel), List.mem_of_getElem? (i := 796) (by decide +kernel)⟩
theorem lw_p38 : lw_okq (⟨"PaintedLinesModel", "spansOf", "(I)I"⟩, 18) := ⟨⟨by decide +kernel, by decide +kernel⟩, List.mem_of_getElem? (i := 562) (by decide +kernel), List.mem_of_getElem? (i := 805) (by decide +kernel), List.mem_of_getElem? (i := 806) (by decide +kernel)⟩
theorem lw_p39 : lw_okq (⟨"PaintedLinesModel", "begins", "(II)Z"⟩, 18) := ⟨⟨by decide +kernel, by decide +kernel⟩, List.mem_of_getElem? (i := 562) (by decide +kernel), List.mem_of_getElem? (i := 809) (by decide +kernel), List.mem_of_getElem? (i := 810) (by decide +kernel)⟩
theorem lw_p40 : lw_okq (⟨"PaintedLinesModel", "toldOf", "(I)I"⟩, 18) := ⟨⟨by decide +kernel, by decide +kernel⟩, List.mem_of_getElem? (i := 562) (by decide +kernel), List.mem_of_getElem? (i := 833) (by decide +kernel), List.mem_of_getElem? (i := 834) (by decide +kernel)⟩
theorem lw_p41 : lw_okq (⟨"PaintedLinesModel", "mix", "(J)V"⟩, 18) := ⟨⟨by decide +kernel, by decide +kernel⟩, List.mem_of_getElem? (i := 562) (by decide +kernel), List.mem_of_getElem? (i := 842) (by decide +kernel), List.mem_of_getElem? (i := 843) (by decide +kernel)⟩
def lw_privs_3 : List (MethodName × Nat) := [(⟨"PaintedLinesModel", "isLine", "(I)Z"⟩, 18), (⟨"PaintedLinesModel", "isTextWord", "()Z"⟩, 18), (⟨"PaintedLinesModel", "isTold", "()Z"⟩, 18), (⟨"PaintedLinesModel", "byteTold", "(III)I"⟩, 18), (⟨"PaintedLinesModel", "shadeOf", "(II)I"⟩, 18), (⟨"PaintedLinesModel", "lineTold", "(II)I"⟩, 18), (⟨"PaintedLinesModel", "spansOf", "(I)I"⟩, 18), (⟨"PaintedLinesModel", "begins", "(II)Z"⟩, 18), (⟨"PaintedLinesModel", "toldOf", "(I)I"⟩, 18), (⟨"PaintedLinesModel", "mix", "(J)V"⟩, 18)]
theorem lw_r3 : ∀ q ∈ lw_privs_3, lw_okq q := List.forall_mem_cons.mpr ⟨lw_p32, List.forall_mem_cons.mpr ⟨lw_p33, List.forall_mem_cons.mpr ⟨lw_p34, List.forall_mem_cons.mpr ⟨lw_p35, List.forall_mem_cons.mpr ⟨lw_p36, List.forall_mem_cons.mpr ⟨lw_p37, List.forall_mem_cons.mpr ⟨lw_p38, List.forall_mem_cons.mpr ⟨lw_p39, List.forall_mem_cons.mpr ⟨lw_p40, List.forall_mem_cons.mpr ⟨lw_p41, fun _ h => absurd h List.not_mem_nil⟩⟩⟩⟩⟩⟩⟩⟩⟩⟩
def lw_privs : List (MethodName × Nat) := lw_privs_1 ++ (lw_privs_2 ++ (lw_privs_3))
def lw_tbl : List Cond := k2_sels lw_privs ++ tables_1
theorem lw_privs_ok : ∀ q ∈ lw_privs, lw_okq q := by
  show ∀ q ∈ lw_privs_1 ++ (lw_privs_2 ++ (lw_privs_3)), lw_okq q
  exact List.forall_mem_append.mpr ⟨lw_r1, List.forall_mem_append.mpr ⟨lw_r2, lw_r3⟩⟩

-- names, fields, method names (claim/NAMES.whole.lean.txt)
def RX0 : String := "PaintedLines$History"
def TX0 : u_T := fun k => match k with
  | 0 => ("PaintedLines$History", "ring", "[LPaintedLines$Kept;", true)
  | 1 => ("PaintedLines$History", "count", "I", false)
  | _ => ("PaintedLines$History", "next", "I", false)
def tyX0 : Nat → FieldType := fun k => match k with
  | 0 => .array (.object "PaintedLines$Kept")
  | 1 => .int
  | _ => .int
abbrev wsX00 : List Cond := u_ws RX0 TX0 3
theorem nmX0 : ∀ a, a < 3 → ∀ b, b < 3 → a ≠ b → (TX0 a).2.1 ≠ (TX0 b).2.1 := by decide +kernel
theorem tyX0_ok : ∀ k, k < 3 → parseFieldDescriptor (TX0 k).2.2.1 = some (tyX0 k) := by decide +kernel
abbrev cX0_init : ByteArray := prog_2_method_1_code
def yX0_init : MethodName := ⟨RX0, "<init>", "()V"⟩
abbrev cX0_keep : ByteArray := prog_2_method_2_code
def yX0_keep : MethodName := ⟨RX0, "keep", "(LPaintedLines$Page;)V"⟩
abbrev cX0_giveBack : ByteArray := prog_2_method_3_code
def yX0_giveBack : MethodName := ⟨RX0, "giveBack", "(LPaintedLines$Page;)V"⟩
def RX1 : String := "PaintedLines$Kept"
def TX1 : u_T := fun k => match k with
  | 0 => ("PaintedLines$Kept", "rows", "[LPaintedLines$Row;", true)
  | 1 => ("PaintedLines$Kept", "words", "LPaintedLines$Words;", true)
  | 2 => ("PaintedLines$Kept", "rules", "LPaintedLines$Rules;", true)
  | _ => ("PaintedLines$Kept", "count", "I", false)
def tyX1 : Nat → FieldType := fun k => match k with
  | 0 => .array (.object "PaintedLines$Row")
  | 1 => .object "PaintedLines$Words"
  | 2 => .object "PaintedLines$Rules"
  | _ => .int
abbrev wsX10 : List Cond := u_ws RX1 TX1 4
theorem nmX1 : ∀ a, a < 4 → ∀ b, b < 4 → a ≠ b → (TX1 a).2.1 ≠ (TX1 b).2.1 := by decide +kernel
theorem tyX1_ok : ∀ k, k < 4 → parseFieldDescriptor (TX1 k).2.2.1 = some (tyX1 k) := by decide +kernel
abbrev cX1_init : ByteArray := prog_3_method_1_code
def yX1_init : MethodName := ⟨RX1, "<init>", "()V"⟩
abbrev cX1_take : ByteArray := prog_3_method_2_code
def yX1_take : MethodName := ⟨RX1, "take", "(LPaintedLines$Page;)V"⟩
abbrev cX1_give : ByteArray := prog_3_method_3_code
def yX1_give : MethodName := ⟨RX1, "give", "(LPaintedLines$Page;)V"⟩
def RX2 : String := "PaintedLines$Line"
def TX2 : u_T := fun k => match k with
  | 0 => ("PaintedLines$Line", "row", "LPaintedLines$Row;", true)
  | 1 => ("PaintedLines$Line", "colours", "[I", true)
  | 2 => ("PaintedLines$Line", "modes", "[I", true)
  | 3 => ("PaintedLines$Line", "end", "LPaintedLines$State;", true)
  | _ => ("PaintedLines$Line", "isNew", "Z", false)
def tyX2 : Nat → FieldType := fun k => match k with
  | 0 => .object "PaintedLines$Row"
  | 1 => .array .int
  | 2 => .array .int
  | 3 => .object "PaintedLines$State"
  | _ => .boolean
abbrev wsX20 : List Cond := u_ws RX2 TX2 5
theorem nmX2 : ∀ a, a < 5 → ∀ b, b < 5 → a ≠ b → (TX2 a).2.1 ≠ (TX2 b).2.1 := by decide +kernel
theorem tyX2_ok : ∀ k, k < 5 → parseFieldDescriptor (TX2 k).2.2.1 = some (tyX2 k) := by decide +kernel
abbrev cX2_init : ByteArray := prog_4_method_1_code
def yX2_init : MethodName := ⟨RX2, "<init>", "()V"⟩
abbrev cX2_fill : ByteArray := prog_4_method_2_code
def yX2_fill : MethodName := ⟨RX2, "fill", "(IIII)I"⟩
abbrev cX2_countBytes : ByteArray := prog_4_method_3_code
def yX2_countBytes : MethodName := ⟨RX2, "countBytes", "(I)I"⟩
abbrev cX2_beginsSpan : ByteArray := prog_4_method_4_code
def yX2_beginsSpan : MethodName := ⟨RX2, "beginsSpan", "(I)Z"⟩
abbrev cX2_countSpans : ByteArray := prog_4_method_5_code
def yX2_countSpans : MethodName := ⟨RX2, "countSpans", "()I"⟩
abbrev cX2_beginOfSpan : ByteArray := prog_4_method_6_code
def yX2_beginOfSpan : MethodName := ⟨RX2, "beginOfSpan", "(I)I"⟩
abbrev cX2_endOfSpan : ByteArray := prog_4_method_7_code
def yX2_endOfSpan : MethodName := ⟨RX2, "endOfSpan", "(I)I"⟩
def RX3 : String := "PaintedLines$Page"
def TX3 : u_T := fun k => match k with
  | 0 => ("PaintedLines$Page", "lines", "[LPaintedLines$Line;", true)
  | 1 => ("PaintedLines$Page", "words", "LPaintedLines$Words;", true)
  | 2 => ("PaintedLines$Page", "rules", "LPaintedLines$Rules;", true)
  | 3 => ("PaintedLines$Page", "painter", "LPaintedLines$Painter;", true)
  | _ => ("PaintedLines$Page", "count", "I", false)
def tyX3 : Nat → FieldType := fun k => match k with
  | 0 => .array (.object "PaintedLines$Line")
  | 1 => .object "PaintedLines$Words"
  | 2 => .object "PaintedLines$Rules"
  | 3 => .object "PaintedLines$Painter"
  | _ => .int
abbrev wsX30 : List Cond := u_ws RX3 TX3 5
theorem nmX3 : ∀ a, a < 5 → ∀ b, b < 5 → a ≠ b → (TX3 a).2.1 ≠ (TX3 b).2.1 := by decide +kernel
theorem tyX3_ok : ∀ k, k < 5 → parseFieldDescriptor (TX3 k).2.2.1 = some (tyX3 k) := by decide +kernel
abbrev cX3_init : ByteArray := prog_5_method_1_code
def yX3_init : MethodName := ⟨RX3, "<init>", "()V"⟩
abbrev cX3_hasLine : ByteArray := prog_5_method_2_code
def yX3_hasLine : MethodName := ⟨RX3, "hasLine", "(I)Z"⟩
abbrev cX3_hasByte : ByteArray := prog_5_method_3_code
def yX3_hasByte : MethodName := ⟨RX3, "hasByte", "(II)Z"⟩
abbrev cX3_openLine : ByteArray := prog_5_method_4_code
def yX3_openLine : MethodName := ⟨RX3, "openLine", "(I)V"⟩
abbrev cX3_closeLine : ByteArray := prog_5_method_5_code
def yX3_closeLine : MethodName := ⟨RX3, "closeLine", "(I)V"⟩
abbrev cX3_repaint : ByteArray := prog_5_method_6_code
def yX3_repaint : MethodName := ⟨RX3, "repaint", "(II)I"⟩
def RX4 : String := "PaintedLines$Painter"
def TX4 : u_T := fun k => match k with
  | 0 => ("PaintedLines$Painter", "words", "LPaintedLines$Words;", true)
  | 1 => ("PaintedLines$Painter", "state", "LPaintedLines$State;", true)
  | _ => ("PaintedLines$Painter", "comingMark", "I", false)
def tyX4 : Nat → FieldType := fun k => match k with
  | 0 => .object "PaintedLines$Words"
  | 1 => .object "PaintedLines$State"
  | _ => .int
abbrev wsX40 : List Cond := u_ws RX4 TX4 3
theorem nmX4 : ∀ a, a < 3 → ∀ b, b < 3 → a ≠ b → (TX4 a).2.1 ≠ (TX4 b).2.1 := by decide +kernel
theorem tyX4_ok : ∀ k, k < 3 → parseFieldDescriptor (TX4 k).2.2.1 = some (tyX4 k) := by decide +kernel
abbrev cX4_init : ByteArray := prog_6_method_1_code
def yX4_init : MethodName := ⟨RX4, "<init>", "(LPaintedLines$Words;)V"⟩
abbrev cX4_paintLine : ByteArray := prog_6_method_2_code
def yX4_paintLine : MethodName := ⟨RX4, "paintLine", "(LPaintedLines$Line;)V"⟩
abbrev cX4_paintTillMark : ByteArray := prog_6_method_3_code
def yX4_paintTillMark : MethodName := ⟨RX4, "paintTillMark", "(LPaintedLines$Line;)V"⟩
abbrev cX4_paintFrom : ByteArray := prog_6_method_4_code
def yX4_paintFrom : MethodName := ⟨RX4, "paintFrom", "(LPaintedLines$Line;II)I"⟩
abbrev cX4_takeInRemark : ByteArray := prog_6_method_5_code
def yX4_takeInRemark : MethodName := ⟨RX4, "takeInRemark", "(I)I"⟩
abbrev cX4_takeInString : ByteArray := prog_6_method_6_code
def yX4_takeInString : MethodName := ⟨RX4, "takeInString", "(I)I"⟩
abbrev cX4_takeInCode : ByteArray := prog_6_method_7_code
def yX4_takeInCode : MethodName := ⟨RX4, "takeInCode", "(I)I"⟩
abbrev cX4_paintName : ByteArray := prog_6_method_8_code
def yX4_paintName : MethodName := ⟨RX4, "paintName", "(LPaintedLines$Line;I)I"⟩
abbrev cX4_endOfFigures : ByteArray := prog_6_method_9_code
def yX4_endOfFigures : MethodName := ⟨RX4, "endOfFigures", "(LPaintedLines$Row;I)I"⟩
abbrev cX4_beginsMark : ByteArray := prog_6_method_10_code
def yX4_beginsMark : MethodName := ⟨RX4, "beginsMark", "(LPaintedLines$Row;I)Z"⟩
def RX5 : String := "PaintedLines$Row"
def TX5 : u_T := fun k => match k with
  | 0 => ("PaintedLines$Row", "signs", "[I", true)
  | _ => ("PaintedLines$Row", "length", "I", false)
def tyX5 : Nat → FieldType := fun k => match k with
  | 0 => .array .int
  | _ => .int
abbrev wsX50 : List Cond := u_ws RX5 TX5 2
theorem nmX5 : ∀ a, a < 2 → ∀ b, b < 2 → a ≠ b → (TX5 a).2.1 ≠ (TX5 b).2.1 := by decide +kernel
theorem tyX5_ok : ∀ k, k < 2 → parseFieldDescriptor (TX5 k).2.2.1 = some (tyX5 k) := by decide +kernel
abbrev cX5_init : ByteArray := prog_7_method_1_code
def yX5_init : MethodName := ⟨RX5, "<init>", "(I)V"⟩
abbrev cX5_signAt : ByteArray := prog_7_method_2_code
def yX5_signAt : MethodName := ⟨RX5, "signAt", "(I)I"⟩
abbrev cX5_copyFrom : ByteArray := prog_7_method_3_code
def yX5_copyFrom : MethodName := ⟨RX5, "copyFrom", "(LPaintedLines$Row;)V"⟩
abbrev cX5_isLike : ByteArray := prog_7_method_4_code
def yX5_isLike : MethodName := ⟨RX5, "isLike", "(LPaintedLines$Row;)Z"⟩
abbrev cX5_holds : ByteArray := prog_7_method_5_code
def yX5_holds : MethodName := ⟨RX5, "holds", "(LPaintedLines$Row;II)Z"⟩
abbrev cX5_put : ByteArray := prog_7_method_6_code
def yX5_put : MethodName := ⟨RX5, "put", "(II)V"⟩
abbrev cX5_erase : ByteArray := prog_7_method_7_code
def yX5_erase : MethodName := ⟨RX5, "erase", "(I)V"⟩
abbrev cX5_moveTail : ByteArray := prog_7_method_8_code
def yX5_moveTail : MethodName := ⟨RX5, "moveTail", "(ILPaintedLines$Row;)V"⟩
def RX6 : String := "PaintedLines$Rules"
def TX6 : u_T := fun k => match k with
  | 0 => ("PaintedLines$Rules", "shades", "[I", true)
  | 1 => ("PaintedLines$Rules", "ranks", "[I", true)
  | _ => ("PaintedLines$Rules", "count", "I", false)
def tyX6 : Nat → FieldType := fun k => match k with
  | 0 => .array .int
  | 1 => .array .int
  | _ => .int
abbrev wsX60 : List Cond := u_ws RX6 TX6 3
theorem nmX6 : ∀ a, a < 3 → ∀ b, b < 3 → a ≠ b → (TX6 a).2.1 ≠ (TX6 b).2.1 := by decide +kernel
theorem tyX6_ok : ∀ k, k < 3 → parseFieldDescriptor (TX6 k).2.2.1 = some (tyX6 k) := by decide +kernel
abbrev cX6_init : ByteArray := prog_8_method_1_code
def yX6_init : MethodName := ⟨RX6, "<init>", "()V"⟩
abbrev cX6_copyFrom : ByteArray := prog_8_method_2_code
def yX6_copyFrom : MethodName := ⟨RX6, "copyFrom", "(LPaintedLines$Rules;)V"⟩
abbrev cX6_add : ByteArray := prog_8_method_3_code
def yX6_add : MethodName := ⟨RX6, "add", "(III)V"⟩
abbrev cX6_shadeOf : ByteArray := prog_8_method_4_code
def yX6_shadeOf : MethodName := ⟨RX6, "shadeOf", "(II)I"⟩
def RX7 : String := "PaintedLines$State"
def TX7 : u_T := fun k => match k with
  | 0 => ("PaintedLines$State", "pile", "[I", true)
  | 1 => ("PaintedLines$State", "depth", "I", false)
  | _ => ("PaintedLines$State", "mark", "I", false)
def tyX7 : Nat → FieldType := fun k => match k with
  | 0 => .array .int
  | 1 => .int
  | _ => .int
abbrev wsX70 : List Cond := u_ws RX7 TX7 3
theorem nmX7 : ∀ a, a < 3 → ∀ b, b < 3 → a ≠ b → (TX7 a).2.1 ≠ (TX7 b).2.1 := by decide +kernel
theorem tyX7_ok : ∀ k, k < 3 → parseFieldDescriptor (TX7 k).2.2.1 = some (tyX7 k) := by decide +kernel
abbrev cX7_init : ByteArray := prog_9_method_1_code
def yX7_init : MethodName := ⟨RX7, "<init>", "()V"⟩
abbrev cX7_begin : ByteArray := prog_9_method_2_code
def yX7_begin : MethodName := ⟨RX7, "begin", "()V"⟩
abbrev cX7_copyFrom : ByteArray := prog_9_method_3_code
def yX7_copyFrom : MethodName := ⟨RX7, "copyFrom", "(LPaintedLines$State;)V"⟩
abbrev cX7_isLike : ByteArray := prog_9_method_4_code
def yX7_isLike : MethodName := ⟨RX7, "isLike", "(LPaintedLines$State;)Z"⟩
abbrev cX7_opener : ByteArray := prog_9_method_5_code
def yX7_opener : MethodName := ⟨RX7, "opener", "(I)I"⟩
abbrev cX7_mode : ByteArray := prog_9_method_6_code
def yX7_mode : MethodName := ⟨RX7, "mode", "()I"⟩
abbrev cX7_quote : ByteArray := prog_9_method_7_code
def yX7_quote : MethodName := ⟨RX7, "quote", "()I"⟩
abbrev cX7_liesInString : ByteArray := prog_9_method_8_code
def yX7_liesInString : MethodName := ⟨RX7, "liesInString", "()Z"⟩
abbrev cX7_open : ByteArray := prog_9_method_9_code
def yX7_open : MethodName := ⟨RX7, "open", "(I)Z"⟩
abbrev cX7_close : ByteArray := prog_9_method_10_code
def yX7_close : MethodName := ⟨RX7, "close", "()V"⟩
abbrev cX7_closeLineStrings : ByteArray := prog_9_method_11_code
def yX7_closeLineStrings : MethodName := ⟨RX7, "closeLineStrings", "()V"⟩
def RX8 : String := "PaintedLines$Words"
def TX8 : u_T := fun k => match k with
  | 0 => ("PaintedLines$Words", "rows", "[LPaintedLines$Row;", true)
  | _ => ("PaintedLines$Words", "count", "I", false)
def tyX8 : Nat → FieldType := fun k => match k with
  | 0 => .array (.object "PaintedLines$Row")
  | _ => .int
abbrev wsX80 : List Cond := u_ws RX8 TX8 2
theorem nmX8 : ∀ a, a < 2 → ∀ b, b < 2 → a ≠ b → (TX8 a).2.1 ≠ (TX8 b).2.1 := by decide +kernel
theorem tyX8_ok : ∀ k, k < 2 → parseFieldDescriptor (TX8 k).2.2.1 = some (tyX8 k) := by decide +kernel
abbrev cX8_init : ByteArray := prog_10_method_1_code
def yX8_init : MethodName := ⟨RX8, "<init>", "()V"⟩
abbrev cX8_copyFrom : ByteArray := prog_10_method_2_code
def yX8_copyFrom : MethodName := ⟨RX8, "copyFrom", "(LPaintedLines$Words;)V"⟩
abbrev cX8_has : ByteArray := prog_10_method_3_code
def yX8_has : MethodName := ⟨RX8, "has", "(LPaintedLines$Row;II)Z"⟩
abbrev cX8_add : ByteArray := prog_10_method_4_code
def yX8_add : MethodName := ⟨RX8, "add", "(LPaintedLines$Row;)V"⟩
abbrev cX8_removeWith : ByteArray := prog_10_method_5_code
def yX8_removeWith : MethodName := ⟨RX8, "removeWith", "(I)I"⟩
def RX9 : String := "PaintedLines"
def TX9 : u_T := fun k => match k with
  | 0 => ("PaintedLines", "text", "LPaintedLines$Row;", true)
  | 1 => ("PaintedLines", "page", "LPaintedLines$Page;", true)
  | 2 => ("PaintedLines", "history", "LPaintedLines$History;", true)
  | 3 => ("PaintedLines", "refused", "[I", true)
  | _ => ("PaintedLines", "anewCount", "I", false)
def tyX9 : Nat → FieldType := fun k => match k with
  | 0 => .object "PaintedLines$Row"
  | 1 => .object "PaintedLines$Page"
  | 2 => .object "PaintedLines$History"
  | 3 => .array .int
  | _ => .int
abbrev wsX90 : List Cond := u_ws RX9 TX9 5
theorem nmX9 : ∀ a, a < 5 → ∀ b, b < 5 → a ≠ b → (TX9 a).2.1 ≠ (TX9 b).2.1 := by decide +kernel
theorem tyX9_ok : ∀ k, k < 5 → parseFieldDescriptor (TX9 k).2.2.1 = some (tyX9 k) := by decide +kernel
abbrev cX9_init : ByteArray := prog_1_method_1_code
def yX9_init : MethodName := ⟨RX9, "<init>", "()V"⟩
abbrev cX9_type : ByteArray := prog_1_method_2_code
def yX9_type : MethodName := ⟨RX9, "type", "(I)I"⟩
abbrev cX9_clear : ByteArray := prog_1_method_3_code
def yX9_clear : MethodName := ⟨RX9, "clear", "()I"⟩
abbrev cX9_inserts : ByteArray := prog_1_method_4_code
def yX9_inserts : MethodName := ⟨RX9, "inserts", "(I)I"⟩
abbrev cX9_sets : ByteArray := prog_1_method_5_code
def yX9_sets : MethodName := ⟨RX9, "sets", "(I)I"⟩
abbrev cX9_drops : ByteArray := prog_1_method_6_code
def yX9_drops : MethodName := ⟨RX9, "drops", "(I)I"⟩
abbrev cX9_puts : ByteArray := prog_1_method_7_code
def yX9_puts : MethodName := ⟨RX9, "puts", "(III)I"⟩
abbrev cX9_erases : ByteArray := prog_1_method_8_code
def yX9_erases : MethodName := ⟨RX9, "erases", "(II)I"⟩
abbrev cX9_splits : ByteArray := prog_1_method_9_code
def yX9_splits : MethodName := ⟨RX9, "splits", "(II)I"⟩
abbrev cX9_word : ByteArray := prog_1_method_10_code
def yX9_word : MethodName := ⟨RX9, "word", "()I"⟩
abbrev cX9_unword : ByteArray := prog_1_method_11_code
def yX9_unword : MethodName := ⟨RX9, "unword", "(I)I"⟩
abbrev cX9_rule : ByteArray := prog_1_method_12_code
def yX9_rule : MethodName := ⟨RX9, "rule", "(III)I"⟩
abbrev cX9_at : ByteArray := prog_1_method_13_code
def yX9_at : MethodName := ⟨RX9, "at", "(III)I"⟩
abbrev cX9_of : ByteArray := prog_1_method_14_code
def yX9_of : MethodName := ⟨RX9, "of", "(II)I"⟩
abbrev cX9_span : ByteArray := prog_1_method_15_code
def yX9_span : MethodName := ⟨RX9, "span", "(III)I"⟩
abbrev cX9_anew : ByteArray := prog_1_method_16_code
def yX9_anew : MethodName := ⟨RX9, "anew", "()I"⟩
abbrev cX9_painted : ByteArray := prog_1_method_17_code
def yX9_painted : MethodName := ⟨RX9, "painted", "(I)I"⟩
abbrev cX9_back : ByteArray := prog_1_method_18_code
def yX9_back : MethodName := ⟨RX9, "back", "()I"⟩
abbrev cX9_told : ByteArray := prog_1_method_19_code
def yX9_told : MethodName := ⟨RX9, "told", "(I)I"⟩
abbrev cX9_digest : ByteArray := prog_1_method_20_code
def yX9_digest : MethodName := ⟨RX9, "digest", "()J"⟩
abbrev cX9_digestLine : ByteArray := prog_1_method_21_code
def yX9_digestLine : MethodName := ⟨RX9, "digestLine", "(JI)J"⟩
abbrev cX9_refuse : ByteArray := prog_1_method_22_code
def yX9_refuse : MethodName := ⟨RX9, "refuse", "(I)I"⟩
abbrev cX9_isByte : ByteArray := prog_1_method_23_code
def yX9_isByte : MethodName := ⟨RX9, "isByte", "(I)Z"⟩
abbrev cX9_isLetter : ByteArray := prog_1_method_24_code
def yX9_isLetter : MethodName := ⟨RX9, "isLetter", "(I)Z"⟩
abbrev cX9_isFigure : ByteArray := prog_1_method_25_code
def yX9_isFigure : MethodName := ⟨RX9, "isFigure", "(I)Z"⟩
abbrev cX9_isCapital : ByteArray := prog_1_method_26_code
def yX9_isCapital : MethodName := ⟨RX9, "isCapital", "(I)Z"⟩
abbrev cX9_isQuote : ByteArray := prog_1_method_27_code
def yX9_isQuote : MethodName := ⟨RX9, "isQuote", "(I)Z"⟩
abbrev cX9_isWordLike : ByteArray := prog_1_method_28_code
def yX9_isWordLike : MethodName := ⟨RX9, "isWordLike", "(LPaintedLines$Row;)Z"⟩
def RX10 : String := "PaintedLinesModel"
def TX10 : u_T := fun k => match k with
  | 0 => ("PaintedLinesModel", "now", "[I", true)
  | 1 => ("PaintedLinesModel", "past", "[I", true)
  | 2 => ("PaintedLinesModel", "states", "I", false)
  | 3 => ("PaintedLinesModel", "refusals", "[I", true)
  | 4 => ("PaintedLinesModel", "text", "[I", true)
  | 5 => ("PaintedLinesModel", "bytes", "I", false)
  | 6 => ("PaintedLinesModel", "anewMany", "I", false)
  | 7 => ("PaintedLinesModel", "colours", "[I", true)
  | 8 => ("PaintedLinesModel", "modes", "[I", true)
  | 9 => ("PaintedLinesModel", "ends", "[I", true)
  | 10 => ("PaintedLinesModel", "endsAhead", "[I", true)
  | 11 => ("PaintedLinesModel", "was", "[I", true)
  | 12 => ("PaintedLinesModel", "pile", "I", false)
  | 13 => ("PaintedLinesModel", "piled", "I", false)
  | 14 => ("PaintedLinesModel", "mark", "I", false)
  | 15 => ("PaintedLinesModel", "line", "I", false)
  | 16 => ("PaintedLinesModel", "place", "I", false)
  | _ => ("PaintedLinesModel", "hash", "J", false)
def tyX10 : Nat → FieldType := fun k => match k with
  | 0 => .array .int
  | 1 => .array .int
  | 2 => .int
  | 3 => .array .int
  | 4 => .array .int
  | 5 => .int
  | 6 => .int
  | 7 => .array .int
  | 8 => .array .int
  | 9 => .array .int
  | 10 => .array .int
  | 11 => .array .int
  | 12 => .int
  | 13 => .int
  | 14 => .int
  | 15 => .int
  | 16 => .int
  | _ => .long
abbrev wsX100 : List Cond := u_ws RX10 TX10 18
theorem nmX10 : ∀ a, a < 18 → ∀ b, b < 18 → a ≠ b → (TX10 a).2.1 ≠ (TX10 b).2.1 := by decide +kernel
theorem tyX10_ok : ∀ k, k < 18 → parseFieldDescriptor (TX10 k).2.2.1 = some (tyX10 k) := by decide +kernel
abbrev cX10_init : ByteArray := prog_12_method_1_code
def yX10_init : MethodName := ⟨RX10, "<init>", "()V"⟩
abbrev cX10_in : ByteArray := prog_12_method_3_code
def yX10_in : MethodName := ⟨RX10, "in", "(III)Z"⟩
abbrev cX10_refuses : ByteArray := prog_12_method_4_code
def yX10_refuses : MethodName := ⟨RX10, "refuses", "(I)I"⟩
abbrev cX10_remembers : ByteArray := prog_12_method_5_code
def yX10_remembers : MethodName := ⟨RX10, "remembers", "()V"⟩
abbrev cX10_top : ByteArray := prog_12_method_6_code
def yX10_top : MethodName := ⟨RX10, "top", "()I"⟩
abbrev cX10_comesOn : ByteArray := prog_12_method_7_code
def yX10_comesOn : MethodName := ⟨RX10, "comesOn", "(I)Z"⟩
abbrev cX10_goesOff : ByteArray := prog_12_method_8_code
def yX10_goesOff : MethodName := ⟨RX10, "goesOff", "()V"⟩
abbrev cX10_standing : ByteArray := prog_12_method_9_code
def yX10_standing : MethodName := ⟨RX10, "standing", "()I"⟩
abbrev cX10_manyOf : ByteArray := prog_12_method_10_code
def yX10_manyOf : MethodName := ⟨RX10, "manyOf", "(I)I"⟩
abbrev cX10_topOf : ByteArray := prog_12_method_11_code
def yX10_topOf : MethodName := ⟨RX10, "topOf", "(I)I"⟩
abbrev cX10_modeOf : ByteArray := prog_12_method_12_code
def yX10_modeOf : MethodName := ⟨RX10, "modeOf", "(I)I"⟩
abbrev cX10_byteAt : ByteArray := prog_12_method_13_code
def yX10_byteAt : MethodName := ⟨RX10, "byteAt", "(I)I"⟩
abbrev cX10_isLetter : ByteArray := prog_12_method_14_code
def yX10_isLetter : MethodName := ⟨RX10, "isLetter", "(I)Z"⟩
abbrev cX10_isFigure : ByteArray := prog_12_method_15_code
def yX10_isFigure : MethodName := ⟨RX10, "isFigure", "(I)Z"⟩
abbrev cX10_colour : ByteArray := prog_12_method_16_code
def yX10_colour : MethodName := ⟨RX10, "colour", "(II)V"⟩
abbrev cX10_pushes : ByteArray := prog_12_method_17_code
def yX10_pushes : MethodName := ⟨RX10, "pushes", "(II)V"⟩
abbrev cX10_isWord : ByteArray := prog_12_method_18_code
def yX10_isWord : MethodName := ⟨RX10, "isWord", "(II)Z"⟩
abbrev cX10_letters : ByteArray := prog_12_method_19_code
def yX10_letters : MethodName := ⟨RX10, "letters", "()I"⟩
abbrev cX10_figures : ByteArray := prog_12_method_20_code
def yX10_figures : MethodName := ⟨RX10, "figures", "()I"⟩
abbrev cX10_paintsCode : ByteArray := prog_12_method_21_code
def yX10_paintsCode : MethodName := ⟨RX10, "paintsCode", "(I)I"⟩
abbrev cX10_paintsString : ByteArray := prog_12_method_22_code
def yX10_paintsString : MethodName := ⟨RX10, "paintsString", "()V"⟩
abbrev cX10_paintsRemark : ByteArray := prog_12_method_23_code
def yX10_paintsRemark : MethodName := ⟨RX10, "paintsRemark", "()V"⟩
abbrev cX10_paintsMarked : ByteArray := prog_12_method_24_code
def yX10_paintsMarked : MethodName := ⟨RX10, "paintsMarked", "()V"⟩
abbrev cX10_paintsLine : ByteArray := prog_12_method_25_code
def yX10_paintsLine : MethodName := ⟨RX10, "paintsLine", "()V"⟩
abbrev cX10_paints : ByteArray := prog_12_method_26_code
def yX10_paints : MethodName := ⟨RX10, "paints", "()V"⟩
abbrev cX10_changes : ByteArray := prog_12_method_27_code
def yX10_changes : MethodName := ⟨RX10, "changes", "(II)V"⟩
abbrev cX10_type : ByteArray := prog_12_method_28_code
def yX10_type : MethodName := ⟨RX10, "type", "(I)I"⟩
abbrev cX10_clear : ByteArray := prog_12_method_29_code
def yX10_clear : MethodName := ⟨RX10, "clear", "()I"⟩
abbrev cX10_isLine : ByteArray := prog_12_method_30_code
def yX10_isLine : MethodName := ⟨RX10, "isLine", "(I)Z"⟩
abbrev cX10_takesText : ByteArray := prog_12_method_31_code
def yX10_takesText : MethodName := ⟨RX10, "takesText", "(I)V"⟩
abbrev cX10_moves : ByteArray := prog_12_method_32_code
def yX10_moves : MethodName := ⟨RX10, "moves", "(II)V"⟩
abbrev cX10_opens : ByteArray := prog_12_method_33_code
def yX10_opens : MethodName := ⟨RX10, "opens", "(I)V"⟩
abbrev cX10_inserts : ByteArray := prog_12_method_34_code
def yX10_inserts : MethodName := ⟨RX10, "inserts", "(I)I"⟩
abbrev cX10_sets : ByteArray := prog_12_method_35_code
def yX10_sets : MethodName := ⟨RX10, "sets", "(I)I"⟩
abbrev cX10_drops : ByteArray := prog_12_method_36_code
def yX10_drops : MethodName := ⟨RX10, "drops", "(I)I"⟩
abbrev cX10_puts : ByteArray := prog_12_method_37_code
def yX10_puts : MethodName := ⟨RX10, "puts", "(III)I"⟩
abbrev cX10_erases : ByteArray := prog_12_method_38_code
def yX10_erases : MethodName := ⟨RX10, "erases", "(II)I"⟩
abbrev cX10_splits : ByteArray := prog_12_method_39_code
def yX10_splits : MethodName := ⟨RX10, "splits", "(II)I"⟩
abbrev cX10_isTextWord : ByteArray := prog_12_method_40_code
def yX10_isTextWord : MethodName := ⟨RX10, "isTextWord", "()Z"⟩
abbrev cX10_isTold : ByteArray := prog_12_method_41_code
def yX10_isTold : MethodName := ⟨RX10, "isTold", "()Z"⟩
abbrev cX10_word : ByteArray := prog_12_method_42_code
def yX10_word : MethodName := ⟨RX10, "word", "()I"⟩
abbrev cX10_unword : ByteArray := prog_12_method_43_code
def yX10_unword : MethodName := ⟨RX10, "unword", "(I)I"⟩
abbrev cX10_rule : ByteArray := prog_12_method_44_code
def yX10_rule : MethodName := ⟨RX10, "rule", "(III)I"⟩
abbrev cX10_shadeOf : ByteArray := prog_12_method_45_code
def yX10_shadeOf : MethodName := ⟨RX10, "shadeOf", "(II)I"⟩
abbrev cX10_byteTold : ByteArray := prog_12_method_46_code
def yX10_byteTold : MethodName := ⟨RX10, "byteTold", "(III)I"⟩
abbrev cX10_at : ByteArray := prog_12_method_47_code
def yX10_at : MethodName := ⟨RX10, "at", "(III)I"⟩
abbrev cX10_begins : ByteArray := prog_12_method_48_code
def yX10_begins : MethodName := ⟨RX10, "begins", "(II)Z"⟩
abbrev cX10_spansOf : ByteArray := prog_12_method_49_code
def yX10_spansOf : MethodName := ⟨RX10, "spansOf", "(I)I"⟩
abbrev cX10_lineTold : ByteArray := prog_12_method_50_code
def yX10_lineTold : MethodName := ⟨RX10, "lineTold", "(II)I"⟩
abbrev cX10_of : ByteArray := prog_12_method_51_code
def yX10_of : MethodName := ⟨RX10, "of", "(II)I"⟩
abbrev cX10_span : ByteArray := prog_12_method_52_code
def yX10_span : MethodName := ⟨RX10, "span", "(III)I"⟩
abbrev cX10_anew : ByteArray := prog_12_method_53_code
def yX10_anew : MethodName := ⟨RX10, "anew", "()I"⟩
abbrev cX10_painted : ByteArray := prog_12_method_54_code
def yX10_painted : MethodName := ⟨RX10, "painted", "(I)I"⟩
abbrev cX10_back : ByteArray := prog_12_method_55_code
def yX10_back : MethodName := ⟨RX10, "back", "()I"⟩
abbrev cX10_toldOf : ByteArray := prog_12_method_56_code
def yX10_toldOf : MethodName := ⟨RX10, "toldOf", "(I)I"⟩
abbrev cX10_told : ByteArray := prog_12_method_57_code
def yX10_told : MethodName := ⟨RX10, "told", "(I)I"⟩
abbrev cX10_mix : ByteArray := prog_12_method_58_code
def yX10_mix : MethodName := ⟨RX10, "mix", "(J)V"⟩
abbrev cX10_digest : ByteArray := prog_12_method_59_code
def yX10_digest : MethodName := ⟨RX10, "digest", "()J"⟩
def RL : String := "PaintedLinesLaw"
abbrev cL_law : ByteArray := code
abbrev vwCl : List vw_C := [(RX0, TX0, 3), (RX1, TX1, 4), (RX2, TX2, 5), (RX3, TX3, 5), (RX4, TX4, 3), (RX5, TX5, 2), (RX6, TX6, 3), (RX7, TX7, 3), (RX8, TX8, 2), (RX9, TX9, 5), (RX10, TX10, 18)]
end
section
theorem dX0_init_0 : decode cX0_init 0 = .ok (.aload_n 0, 1) := by decide +kernel
theorem dX0_init_1 : decode cX0_init 1 = .ok (.invokespecial 3, 3) := by decide +kernel
theorem dX0_init_4 : decode cX0_init 4 = .ok (.aload_n 0, 1) := by decide +kernel
theorem dX0_init_5 : decode cX0_init 5 = .ok (.iconst 5, 1) := by decide +kernel
theorem dX0_init_6 : decode cX0_init 6 = .ok (.anewarray 9, 3) := by decide +kernel
theorem dX0_init_9 : decode cX0_init 9 = .ok (.putfield 11, 3) := by decide +kernel
theorem dX0_init_12 : decode cX0_init 12 = .ok (.iconst 0, 1) := by decide +kernel
theorem dX0_init_13 : decode cX0_init 13 = .ok (.istore_n 1, 1) := by decide +kernel
theorem dX0_init_14 : decode cX0_init 14 = .ok (.iload_n 1, 1) := by decide +kernel
theorem dX0_init_15 : decode cX0_init 15 = .ok (.iconst 5, 1) := by decide +kernel
theorem dX0_init_16 : decode cX0_init 16 = .ok (.if_icmp .ge 22, 3) := by decide +kernel
theorem dX0_init_19 : decode cX0_init 19 = .ok (.aload_n 0, 1) := by decide +kernel
theorem dX0_init_20 : decode cX0_init 20 = .ok (.getfield 11, 3) := by decide +kernel
theorem dX0_init_23 : decode cX0_init 23 = .ok (.iload_n 1, 1) := by decide +kernel
theorem dX0_init_24 : decode cX0_init 24 = .ok (.new 9, 3) := by decide +kernel
theorem dX0_init_27 : decode cX0_init 27 = .ok (.dup, 1) := by decide +kernel
theorem dX0_init_28 : decode cX0_init 28 = .ok (.invokespecial 17, 3) := by decide +kernel
theorem dX0_init_31 : decode cX0_init 31 = .ok (.aastore, 1) := by decide +kernel
theorem dX0_init_32 : decode cX0_init 32 = .ok (.iinc 1 1, 3) := by decide +kernel
theorem dX0_init_35 : decode cX0_init 35 = .ok (.goto (-21), 3) := by decide +kernel
theorem dX0_init_38 : decode cX0_init 38 = .ok (.aload_n 0, 1) := by decide +kernel
theorem dX0_init_39 : decode cX0_init 39 = .ok (.iconst 0, 1) := by decide +kernel
theorem dX0_init_40 : decode cX0_init 40 = .ok (.putfield 18, 3) := by decide +kernel
theorem dX0_init_43 : decode cX0_init 43 = .ok (.aload_n 0, 1) := by decide +kernel
theorem dX0_init_44 : decode cX0_init 44 = .ok (.iconst 0, 1) := by decide +kernel
theorem dX0_init_45 : decode cX0_init 45 = .ok (.putfield 22, 3) := by decide +kernel
theorem dX0_init_48 : decode cX0_init 48 = .ok (.return_, 1) := by decide +kernel
theorem dX0_keep_0 : decode cX0_keep 0 = .ok (.aload_n 0, 1) := by decide +kernel
theorem dX0_keep_1 : decode cX0_keep 1 = .ok (.getfield 11, 3) := by decide +kernel
theorem dX0_keep_4 : decode cX0_keep 4 = .ok (.aload_n 0, 1) := by decide +kernel
theorem dX0_keep_5 : decode cX0_keep 5 = .ok (.getfield 22, 3) := by decide +kernel
theorem dX0_keep_8 : decode cX0_keep 8 = .ok (.aaload, 1) := by decide +kernel
theorem dX0_keep_9 : decode cX0_keep 9 = .ok (.aload_n 1, 1) := by decide +kernel
theorem dX0_keep_10 : decode cX0_keep 10 = .ok (.invokevirtual 25, 3) := by decide +kernel
theorem dX0_keep_13 : decode cX0_keep 13 = .ok (.aload_n 0, 1) := by decide +kernel
theorem dX0_keep_14 : decode cX0_keep 14 = .ok (.aload_n 0, 1) := by decide +kernel
theorem dX0_keep_15 : decode cX0_keep 15 = .ok (.getfield 22, 3) := by decide +kernel
theorem dX0_keep_18 : decode cX0_keep 18 = .ok (.iconst 1, 1) := by decide +kernel
theorem dX0_keep_19 : decode cX0_keep 19 = .ok (.iadd, 1) := by decide +kernel
theorem dX0_keep_20 : decode cX0_keep 20 = .ok (.iconst 5, 1) := by decide +kernel
theorem dX0_keep_21 : decode cX0_keep 21 = .ok (.if_icmp .ge 12, 3) := by decide +kernel
theorem dX0_keep_24 : decode cX0_keep 24 = .ok (.aload_n 0, 1) := by decide +kernel
theorem dX0_keep_25 : decode cX0_keep 25 = .ok (.getfield 22, 3) := by decide +kernel
theorem dX0_keep_28 : decode cX0_keep 28 = .ok (.iconst 1, 1) := by decide +kernel
theorem dX0_keep_29 : decode cX0_keep 29 = .ok (.iadd, 1) := by decide +kernel
theorem dX0_keep_30 : decode cX0_keep 30 = .ok (.goto 4, 3) := by decide +kernel
theorem dX0_keep_33 : decode cX0_keep 33 = .ok (.iconst 0, 1) := by decide +kernel
theorem dX0_keep_34 : decode cX0_keep 34 = .ok (.putfield 22, 3) := by decide +kernel
theorem dX0_keep_37 : decode cX0_keep 37 = .ok (.aload_n 0, 1) := by decide +kernel
theorem dX0_keep_38 : decode cX0_keep 38 = .ok (.aload_n 0, 1) := by decide +kernel
theorem dX0_keep_39 : decode cX0_keep 39 = .ok (.getfield 18, 3) := by decide +kernel
theorem dX0_keep_42 : decode cX0_keep 42 = .ok (.iconst 1, 1) := by decide +kernel
theorem dX0_keep_43 : decode cX0_keep 43 = .ok (.iadd, 1) := by decide +kernel
theorem dX0_keep_44 : decode cX0_keep 44 = .ok (.iconst 5, 1) := by decide +kernel
theorem dX0_keep_45 : decode cX0_keep 45 = .ok (.invokestatic 29, 3) := by decide +kernel
theorem dX0_keep_48 : decode cX0_keep 48 = .ok (.putfield 18, 3) := by decide +kernel
theorem dX0_keep_51 : decode cX0_keep 51 = .ok (.return_, 1) := by decide +kernel
theorem dX0_giveBack_0 : decode cX0_giveBack 0 = .ok (.aload_n 0, 1) := by decide +kernel
theorem dX0_giveBack_1 : decode cX0_giveBack 1 = .ok (.getfield 18, 3) := by decide +kernel
theorem dX0_giveBack_4 : decode cX0_giveBack 4 = .ok (.ifCond .ne 4, 3) := by decide +kernel
theorem dX0_giveBack_7 : decode cX0_giveBack 7 = .ok (.return_, 1) := by decide +kernel
theorem dX0_giveBack_8 : decode cX0_giveBack 8 = .ok (.aload_n 0, 1) := by decide +kernel
theorem dX0_giveBack_9 : decode cX0_giveBack 9 = .ok (.aload_n 0, 1) := by decide +kernel
theorem dX0_giveBack_10 : decode cX0_giveBack 10 = .ok (.getfield 22, 3) := by decide +kernel
theorem dX0_giveBack_13 : decode cX0_giveBack 13 = .ok (.ifCond .le 12, 3) := by decide +kernel
theorem dX0_giveBack_16 : decode cX0_giveBack 16 = .ok (.aload_n 0, 1) := by decide +kernel
theorem dX0_giveBack_17 : decode cX0_giveBack 17 = .ok (.getfield 22, 3) := by decide +kernel
theorem dX0_giveBack_20 : decode cX0_giveBack 20 = .ok (.iconst 1, 1) := by decide +kernel
theorem dX0_giveBack_21 : decode cX0_giveBack 21 = .ok (.isub, 1) := by decide +kernel
theorem dX0_giveBack_22 : decode cX0_giveBack 22 = .ok (.goto 4, 3) := by decide +kernel
theorem dX0_giveBack_25 : decode cX0_giveBack 25 = .ok (.iconst 4, 1) := by decide +kernel
theorem dX0_giveBack_26 : decode cX0_giveBack 26 = .ok (.putfield 22, 3) := by decide +kernel
theorem dX0_giveBack_29 : decode cX0_giveBack 29 = .ok (.aload_n 0, 1) := by decide +kernel
theorem dX0_giveBack_30 : decode cX0_giveBack 30 = .ok (.dup, 1) := by decide +kernel
theorem dX0_giveBack_31 : decode cX0_giveBack 31 = .ok (.getfield 18, 3) := by decide +kernel
theorem dX0_giveBack_34 : decode cX0_giveBack 34 = .ok (.iconst 1, 1) := by decide +kernel
theorem dX0_giveBack_35 : decode cX0_giveBack 35 = .ok (.isub, 1) := by decide +kernel
theorem dX0_giveBack_36 : decode cX0_giveBack 36 = .ok (.putfield 18, 3) := by decide +kernel
theorem dX0_giveBack_39 : decode cX0_giveBack 39 = .ok (.aload_n 0, 1) := by decide +kernel
theorem dX0_giveBack_40 : decode cX0_giveBack 40 = .ok (.getfield 11, 3) := by decide +kernel
theorem dX0_giveBack_43 : decode cX0_giveBack 43 = .ok (.aload_n 0, 1) := by decide +kernel
theorem dX0_giveBack_44 : decode cX0_giveBack 44 = .ok (.getfield 22, 3) := by decide +kernel
theorem dX0_giveBack_47 : decode cX0_giveBack 47 = .ok (.aaload, 1) := by decide +kernel
theorem dX0_giveBack_48 : decode cX0_giveBack 48 = .ok (.aload_n 1, 1) := by decide +kernel
theorem dX0_giveBack_49 : decode cX0_giveBack 49 = .ok (.invokevirtual 35, 3) := by decide +kernel
theorem dX0_giveBack_52 : decode cX0_giveBack 52 = .ok (.return_, 1) := by decide +kernel
theorem dX1_init_0 : decode cX1_init 0 = .ok (.aload_n 0, 1) := by decide +kernel
theorem dX1_init_1 : decode cX1_init 1 = .ok (.invokespecial 3, 3) := by decide +kernel
theorem dX1_init_4 : decode cX1_init 4 = .ok (.aload_n 0, 1) := by decide +kernel
theorem dX1_init_5 : decode cX1_init 5 = .ok (.bipush 10, 2) := by decide +kernel
theorem dX1_init_7 : decode cX1_init 7 = .ok (.anewarray 9, 3) := by decide +kernel
theorem dX1_init_10 : decode cX1_init 10 = .ok (.putfield 11, 3) := by decide +kernel
theorem dX1_init_13 : decode cX1_init 13 = .ok (.iconst 0, 1) := by decide +kernel
theorem dX1_init_14 : decode cX1_init 14 = .ok (.istore_n 1, 1) := by decide +kernel
theorem dX1_init_15 : decode cX1_init 15 = .ok (.iload_n 1, 1) := by decide +kernel
theorem dX1_init_16 : decode cX1_init 16 = .ok (.bipush 10, 2) := by decide +kernel
theorem dX1_init_18 : decode cX1_init 18 = .ok (.if_icmp .ge 24, 3) := by decide +kernel
theorem dX1_init_21 : decode cX1_init 21 = .ok (.aload_n 0, 1) := by decide +kernel
theorem dX1_init_22 : decode cX1_init 22 = .ok (.getfield 11, 3) := by decide +kernel
theorem dX1_init_25 : decode cX1_init 25 = .ok (.iload_n 1, 1) := by decide +kernel
theorem dX1_init_26 : decode cX1_init 26 = .ok (.new 9, 3) := by decide +kernel
theorem dX1_init_29 : decode cX1_init 29 = .ok (.dup, 1) := by decide +kernel
theorem dX1_init_30 : decode cX1_init 30 = .ok (.bipush 30, 2) := by decide +kernel
theorem dX1_init_32 : decode cX1_init 32 = .ok (.invokespecial 17, 3) := by decide +kernel
theorem dX1_init_35 : decode cX1_init 35 = .ok (.aastore, 1) := by decide +kernel
theorem dX1_init_36 : decode cX1_init 36 = .ok (.iinc 1 1, 3) := by decide +kernel
theorem dX1_init_39 : decode cX1_init 39 = .ok (.goto (-24), 3) := by decide +kernel
theorem dX1_init_42 : decode cX1_init 42 = .ok (.aload_n 0, 1) := by decide +kernel
theorem dX1_init_43 : decode cX1_init 43 = .ok (.new 20, 3) := by decide +kernel
theorem dX1_init_46 : decode cX1_init 46 = .ok (.dup, 1) := by decide +kernel
theorem dX1_init_47 : decode cX1_init 47 = .ok (.invokespecial 22, 3) := by decide +kernel
theorem dX1_init_50 : decode cX1_init 50 = .ok (.putfield 23, 3) := by decide +kernel
theorem dX1_init_53 : decode cX1_init 53 = .ok (.aload_n 0, 1) := by decide +kernel
theorem dX1_init_54 : decode cX1_init 54 = .ok (.new 27, 3) := by decide +kernel
theorem dX1_init_57 : decode cX1_init 57 = .ok (.dup, 1) := by decide +kernel
theorem dX1_init_58 : decode cX1_init 58 = .ok (.invokespecial 29, 3) := by decide +kernel
theorem dX1_init_61 : decode cX1_init 61 = .ok (.putfield 30, 3) := by decide +kernel
theorem dX1_init_64 : decode cX1_init 64 = .ok (.aload_n 0, 1) := by decide +kernel
theorem dX1_init_65 : decode cX1_init 65 = .ok (.iconst 0, 1) := by decide +kernel
theorem dX1_init_66 : decode cX1_init 66 = .ok (.putfield 34, 3) := by decide +kernel
theorem dX1_init_69 : decode cX1_init 69 = .ok (.return_, 1) := by decide +kernel
theorem dX1_take_0 : decode cX1_take 0 = .ok (.aload_n 0, 1) := by decide +kernel
theorem dX1_take_1 : decode cX1_take 1 = .ok (.aload_n 1, 1) := by decide +kernel
theorem dX1_take_2 : decode cX1_take 2 = .ok (.getfield 38, 3) := by decide +kernel
theorem dX1_take_5 : decode cX1_take 5 = .ok (.putfield 34, 3) := by decide +kernel
theorem dX1_take_8 : decode cX1_take 8 = .ok (.iconst 0, 1) := by decide +kernel
theorem dX1_take_9 : decode cX1_take 9 = .ok (.istore_n 2, 1) := by decide +kernel
theorem dX1_take_10 : decode cX1_take 10 = .ok (.iload_n 2, 1) := by decide +kernel
theorem dX1_take_11 : decode cX1_take 11 = .ok (.aload_n 0, 1) := by decide +kernel
theorem dX1_take_12 : decode cX1_take 12 = .ok (.getfield 34, 3) := by decide +kernel
theorem dX1_take_15 : decode cX1_take 15 = .ok (.if_icmp .ge 27, 3) := by decide +kernel
theorem dX1_take_18 : decode cX1_take 18 = .ok (.aload_n 0, 1) := by decide +kernel
theorem dX1_take_19 : decode cX1_take 19 = .ok (.getfield 11, 3) := by decide +kernel
theorem dX1_take_22 : decode cX1_take 22 = .ok (.iload_n 2, 1) := by decide +kernel
theorem dX1_take_23 : decode cX1_take 23 = .ok (.aaload, 1) := by decide +kernel
theorem dX1_take_24 : decode cX1_take 24 = .ok (.aload_n 1, 1) := by decide +kernel
theorem dX1_take_25 : decode cX1_take 25 = .ok (.getfield 41, 3) := by decide +kernel
theorem dX1_take_28 : decode cX1_take 28 = .ok (.iload_n 2, 1) := by decide +kernel
theorem dX1_take_29 : decode cX1_take 29 = .ok (.aaload, 1) := by decide +kernel
theorem dX1_take_30 : decode cX1_take 30 = .ok (.getfield 45, 3) := by decide +kernel
theorem dX1_take_33 : decode cX1_take 33 = .ok (.invokevirtual 51, 3) := by decide +kernel
theorem dX1_take_36 : decode cX1_take 36 = .ok (.iinc 2 1, 3) := by decide +kernel
theorem dX1_take_39 : decode cX1_take 39 = .ok (.goto (-29), 3) := by decide +kernel
theorem dX1_take_42 : decode cX1_take 42 = .ok (.aload_n 0, 1) := by decide +kernel
theorem dX1_take_43 : decode cX1_take 43 = .ok (.getfield 23, 3) := by decide +kernel
theorem dX1_take_46 : decode cX1_take 46 = .ok (.aload_n 1, 1) := by decide +kernel
theorem dX1_take_47 : decode cX1_take 47 = .ok (.getfield 55, 3) := by decide +kernel
theorem dX1_take_50 : decode cX1_take 50 = .ok (.invokevirtual 56, 3) := by decide +kernel
theorem dX1_take_53 : decode cX1_take 53 = .ok (.aload_n 0, 1) := by decide +kernel
theorem dX1_take_54 : decode cX1_take 54 = .ok (.getfield 30, 3) := by decide +kernel
theorem dX1_take_57 : decode cX1_take 57 = .ok (.aload_n 1, 1) := by decide +kernel
theorem dX1_take_58 : decode cX1_take 58 = .ok (.getfield 59, 3) := by decide +kernel
theorem dX1_take_61 : decode cX1_take 61 = .ok (.invokevirtual 60, 3) := by decide +kernel
theorem dX1_take_64 : decode cX1_take 64 = .ok (.return_, 1) := by decide +kernel
theorem dX1_give_0 : decode cX1_give 0 = .ok (.aload_n 1, 1) := by decide +kernel
theorem dX1_give_1 : decode cX1_give 1 = .ok (.aload_n 0, 1) := by decide +kernel
theorem dX1_give_2 : decode cX1_give 2 = .ok (.getfield 34, 3) := by decide +kernel
theorem dX1_give_5 : decode cX1_give 5 = .ok (.putfield 38, 3) := by decide +kernel
theorem dX1_give_8 : decode cX1_give 8 = .ok (.iconst 0, 1) := by decide +kernel
theorem dX1_give_9 : decode cX1_give 9 = .ok (.istore_n 2, 1) := by decide +kernel
theorem dX1_give_10 : decode cX1_give 10 = .ok (.iload_n 2, 1) := by decide +kernel
theorem dX1_give_11 : decode cX1_give 11 = .ok (.aload_n 0, 1) := by decide +kernel
theorem dX1_give_12 : decode cX1_give 12 = .ok (.getfield 34, 3) := by decide +kernel
theorem dX1_give_15 : decode cX1_give 15 = .ok (.if_icmp .ge 27, 3) := by decide +kernel
theorem dX1_give_18 : decode cX1_give 18 = .ok (.aload_n 1, 1) := by decide +kernel
theorem dX1_give_19 : decode cX1_give 19 = .ok (.getfield 41, 3) := by decide +kernel
theorem dX1_give_22 : decode cX1_give 22 = .ok (.iload_n 2, 1) := by decide +kernel
theorem dX1_give_23 : decode cX1_give 23 = .ok (.aaload, 1) := by decide +kernel
theorem dX1_give_24 : decode cX1_give 24 = .ok (.getfield 45, 3) := by decide +kernel
theorem dX1_give_27 : decode cX1_give 27 = .ok (.aload_n 0, 1) := by decide +kernel
theorem dX1_give_28 : decode cX1_give 28 = .ok (.getfield 11, 3) := by decide +kernel
theorem dX1_give_31 : decode cX1_give 31 = .ok (.iload_n 2, 1) := by decide +kernel
theorem dX1_give_32 : decode cX1_give 32 = .ok (.aaload, 1) := by decide +kernel
theorem dX1_give_33 : decode cX1_give 33 = .ok (.invokevirtual 51, 3) := by decide +kernel
theorem dX1_give_36 : decode cX1_give 36 = .ok (.iinc 2 1, 3) := by decide +kernel
theorem dX1_give_39 : decode cX1_give 39 = .ok (.goto (-29), 3) := by decide +kernel
theorem dX1_give_42 : decode cX1_give 42 = .ok (.aload_n 1, 1) := by decide +kernel
theorem dX1_give_43 : decode cX1_give 43 = .ok (.getfield 55, 3) := by decide +kernel
theorem dX1_give_46 : decode cX1_give 46 = .ok (.aload_n 0, 1) := by decide +kernel
theorem dX1_give_47 : decode cX1_give 47 = .ok (.getfield 23, 3) := by decide +kernel
theorem dX1_give_50 : decode cX1_give 50 = .ok (.invokevirtual 56, 3) := by decide +kernel
theorem dX1_give_53 : decode cX1_give 53 = .ok (.aload_n 1, 1) := by decide +kernel
theorem dX1_give_54 : decode cX1_give 54 = .ok (.getfield 59, 3) := by decide +kernel
theorem dX1_give_57 : decode cX1_give 57 = .ok (.aload_n 0, 1) := by decide +kernel
theorem dX1_give_58 : decode cX1_give 58 = .ok (.getfield 30, 3) := by decide +kernel
theorem dX1_give_61 : decode cX1_give 61 = .ok (.invokevirtual 60, 3) := by decide +kernel
theorem dX1_give_64 : decode cX1_give 64 = .ok (.return_, 1) := by decide +kernel
theorem dX2_init_0 : decode cX2_init 0 = .ok (.aload_n 0, 1) := by decide +kernel
theorem dX2_init_1 : decode cX2_init 1 = .ok (.invokespecial 3, 3) := by decide +kernel
theorem dX2_init_4 : decode cX2_init 4 = .ok (.aload_n 0, 1) := by decide +kernel
theorem dX2_init_5 : decode cX2_init 5 = .ok (.new 9, 3) := by decide +kernel
theorem dX2_init_8 : decode cX2_init 8 = .ok (.dup, 1) := by decide +kernel
theorem dX2_init_9 : decode cX2_init 9 = .ok (.bipush 30, 2) := by decide +kernel
theorem dX2_init_11 : decode cX2_init 11 = .ok (.invokespecial 11, 3) := by decide +kernel
theorem dX2_init_14 : decode cX2_init 14 = .ok (.putfield 14, 3) := by decide +kernel
theorem dX2_init_17 : decode cX2_init 17 = .ok (.aload_n 0, 1) := by decide +kernel
theorem dX2_init_18 : decode cX2_init 18 = .ok (.bipush 30, 2) := by decide +kernel
theorem dX2_init_20 : decode cX2_init 20 = .ok (.newarray .int, 2) := by decide +kernel
theorem dX2_init_22 : decode cX2_init 22 = .ok (.putfield 20, 3) := by decide +kernel
theorem dX2_init_25 : decode cX2_init 25 = .ok (.aload_n 0, 1) := by decide +kernel
theorem dX2_init_26 : decode cX2_init 26 = .ok (.bipush 30, 2) := by decide +kernel
theorem dX2_init_28 : decode cX2_init 28 = .ok (.newarray .int, 2) := by decide +kernel
theorem dX2_init_30 : decode cX2_init 30 = .ok (.putfield 24, 3) := by decide +kernel
theorem dX2_init_33 : decode cX2_init 33 = .ok (.aload_n 0, 1) := by decide +kernel
theorem dX2_init_34 : decode cX2_init 34 = .ok (.new 27, 3) := by decide +kernel
theorem dX2_init_37 : decode cX2_init 37 = .ok (.dup, 1) := by decide +kernel
theorem dX2_init_38 : decode cX2_init 38 = .ok (.invokespecial 29, 3) := by decide +kernel
theorem dX2_init_41 : decode cX2_init 41 = .ok (.putfield 30, 3) := by decide +kernel
theorem dX2_init_44 : decode cX2_init 44 = .ok (.aload_n 0, 1) := by decide +kernel
theorem dX2_init_45 : decode cX2_init 45 = .ok (.iconst 1, 1) := by decide +kernel
theorem dX2_init_46 : decode cX2_init 46 = .ok (.putfield 34, 3) := by decide +kernel
theorem dX2_init_49 : decode cX2_init 49 = .ok (.return_, 1) := by decide +kernel
theorem dX2_fill_0 : decode cX2_fill 0 = .ok (.iconst 0, 1) := by decide +kernel
theorem dX2_fill_1 : decode cX2_fill 1 = .ok (.iload_n 1, 1) := by decide +kernel
theorem dX2_fill_2 : decode cX2_fill 2 = .ok (.invokestatic 38, 3) := by decide +kernel
theorem dX2_fill_5 : decode cX2_fill 5 = .ok (.istore 5, 2) := by decide +kernel
theorem dX2_fill_7 : decode cX2_fill 7 = .ok (.iload 5, 2) := by decide +kernel
theorem dX2_fill_9 : decode cX2_fill 9 = .ok (.iload_n 2, 1) := by decide +kernel
theorem dX2_fill_10 : decode cX2_fill 10 = .ok (.if_icmp .ge 38, 3) := by decide +kernel
theorem dX2_fill_13 : decode cX2_fill 13 = .ok (.iload 5, 2) := by decide +kernel
theorem dX2_fill_15 : decode cX2_fill 15 = .ok (.aload_n 0, 1) := by decide +kernel
theorem dX2_fill_16 : decode cX2_fill 16 = .ok (.getfield 14, 3) := by decide +kernel
theorem dX2_fill_19 : decode cX2_fill 19 = .ok (.getfield 44, 3) := by decide +kernel
theorem dX2_fill_22 : decode cX2_fill 22 = .ok (.if_icmp .ge 26, 3) := by decide +kernel
theorem dX2_fill_25 : decode cX2_fill 25 = .ok (.aload_n 0, 1) := by decide +kernel
theorem dX2_fill_26 : decode cX2_fill 26 = .ok (.getfield 20, 3) := by decide +kernel
theorem dX2_fill_29 : decode cX2_fill 29 = .ok (.iload 5, 2) := by decide +kernel
theorem dX2_fill_31 : decode cX2_fill 31 = .ok (.iload_n 3, 1) := by decide +kernel
theorem dX2_fill_32 : decode cX2_fill 32 = .ok (.iastore, 1) := by decide +kernel
theorem dX2_fill_33 : decode cX2_fill 33 = .ok (.aload_n 0, 1) := by decide +kernel
theorem dX2_fill_34 : decode cX2_fill 34 = .ok (.getfield 24, 3) := by decide +kernel
theorem dX2_fill_37 : decode cX2_fill 37 = .ok (.iload 5, 2) := by decide +kernel
theorem dX2_fill_39 : decode cX2_fill 39 = .ok (.iload 4, 2) := by decide +kernel
theorem dX2_fill_41 : decode cX2_fill 41 = .ok (.iastore, 1) := by decide +kernel
theorem dX2_fill_42 : decode cX2_fill 42 = .ok (.iinc 5 1, 3) := by decide +kernel
theorem dX2_fill_45 : decode cX2_fill 45 = .ok (.goto (-38), 3) := by decide +kernel
theorem dX2_fill_48 : decode cX2_fill 48 = .ok (.iload_n 2, 1) := by decide +kernel
theorem dX2_fill_49 : decode cX2_fill 49 = .ok (.ireturn, 1) := by decide +kernel
theorem dX2_countBytes_0 : decode cX2_countBytes 0 = .ok (.iconst 0, 1) := by decide +kernel
theorem dX2_countBytes_1 : decode cX2_countBytes 1 = .ok (.istore_n 2, 1) := by decide +kernel
theorem dX2_countBytes_2 : decode cX2_countBytes 2 = .ok (.iconst 0, 1) := by decide +kernel
theorem dX2_countBytes_3 : decode cX2_countBytes 3 = .ok (.istore_n 3, 1) := by decide +kernel
theorem dX2_countBytes_4 : decode cX2_countBytes 4 = .ok (.iload_n 3, 1) := by decide +kernel
theorem dX2_countBytes_5 : decode cX2_countBytes 5 = .ok (.aload_n 0, 1) := by decide +kernel
theorem dX2_countBytes_6 : decode cX2_countBytes 6 = .ok (.getfield 14, 3) := by decide +kernel
theorem dX2_countBytes_9 : decode cX2_countBytes 9 = .ok (.getfield 44, 3) := by decide +kernel
theorem dX2_countBytes_12 : decode cX2_countBytes 12 = .ok (.if_icmp .ge 22, 3) := by decide +kernel
theorem dX2_countBytes_15 : decode cX2_countBytes 15 = .ok (.aload_n 0, 1) := by decide +kernel
theorem dX2_countBytes_16 : decode cX2_countBytes 16 = .ok (.getfield 20, 3) := by decide +kernel
theorem dX2_countBytes_19 : decode cX2_countBytes 19 = .ok (.iload_n 3, 1) := by decide +kernel
theorem dX2_countBytes_20 : decode cX2_countBytes 20 = .ok (.iaload, 1) := by decide +kernel
theorem dX2_countBytes_21 : decode cX2_countBytes 21 = .ok (.iload_n 1, 1) := by decide +kernel
theorem dX2_countBytes_22 : decode cX2_countBytes 22 = .ok (.if_icmp .ne 6, 3) := by decide +kernel
theorem dX2_countBytes_25 : decode cX2_countBytes 25 = .ok (.iinc 2 1, 3) := by decide +kernel
theorem dX2_countBytes_28 : decode cX2_countBytes 28 = .ok (.iinc 3 1, 3) := by decide +kernel
theorem dX2_countBytes_31 : decode cX2_countBytes 31 = .ok (.goto (-27), 3) := by decide +kernel
theorem dX2_countBytes_34 : decode cX2_countBytes 34 = .ok (.iload_n 2, 1) := by decide +kernel
theorem dX2_countBytes_35 : decode cX2_countBytes 35 = .ok (.ireturn, 1) := by decide +kernel
theorem dX2_beginsSpan_0 : decode cX2_beginsSpan 0 = .ok (.iload_n 1, 1) := by decide +kernel
theorem dX2_beginsSpan_1 : decode cX2_beginsSpan 1 = .ok (.ifCond .eq 20, 3) := by decide +kernel
theorem dX2_beginsSpan_4 : decode cX2_beginsSpan 4 = .ok (.aload_n 0, 1) := by decide +kernel
theorem dX2_beginsSpan_5 : decode cX2_beginsSpan 5 = .ok (.getfield 20, 3) := by decide +kernel
theorem dX2_beginsSpan_8 : decode cX2_beginsSpan 8 = .ok (.iload_n 1, 1) := by decide +kernel
theorem dX2_beginsSpan_9 : decode cX2_beginsSpan 9 = .ok (.iaload, 1) := by decide +kernel
theorem dX2_beginsSpan_10 : decode cX2_beginsSpan 10 = .ok (.aload_n 0, 1) := by decide +kernel
theorem dX2_beginsSpan_11 : decode cX2_beginsSpan 11 = .ok (.getfield 20, 3) := by decide +kernel
theorem dX2_beginsSpan_14 : decode cX2_beginsSpan 14 = .ok (.iload_n 1, 1) := by decide +kernel
theorem dX2_beginsSpan_15 : decode cX2_beginsSpan 15 = .ok (.iconst 1, 1) := by decide +kernel
theorem dX2_beginsSpan_16 : decode cX2_beginsSpan 16 = .ok (.isub, 1) := by decide +kernel
theorem dX2_beginsSpan_17 : decode cX2_beginsSpan 17 = .ok (.iaload, 1) := by decide +kernel
theorem dX2_beginsSpan_18 : decode cX2_beginsSpan 18 = .ok (.if_icmp .eq 7, 3) := by decide +kernel
theorem dX2_beginsSpan_21 : decode cX2_beginsSpan 21 = .ok (.iconst 1, 1) := by decide +kernel
theorem dX2_beginsSpan_22 : decode cX2_beginsSpan 22 = .ok (.goto 4, 3) := by decide +kernel
theorem dX2_beginsSpan_25 : decode cX2_beginsSpan 25 = .ok (.iconst 0, 1) := by decide +kernel
theorem dX2_beginsSpan_26 : decode cX2_beginsSpan 26 = .ok (.ireturn, 1) := by decide +kernel
theorem dX2_countSpans_0 : decode cX2_countSpans 0 = .ok (.iconst 0, 1) := by decide +kernel
theorem dX2_countSpans_1 : decode cX2_countSpans 1 = .ok (.istore_n 1, 1) := by decide +kernel
theorem dX2_countSpans_2 : decode cX2_countSpans 2 = .ok (.iconst 0, 1) := by decide +kernel
theorem dX2_countSpans_3 : decode cX2_countSpans 3 = .ok (.istore_n 2, 1) := by decide +kernel
theorem dX2_countSpans_4 : decode cX2_countSpans 4 = .ok (.iload_n 2, 1) := by decide +kernel
theorem dX2_countSpans_5 : decode cX2_countSpans 5 = .ok (.aload_n 0, 1) := by decide +kernel
theorem dX2_countSpans_6 : decode cX2_countSpans 6 = .ok (.getfield 14, 3) := by decide +kernel
theorem dX2_countSpans_9 : decode cX2_countSpans 9 = .ok (.getfield 44, 3) := by decide +kernel
theorem dX2_countSpans_12 : decode cX2_countSpans 12 = .ok (.if_icmp .ge 20, 3) := by decide +kernel
theorem dX2_countSpans_15 : decode cX2_countSpans 15 = .ok (.aload_n 0, 1) := by decide +kernel
theorem dX2_countSpans_16 : decode cX2_countSpans 16 = .ok (.iload_n 2, 1) := by decide +kernel
theorem dX2_countSpans_17 : decode cX2_countSpans 17 = .ok (.invokevirtual 48, 3) := by decide +kernel
theorem dX2_countSpans_20 : decode cX2_countSpans 20 = .ok (.ifCond .eq 6, 3) := by decide +kernel
theorem dX2_countSpans_23 : decode cX2_countSpans 23 = .ok (.iinc 1 1, 3) := by decide +kernel
theorem dX2_countSpans_26 : decode cX2_countSpans 26 = .ok (.iinc 2 1, 3) := by decide +kernel
theorem dX2_countSpans_29 : decode cX2_countSpans 29 = .ok (.goto (-25), 3) := by decide +kernel
theorem dX2_countSpans_32 : decode cX2_countSpans 32 = .ok (.iload_n 1, 1) := by decide +kernel
theorem dX2_countSpans_33 : decode cX2_countSpans 33 = .ok (.ireturn, 1) := by decide +kernel
theorem dX2_beginOfSpan_0 : decode cX2_beginOfSpan 0 = .ok (.iconst 0, 1) := by decide +kernel
theorem dX2_beginOfSpan_1 : decode cX2_beginOfSpan 1 = .ok (.istore_n 2, 1) := by decide +kernel
theorem dX2_beginOfSpan_2 : decode cX2_beginOfSpan 2 = .ok (.iconst 0, 1) := by decide +kernel
theorem dX2_beginOfSpan_3 : decode cX2_beginOfSpan 3 = .ok (.istore_n 3, 1) := by decide +kernel
theorem dX2_beginOfSpan_4 : decode cX2_beginOfSpan 4 = .ok (.iload_n 3, 1) := by decide +kernel
theorem dX2_beginOfSpan_5 : decode cX2_beginOfSpan 5 = .ok (.aload_n 0, 1) := by decide +kernel
theorem dX2_beginOfSpan_6 : decode cX2_beginOfSpan 6 = .ok (.getfield 14, 3) := by decide +kernel
theorem dX2_beginOfSpan_9 : decode cX2_beginOfSpan 9 = .ok (.getfield 44, 3) := by decide +kernel
theorem dX2_beginOfSpan_12 : decode cX2_beginOfSpan 12 = .ok (.if_icmp .ge 27, 3) := by decide +kernel
theorem dX2_beginOfSpan_15 : decode cX2_beginOfSpan 15 = .ok (.aload_n 0, 1) := by decide +kernel
theorem dX2_beginOfSpan_16 : decode cX2_beginOfSpan 16 = .ok (.iload_n 3, 1) := by decide +kernel
theorem dX2_beginOfSpan_17 : decode cX2_beginOfSpan 17 = .ok (.invokevirtual 48, 3) := by decide +kernel
theorem dX2_beginOfSpan_20 : decode cX2_beginOfSpan 20 = .ok (.ifCond .eq 13, 3) := by decide +kernel
theorem dX2_beginOfSpan_23 : decode cX2_beginOfSpan 23 = .ok (.iload_n 2, 1) := by decide +kernel
theorem dX2_beginOfSpan_24 : decode cX2_beginOfSpan 24 = .ok (.iload_n 1, 1) := by decide +kernel
theorem dX2_beginOfSpan_25 : decode cX2_beginOfSpan 25 = .ok (.if_icmp .ne 5, 3) := by decide +kernel
theorem dX2_beginOfSpan_28 : decode cX2_beginOfSpan 28 = .ok (.iload_n 3, 1) := by decide +kernel
theorem dX2_beginOfSpan_29 : decode cX2_beginOfSpan 29 = .ok (.ireturn, 1) := by decide +kernel
theorem dX2_beginOfSpan_30 : decode cX2_beginOfSpan 30 = .ok (.iinc 2 1, 3) := by decide +kernel
theorem dX2_beginOfSpan_33 : decode cX2_beginOfSpan 33 = .ok (.iinc 3 1, 3) := by decide +kernel
theorem dX2_beginOfSpan_36 : decode cX2_beginOfSpan 36 = .ok (.goto (-32), 3) := by decide +kernel
theorem dX2_beginOfSpan_39 : decode cX2_beginOfSpan 39 = .ok (.iconst (-1), 1) := by decide +kernel
theorem dX2_beginOfSpan_40 : decode cX2_beginOfSpan 40 = .ok (.ireturn, 1) := by decide +kernel
theorem dX2_endOfSpan_0 : decode cX2_endOfSpan 0 = .ok (.iload_n 1, 1) := by decide +kernel
theorem dX2_endOfSpan_1 : decode cX2_endOfSpan 1 = .ok (.iconst 1, 1) := by decide +kernel
theorem dX2_endOfSpan_2 : decode cX2_endOfSpan 2 = .ok (.iadd, 1) := by decide +kernel
theorem dX2_endOfSpan_3 : decode cX2_endOfSpan 3 = .ok (.istore_n 2, 1) := by decide +kernel
theorem dX2_endOfSpan_4 : decode cX2_endOfSpan 4 = .ok (.iload_n 2, 1) := by decide +kernel
theorem dX2_endOfSpan_5 : decode cX2_endOfSpan 5 = .ok (.aload_n 0, 1) := by decide +kernel
theorem dX2_endOfSpan_6 : decode cX2_endOfSpan 6 = .ok (.getfield 14, 3) := by decide +kernel
theorem dX2_endOfSpan_9 : decode cX2_endOfSpan 9 = .ok (.getfield 44, 3) := by decide +kernel
theorem dX2_endOfSpan_12 : decode cX2_endOfSpan 12 = .ok (.if_icmp .ge 19, 3) := by decide +kernel
theorem dX2_endOfSpan_15 : decode cX2_endOfSpan 15 = .ok (.aload_n 0, 1) := by decide +kernel
theorem dX2_endOfSpan_16 : decode cX2_endOfSpan 16 = .ok (.iload_n 2, 1) := by decide +kernel
theorem dX2_endOfSpan_17 : decode cX2_endOfSpan 17 = .ok (.invokevirtual 48, 3) := by decide +kernel
theorem dX2_endOfSpan_20 : decode cX2_endOfSpan 20 = .ok (.ifCond .eq 5, 3) := by decide +kernel
theorem dX2_endOfSpan_23 : decode cX2_endOfSpan 23 = .ok (.iload_n 2, 1) := by decide +kernel
theorem dX2_endOfSpan_24 : decode cX2_endOfSpan 24 = .ok (.ireturn, 1) := by decide +kernel
theorem dX2_endOfSpan_25 : decode cX2_endOfSpan 25 = .ok (.iinc 2 1, 3) := by decide +kernel
theorem dX2_endOfSpan_28 : decode cX2_endOfSpan 28 = .ok (.goto (-24), 3) := by decide +kernel
theorem dX2_endOfSpan_31 : decode cX2_endOfSpan 31 = .ok (.aload_n 0, 1) := by decide +kernel
theorem dX2_endOfSpan_32 : decode cX2_endOfSpan 32 = .ok (.getfield 14, 3) := by decide +kernel
theorem dX2_endOfSpan_35 : decode cX2_endOfSpan 35 = .ok (.getfield 44, 3) := by decide +kernel
theorem dX2_endOfSpan_38 : decode cX2_endOfSpan 38 = .ok (.ireturn, 1) := by decide +kernel
theorem dX3_init_0 : decode cX3_init 0 = .ok (.aload_n 0, 1) := by decide +kernel
theorem dX3_init_1 : decode cX3_init 1 = .ok (.invokespecial 3, 3) := by decide +kernel
theorem dX3_init_4 : decode cX3_init 4 = .ok (.aload_n 0, 1) := by decide +kernel
theorem dX3_init_5 : decode cX3_init 5 = .ok (.bipush 10, 2) := by decide +kernel
theorem dX3_init_7 : decode cX3_init 7 = .ok (.anewarray 9, 3) := by decide +kernel
theorem dX3_init_10 : decode cX3_init 10 = .ok (.putfield 11, 3) := by decide +kernel
theorem dX3_init_13 : decode cX3_init 13 = .ok (.iconst 0, 1) := by decide +kernel
theorem dX3_init_14 : decode cX3_init 14 = .ok (.istore_n 1, 1) := by decide +kernel
theorem dX3_init_15 : decode cX3_init 15 = .ok (.iload_n 1, 1) := by decide +kernel
theorem dX3_init_16 : decode cX3_init 16 = .ok (.bipush 10, 2) := by decide +kernel
theorem dX3_init_18 : decode cX3_init 18 = .ok (.if_icmp .ge 22, 3) := by decide +kernel
theorem dX3_init_21 : decode cX3_init 21 = .ok (.aload_n 0, 1) := by decide +kernel
theorem dX3_init_22 : decode cX3_init 22 = .ok (.getfield 11, 3) := by decide +kernel
theorem dX3_init_25 : decode cX3_init 25 = .ok (.iload_n 1, 1) := by decide +kernel
theorem dX3_init_26 : decode cX3_init 26 = .ok (.new 9, 3) := by decide +kernel
theorem dX3_init_29 : decode cX3_init 29 = .ok (.dup, 1) := by decide +kernel
theorem dX3_init_30 : decode cX3_init 30 = .ok (.invokespecial 17, 3) := by decide +kernel
theorem dX3_init_33 : decode cX3_init 33 = .ok (.aastore, 1) := by decide +kernel
theorem dX3_init_34 : decode cX3_init 34 = .ok (.iinc 1 1, 3) := by decide +kernel
theorem dX3_init_37 : decode cX3_init 37 = .ok (.goto (-22), 3) := by decide +kernel
theorem dX3_init_40 : decode cX3_init 40 = .ok (.aload_n 0, 1) := by decide +kernel
theorem dX3_init_41 : decode cX3_init 41 = .ok (.new 18, 3) := by decide +kernel
theorem dX3_init_44 : decode cX3_init 44 = .ok (.dup, 1) := by decide +kernel
theorem dX3_init_45 : decode cX3_init 45 = .ok (.invokespecial 20, 3) := by decide +kernel
theorem dX3_init_48 : decode cX3_init 48 = .ok (.putfield 21, 3) := by decide +kernel
theorem dX3_init_51 : decode cX3_init 51 = .ok (.aload_n 0, 1) := by decide +kernel
theorem dX3_init_52 : decode cX3_init 52 = .ok (.new 25, 3) := by decide +kernel
theorem dX3_init_55 : decode cX3_init 55 = .ok (.dup, 1) := by decide +kernel
theorem dX3_init_56 : decode cX3_init 56 = .ok (.invokespecial 27, 3) := by decide +kernel
theorem dX3_init_59 : decode cX3_init 59 = .ok (.putfield 28, 3) := by decide +kernel
theorem dX3_init_62 : decode cX3_init 62 = .ok (.aload_n 0, 1) := by decide +kernel
theorem dX3_init_63 : decode cX3_init 63 = .ok (.new 32, 3) := by decide +kernel
theorem dX3_init_66 : decode cX3_init 66 = .ok (.dup, 1) := by decide +kernel
theorem dX3_init_67 : decode cX3_init 67 = .ok (.aload_n 0, 1) := by decide +kernel
theorem dX3_init_68 : decode cX3_init 68 = .ok (.getfield 21, 3) := by decide +kernel
theorem dX3_init_71 : decode cX3_init 71 = .ok (.invokespecial 34, 3) := by decide +kernel
theorem dX3_init_74 : decode cX3_init 74 = .ok (.putfield 37, 3) := by decide +kernel
theorem dX3_init_77 : decode cX3_init 77 = .ok (.aload_n 0, 1) := by decide +kernel
theorem dX3_init_78 : decode cX3_init 78 = .ok (.iconst 0, 1) := by decide +kernel
theorem dX3_init_79 : decode cX3_init 79 = .ok (.putfield 41, 3) := by decide +kernel
theorem dX3_init_82 : decode cX3_init 82 = .ok (.return_, 1) := by decide +kernel
theorem dX3_hasLine_0 : decode cX3_hasLine 0 = .ok (.iload_n 1, 1) := by decide +kernel
theorem dX3_hasLine_1 : decode cX3_hasLine 1 = .ok (.ifCond .lt 21, 3) := by decide +kernel
theorem dX3_hasLine_4 : decode cX3_hasLine 4 = .ok (.iload_n 1, 1) := by decide +kernel
theorem dX3_hasLine_5 : decode cX3_hasLine 5 = .ok (.aload_n 0, 1) := by decide +kernel
theorem dX3_hasLine_6 : decode cX3_hasLine 6 = .ok (.getfield 41, 3) := by decide +kernel
theorem dX3_hasLine_9 : decode cX3_hasLine 9 = .ok (.if_icmp .ge 13, 3) := by decide +kernel
theorem dX3_hasLine_12 : decode cX3_hasLine 12 = .ok (.iload_n 1, 1) := by decide +kernel
theorem dX3_hasLine_13 : decode cX3_hasLine 13 = .ok (.bipush 10, 2) := by decide +kernel
theorem dX3_hasLine_15 : decode cX3_hasLine 15 = .ok (.if_icmp .ge 7, 3) := by decide +kernel
theorem dX3_hasLine_18 : decode cX3_hasLine 18 = .ok (.iconst 1, 1) := by decide +kernel
theorem dX3_hasLine_19 : decode cX3_hasLine 19 = .ok (.goto 4, 3) := by decide +kernel
theorem dX3_hasLine_22 : decode cX3_hasLine 22 = .ok (.iconst 0, 1) := by decide +kernel
theorem dX3_hasLine_23 : decode cX3_hasLine 23 = .ok (.ireturn, 1) := by decide +kernel
theorem dX3_hasByte_0 : decode cX3_hasByte 0 = .ok (.aload_n 0, 1) := by decide +kernel
theorem dX3_hasByte_1 : decode cX3_hasByte 1 = .ok (.iload_n 1, 1) := by decide +kernel
theorem dX3_hasByte_2 : decode cX3_hasByte 2 = .ok (.invokevirtual 45, 3) := by decide +kernel
theorem dX3_hasByte_5 : decode cX3_hasByte 5 = .ok (.ifCond .eq 27, 3) := by decide +kernel
theorem dX3_hasByte_8 : decode cX3_hasByte 8 = .ok (.iload_n 2, 1) := by decide +kernel
theorem dX3_hasByte_9 : decode cX3_hasByte 9 = .ok (.ifCond .lt 23, 3) := by decide +kernel
theorem dX3_hasByte_12 : decode cX3_hasByte 12 = .ok (.iload_n 2, 1) := by decide +kernel
theorem dX3_hasByte_13 : decode cX3_hasByte 13 = .ok (.aload_n 0, 1) := by decide +kernel
theorem dX3_hasByte_14 : decode cX3_hasByte 14 = .ok (.getfield 11, 3) := by decide +kernel
theorem dX3_hasByte_17 : decode cX3_hasByte 17 = .ok (.iload_n 1, 1) := by decide +kernel
theorem dX3_hasByte_18 : decode cX3_hasByte 18 = .ok (.aaload, 1) := by decide +kernel
theorem dX3_hasByte_19 : decode cX3_hasByte 19 = .ok (.getfield 49, 3) := by decide +kernel
theorem dX3_hasByte_22 : decode cX3_hasByte 22 = .ok (.getfield 53, 3) := by decide +kernel
theorem dX3_hasByte_25 : decode cX3_hasByte 25 = .ok (.if_icmp .ge 7, 3) := by decide +kernel
theorem dX3_hasByte_28 : decode cX3_hasByte 28 = .ok (.iconst 1, 1) := by decide +kernel
theorem dX3_hasByte_29 : decode cX3_hasByte 29 = .ok (.goto 4, 3) := by decide +kernel
theorem dX3_hasByte_32 : decode cX3_hasByte 32 = .ok (.iconst 0, 1) := by decide +kernel
theorem dX3_hasByte_33 : decode cX3_hasByte 33 = .ok (.ireturn, 1) := by decide +kernel
theorem dX3_openLine_0 : decode cX3_openLine 0 = .ok (.iload_n 1, 1) := by decide +kernel
theorem dX3_openLine_1 : decode cX3_openLine 1 = .ok (.ifCond .lt 20, 3) := by decide +kernel
theorem dX3_openLine_4 : decode cX3_openLine 4 = .ok (.iload_n 1, 1) := by decide +kernel
theorem dX3_openLine_5 : decode cX3_openLine 5 = .ok (.aload_n 0, 1) := by decide +kernel
theorem dX3_openLine_6 : decode cX3_openLine 6 = .ok (.getfield 41, 3) := by decide +kernel
theorem dX3_openLine_9 : decode cX3_openLine 9 = .ok (.if_icmp .gt 12, 3) := by decide +kernel
theorem dX3_openLine_12 : decode cX3_openLine 12 = .ok (.aload_n 0, 1) := by decide +kernel
theorem dX3_openLine_13 : decode cX3_openLine 13 = .ok (.getfield 41, 3) := by decide +kernel
theorem dX3_openLine_16 : decode cX3_openLine 16 = .ok (.bipush 10, 2) := by decide +kernel
theorem dX3_openLine_18 : decode cX3_openLine 18 = .ok (.if_icmp .lt 4, 3) := by decide +kernel
theorem dX3_openLine_21 : decode cX3_openLine 21 = .ok (.return_, 1) := by decide +kernel
theorem dX3_openLine_22 : decode cX3_openLine 22 = .ok (.aload_n 0, 1) := by decide +kernel
theorem dX3_openLine_23 : decode cX3_openLine 23 = .ok (.getfield 11, 3) := by decide +kernel
theorem dX3_openLine_26 : decode cX3_openLine 26 = .ok (.aload_n 0, 1) := by decide +kernel
theorem dX3_openLine_27 : decode cX3_openLine 27 = .ok (.getfield 41, 3) := by decide +kernel
theorem dX3_openLine_30 : decode cX3_openLine 30 = .ok (.aaload, 1) := by decide +kernel
theorem dX3_openLine_31 : decode cX3_openLine 31 = .ok (.astore_n 2, 1) := by decide +kernel
theorem dX3_openLine_32 : decode cX3_openLine 32 = .ok (.aload_n 0, 1) := by decide +kernel
theorem dX3_openLine_33 : decode cX3_openLine 33 = .ok (.getfield 41, 3) := by decide +kernel
theorem dX3_openLine_36 : decode cX3_openLine 36 = .ok (.istore_n 3, 1) := by decide +kernel
theorem dX3_openLine_37 : decode cX3_openLine 37 = .ok (.iload_n 3, 1) := by decide +kernel
theorem dX3_openLine_38 : decode cX3_openLine 38 = .ok (.iload_n 1, 1) := by decide +kernel
theorem dX3_openLine_39 : decode cX3_openLine 39 = .ok (.if_icmp .le 23, 3) := by decide +kernel
theorem dX3_openLine_42 : decode cX3_openLine 42 = .ok (.aload_n 0, 1) := by decide +kernel
theorem dX3_openLine_43 : decode cX3_openLine 43 = .ok (.getfield 11, 3) := by decide +kernel
theorem dX3_openLine_46 : decode cX3_openLine 46 = .ok (.iload_n 3, 1) := by decide +kernel
theorem dX3_openLine_47 : decode cX3_openLine 47 = .ok (.aload_n 0, 1) := by decide +kernel
theorem dX3_openLine_48 : decode cX3_openLine 48 = .ok (.getfield 11, 3) := by decide +kernel
theorem dX3_openLine_51 : decode cX3_openLine 51 = .ok (.iload_n 3, 1) := by decide +kernel
theorem dX3_openLine_52 : decode cX3_openLine 52 = .ok (.iconst 1, 1) := by decide +kernel
theorem dX3_openLine_53 : decode cX3_openLine 53 = .ok (.isub, 1) := by decide +kernel
theorem dX3_openLine_54 : decode cX3_openLine 54 = .ok (.aaload, 1) := by decide +kernel
theorem dX3_openLine_55 : decode cX3_openLine 55 = .ok (.aastore, 1) := by decide +kernel
theorem dX3_openLine_56 : decode cX3_openLine 56 = .ok (.iinc 3 (-1), 3) := by decide +kernel
theorem dX3_openLine_59 : decode cX3_openLine 59 = .ok (.goto (-22), 3) := by decide +kernel
theorem dX3_openLine_62 : decode cX3_openLine 62 = .ok (.aload_n 0, 1) := by decide +kernel
theorem dX3_openLine_63 : decode cX3_openLine 63 = .ok (.getfield 11, 3) := by decide +kernel
theorem dX3_openLine_66 : decode cX3_openLine 66 = .ok (.iload_n 1, 1) := by decide +kernel
theorem dX3_openLine_67 : decode cX3_openLine 67 = .ok (.aload_n 2, 1) := by decide +kernel
theorem dX3_openLine_68 : decode cX3_openLine 68 = .ok (.aastore, 1) := by decide +kernel
theorem dX3_openLine_69 : decode cX3_openLine 69 = .ok (.aload_n 2, 1) := by decide +kernel
theorem dX3_openLine_70 : decode cX3_openLine 70 = .ok (.getfield 49, 3) := by decide +kernel
theorem dX3_openLine_73 : decode cX3_openLine 73 = .ok (.iconst 0, 1) := by decide +kernel
theorem dX3_openLine_74 : decode cX3_openLine 74 = .ok (.putfield 53, 3) := by decide +kernel
theorem dX3_openLine_77 : decode cX3_openLine 77 = .ok (.aload_n 2, 1) := by decide +kernel
theorem dX3_openLine_78 : decode cX3_openLine 78 = .ok (.iconst 1, 1) := by decide +kernel
theorem dX3_openLine_79 : decode cX3_openLine 79 = .ok (.putfield 58, 3) := by decide +kernel
theorem dX3_openLine_82 : decode cX3_openLine 82 = .ok (.aload_n 0, 1) := by decide +kernel
theorem dX3_openLine_83 : decode cX3_openLine 83 = .ok (.dup, 1) := by decide +kernel
theorem dX3_openLine_84 : decode cX3_openLine 84 = .ok (.getfield 41, 3) := by decide +kernel
theorem dX3_openLine_87 : decode cX3_openLine 87 = .ok (.iconst 1, 1) := by decide +kernel
theorem dX3_openLine_88 : decode cX3_openLine 88 = .ok (.iadd, 1) := by decide +kernel
theorem dX3_openLine_89 : decode cX3_openLine 89 = .ok (.putfield 41, 3) := by decide +kernel
theorem dX3_openLine_92 : decode cX3_openLine 92 = .ok (.return_, 1) := by decide +kernel
theorem dX3_closeLine_0 : decode cX3_closeLine 0 = .ok (.aload_n 0, 1) := by decide +kernel
theorem dX3_closeLine_1 : decode cX3_closeLine 1 = .ok (.iload_n 1, 1) := by decide +kernel
theorem dX3_closeLine_2 : decode cX3_closeLine 2 = .ok (.invokevirtual 45, 3) := by decide +kernel
theorem dX3_closeLine_5 : decode cX3_closeLine 5 = .ok (.ifCond .ne 4, 3) := by decide +kernel
theorem dX3_closeLine_8 : decode cX3_closeLine 8 = .ok (.return_, 1) := by decide +kernel
theorem dX3_closeLine_9 : decode cX3_closeLine 9 = .ok (.aload_n 0, 1) := by decide +kernel
theorem dX3_closeLine_10 : decode cX3_closeLine 10 = .ok (.getfield 11, 3) := by decide +kernel
theorem dX3_closeLine_13 : decode cX3_closeLine 13 = .ok (.iload_n 1, 1) := by decide +kernel
theorem dX3_closeLine_14 : decode cX3_closeLine 14 = .ok (.aaload, 1) := by decide +kernel
theorem dX3_closeLine_15 : decode cX3_closeLine 15 = .ok (.astore_n 2, 1) := by decide +kernel
theorem dX3_closeLine_16 : decode cX3_closeLine 16 = .ok (.iload_n 1, 1) := by decide +kernel
theorem dX3_closeLine_17 : decode cX3_closeLine 17 = .ok (.istore_n 3, 1) := by decide +kernel
theorem dX3_closeLine_18 : decode cX3_closeLine 18 = .ok (.iload_n 3, 1) := by decide +kernel
theorem dX3_closeLine_19 : decode cX3_closeLine 19 = .ok (.aload_n 0, 1) := by decide +kernel
theorem dX3_closeLine_20 : decode cX3_closeLine 20 = .ok (.getfield 41, 3) := by decide +kernel
theorem dX3_closeLine_23 : decode cX3_closeLine 23 = .ok (.iconst 1, 1) := by decide +kernel
theorem dX3_closeLine_24 : decode cX3_closeLine 24 = .ok (.isub, 1) := by decide +kernel
theorem dX3_closeLine_25 : decode cX3_closeLine 25 = .ok (.if_icmp .ge 23, 3) := by decide +kernel
theorem dX3_closeLine_28 : decode cX3_closeLine 28 = .ok (.aload_n 0, 1) := by decide +kernel
theorem dX3_closeLine_29 : decode cX3_closeLine 29 = .ok (.getfield 11, 3) := by decide +kernel
theorem dX3_closeLine_32 : decode cX3_closeLine 32 = .ok (.iload_n 3, 1) := by decide +kernel
theorem dX3_closeLine_33 : decode cX3_closeLine 33 = .ok (.aload_n 0, 1) := by decide +kernel
theorem dX3_closeLine_34 : decode cX3_closeLine 34 = .ok (.getfield 11, 3) := by decide +kernel
theorem dX3_closeLine_37 : decode cX3_closeLine 37 = .ok (.iload_n 3, 1) := by decide +kernel
theorem dX3_closeLine_38 : decode cX3_closeLine 38 = .ok (.iconst 1, 1) := by decide +kernel
theorem dX3_closeLine_39 : decode cX3_closeLine 39 = .ok (.iadd, 1) := by decide +kernel
theorem dX3_closeLine_40 : decode cX3_closeLine 40 = .ok (.aaload, 1) := by decide +kernel
theorem dX3_closeLine_41 : decode cX3_closeLine 41 = .ok (.aastore, 1) := by decide +kernel
theorem dX3_closeLine_42 : decode cX3_closeLine 42 = .ok (.iinc 3 1, 3) := by decide +kernel
theorem dX3_closeLine_45 : decode cX3_closeLine 45 = .ok (.goto (-27), 3) := by decide +kernel
theorem dX3_closeLine_48 : decode cX3_closeLine 48 = .ok (.aload_n 0, 1) := by decide +kernel
theorem dX3_closeLine_49 : decode cX3_closeLine 49 = .ok (.dup, 1) := by decide +kernel
theorem dX3_closeLine_50 : decode cX3_closeLine 50 = .ok (.getfield 41, 3) := by decide +kernel
theorem dX3_closeLine_53 : decode cX3_closeLine 53 = .ok (.iconst 1, 1) := by decide +kernel
theorem dX3_closeLine_54 : decode cX3_closeLine 54 = .ok (.isub, 1) := by decide +kernel
theorem dX3_closeLine_55 : decode cX3_closeLine 55 = .ok (.putfield 41, 3) := by decide +kernel
theorem dX3_closeLine_58 : decode cX3_closeLine 58 = .ok (.aload_n 0, 1) := by decide +kernel
theorem dX3_closeLine_59 : decode cX3_closeLine 59 = .ok (.getfield 11, 3) := by decide +kernel
theorem dX3_closeLine_62 : decode cX3_closeLine 62 = .ok (.aload_n 0, 1) := by decide +kernel
theorem dX3_closeLine_63 : decode cX3_closeLine 63 = .ok (.getfield 41, 3) := by decide +kernel
theorem dX3_closeLine_66 : decode cX3_closeLine 66 = .ok (.aload_n 2, 1) := by decide +kernel
theorem dX3_closeLine_67 : decode cX3_closeLine 67 = .ok (.aastore, 1) := by decide +kernel
theorem dX3_closeLine_68 : decode cX3_closeLine 68 = .ok (.return_, 1) := by decide +kernel
theorem dX3_repaint_0 : decode cX3_repaint 0 = .ok (.aload_n 0, 1) := by decide +kernel
theorem dX3_repaint_1 : decode cX3_repaint 1 = .ok (.iload_n 1, 1) := by decide +kernel
theorem dX3_repaint_2 : decode cX3_repaint 2 = .ok (.iconst 1, 1) := by decide +kernel
theorem dX3_repaint_3 : decode cX3_repaint 3 = .ok (.isub, 1) := by decide +kernel
theorem dX3_repaint_4 : decode cX3_repaint 4 = .ok (.invokevirtual 45, 3) := by decide +kernel
theorem dX3_repaint_7 : decode cX3_repaint 7 = .ok (.ifCond .eq 27, 3) := by decide +kernel
theorem dX3_repaint_10 : decode cX3_repaint 10 = .ok (.aload_n 0, 1) := by decide +kernel
theorem dX3_repaint_11 : decode cX3_repaint 11 = .ok (.getfield 37, 3) := by decide +kernel
theorem dX3_repaint_14 : decode cX3_repaint 14 = .ok (.getfield 62, 3) := by decide +kernel
theorem dX3_repaint_17 : decode cX3_repaint 17 = .ok (.aload_n 0, 1) := by decide +kernel
theorem dX3_repaint_18 : decode cX3_repaint 18 = .ok (.getfield 11, 3) := by decide +kernel
theorem dX3_repaint_21 : decode cX3_repaint 21 = .ok (.iload_n 1, 1) := by decide +kernel
theorem dX3_repaint_22 : decode cX3_repaint 22 = .ok (.iconst 1, 1) := by decide +kernel
theorem dX3_repaint_23 : decode cX3_repaint 23 = .ok (.isub, 1) := by decide +kernel
theorem dX3_repaint_24 : decode cX3_repaint 24 = .ok (.aaload, 1) := by decide +kernel
theorem dX3_repaint_25 : decode cX3_repaint 25 = .ok (.getfield 66, 3) := by decide +kernel
theorem dX3_repaint_28 : decode cX3_repaint 28 = .ok (.invokevirtual 69, 3) := by decide +kernel
theorem dX3_repaint_31 : decode cX3_repaint 31 = .ok (.goto 13, 3) := by decide +kernel
theorem dX3_repaint_34 : decode cX3_repaint 34 = .ok (.aload_n 0, 1) := by decide +kernel
theorem dX3_repaint_35 : decode cX3_repaint 35 = .ok (.getfield 37, 3) := by decide +kernel
theorem dX3_repaint_38 : decode cX3_repaint 38 = .ok (.getfield 62, 3) := by decide +kernel
theorem dX3_repaint_41 : decode cX3_repaint 41 = .ok (.invokevirtual 75, 3) := by decide +kernel
theorem dX3_repaint_44 : decode cX3_repaint 44 = .ok (.iconst 0, 1) := by decide +kernel
theorem dX3_repaint_45 : decode cX3_repaint 45 = .ok (.istore_n 3, 1) := by decide +kernel
theorem dX3_repaint_46 : decode cX3_repaint 46 = .ok (.iconst 0, 1) := by decide +kernel
theorem dX3_repaint_47 : decode cX3_repaint 47 = .ok (.iload_n 1, 1) := by decide +kernel
theorem dX3_repaint_48 : decode cX3_repaint 48 = .ok (.invokestatic 78, 3) := by decide +kernel
theorem dX3_repaint_51 : decode cX3_repaint 51 = .ok (.istore 4, 2) := by decide +kernel
theorem dX3_repaint_53 : decode cX3_repaint 53 = .ok (.iload 4, 2) := by decide +kernel
theorem dX3_repaint_55 : decode cX3_repaint 55 = .ok (.aload_n 0, 1) := by decide +kernel
theorem dX3_repaint_56 : decode cX3_repaint 56 = .ok (.getfield 41, 3) := by decide +kernel
theorem dX3_repaint_59 : decode cX3_repaint 59 = .ok (.if_icmp .ge 97, 3) := by decide +kernel
theorem dX3_repaint_62 : decode cX3_repaint 62 = .ok (.aload_n 0, 1) := by decide +kernel
theorem dX3_repaint_63 : decode cX3_repaint 63 = .ok (.getfield 11, 3) := by decide +kernel
theorem dX3_repaint_66 : decode cX3_repaint 66 = .ok (.iload 4, 2) := by decide +kernel
theorem dX3_repaint_68 : decode cX3_repaint 68 = .ok (.aaload, 1) := by decide +kernel
theorem dX3_repaint_69 : decode cX3_repaint 69 = .ok (.astore 5, 2) := by decide +kernel
theorem dX3_repaint_71 : decode cX3_repaint 71 = .ok (.aload_n 0, 1) := by decide +kernel
theorem dX3_repaint_72 : decode cX3_repaint 72 = .ok (.getfield 37, 3) := by decide +kernel
theorem dX3_repaint_75 : decode cX3_repaint 75 = .ok (.aload 5, 2) := by decide +kernel
theorem dX3_repaint_77 : decode cX3_repaint 77 = .ok (.invokevirtual 84, 3) := by decide +kernel
theorem dX3_repaint_80 : decode cX3_repaint 80 = .ok (.iinc 3 1, 3) := by decide +kernel
theorem dX3_repaint_83 : decode cX3_repaint 83 = .ok (.aload 5, 2) := by decide +kernel
theorem dX3_repaint_85 : decode cX3_repaint 85 = .ok (.getfield 58, 3) := by decide +kernel
theorem dX3_repaint_88 : decode cX3_repaint 88 = .ok (.ifCond .ne 25, 3) := by decide +kernel
theorem dX3_repaint_91 : decode cX3_repaint 91 = .ok (.aload_n 0, 1) := by decide +kernel
theorem dX3_repaint_92 : decode cX3_repaint 92 = .ok (.getfield 37, 3) := by decide +kernel
theorem dX3_repaint_95 : decode cX3_repaint 95 = .ok (.getfield 62, 3) := by decide +kernel
theorem dX3_repaint_98 : decode cX3_repaint 98 = .ok (.aload 5, 2) := by decide +kernel
theorem dX3_repaint_100 : decode cX3_repaint 100 = .ok (.getfield 66, 3) := by decide +kernel
theorem dX3_repaint_103 : decode cX3_repaint 103 = .ok (.invokevirtual 88, 3) := by decide +kernel
theorem dX3_repaint_106 : decode cX3_repaint 106 = .ok (.ifCond .eq 7, 3) := by decide +kernel
theorem dX3_repaint_109 : decode cX3_repaint 109 = .ok (.iconst 1, 1) := by decide +kernel
theorem dX3_repaint_110 : decode cX3_repaint 110 = .ok (.goto 4, 3) := by decide +kernel
theorem dX3_repaint_113 : decode cX3_repaint 113 = .ok (.iconst 0, 1) := by decide +kernel
theorem dX3_repaint_114 : decode cX3_repaint 114 = .ok (.istore 6, 2) := by decide +kernel
theorem dX3_repaint_116 : decode cX3_repaint 116 = .ok (.aload 5, 2) := by decide +kernel
theorem dX3_repaint_118 : decode cX3_repaint 118 = .ok (.getfield 66, 3) := by decide +kernel
theorem dX3_repaint_121 : decode cX3_repaint 121 = .ok (.aload_n 0, 1) := by decide +kernel
theorem dX3_repaint_122 : decode cX3_repaint 122 = .ok (.getfield 37, 3) := by decide +kernel
theorem dX3_repaint_125 : decode cX3_repaint 125 = .ok (.getfield 62, 3) := by decide +kernel
theorem dX3_repaint_128 : decode cX3_repaint 128 = .ok (.invokevirtual 69, 3) := by decide +kernel
theorem dX3_repaint_131 : decode cX3_repaint 131 = .ok (.aload 5, 2) := by decide +kernel
theorem dX3_repaint_133 : decode cX3_repaint 133 = .ok (.iconst 0, 1) := by decide +kernel
theorem dX3_repaint_134 : decode cX3_repaint 134 = .ok (.putfield 58, 3) := by decide +kernel
theorem dX3_repaint_137 : decode cX3_repaint 137 = .ok (.iload 6, 2) := by decide +kernel
theorem dX3_repaint_139 : decode cX3_repaint 139 = .ok (.ifCond .eq 11, 3) := by decide +kernel
theorem dX3_repaint_142 : decode cX3_repaint 142 = .ok (.iload 4, 2) := by decide +kernel
theorem dX3_repaint_144 : decode cX3_repaint 144 = .ok (.iload_n 2, 1) := by decide +kernel
theorem dX3_repaint_145 : decode cX3_repaint 145 = .ok (.if_icmp .lt 5, 3) := by decide +kernel
theorem dX3_repaint_148 : decode cX3_repaint 148 = .ok (.iload_n 3, 1) := by decide +kernel
theorem dX3_repaint_149 : decode cX3_repaint 149 = .ok (.ireturn, 1) := by decide +kernel
theorem dX3_repaint_150 : decode cX3_repaint 150 = .ok (.iinc 4 1, 3) := by decide +kernel
theorem dX3_repaint_153 : decode cX3_repaint 153 = .ok (.goto (-100), 3) := by decide +kernel
theorem dX3_repaint_156 : decode cX3_repaint 156 = .ok (.iload_n 3, 1) := by decide +kernel
theorem dX3_repaint_157 : decode cX3_repaint 157 = .ok (.ireturn, 1) := by decide +kernel
theorem dX4_init_0 : decode cX4_init 0 = .ok (.aload_n 0, 1) := by decide +kernel
theorem dX4_init_1 : decode cX4_init 1 = .ok (.invokespecial 3, 3) := by decide +kernel
theorem dX4_init_4 : decode cX4_init 4 = .ok (.aload_n 0, 1) := by decide +kernel
theorem dX4_init_5 : decode cX4_init 5 = .ok (.aload_n 1, 1) := by decide +kernel
theorem dX4_init_6 : decode cX4_init 6 = .ok (.putfield 9, 3) := by decide +kernel
theorem dX4_init_9 : decode cX4_init 9 = .ok (.aload_n 0, 1) := by decide +kernel
theorem dX4_init_10 : decode cX4_init 10 = .ok (.new 15, 3) := by decide +kernel
theorem dX4_init_13 : decode cX4_init 13 = .ok (.dup, 1) := by decide +kernel
theorem dX4_init_14 : decode cX4_init 14 = .ok (.invokespecial 17, 3) := by decide +kernel
theorem dX4_init_17 : decode cX4_init 17 = .ok (.putfield 18, 3) := by decide +kernel
theorem dX4_init_20 : decode cX4_init 20 = .ok (.aload_n 0, 1) := by decide +kernel
theorem dX4_init_21 : decode cX4_init 21 = .ok (.iconst (-1), 1) := by decide +kernel
theorem dX4_init_22 : decode cX4_init 22 = .ok (.putfield 22, 3) := by decide +kernel
theorem dX4_init_25 : decode cX4_init 25 = .ok (.return_, 1) := by decide +kernel
theorem dX4_paintLine_0 : decode cX4_paintLine 0 = .ok (.aload_n 0, 1) := by decide +kernel
theorem dX4_paintLine_1 : decode cX4_paintLine 1 = .ok (.getfield 18, 3) := by decide +kernel
theorem dX4_paintLine_4 : decode cX4_paintLine 4 = .ok (.getfield 26, 3) := by decide +kernel
theorem dX4_paintLine_7 : decode cX4_paintLine 7 = .ok (.iconst (-1), 1) := by decide +kernel
theorem dX4_paintLine_8 : decode cX4_paintLine 8 = .ok (.if_icmp .eq 9, 3) := by decide +kernel
theorem dX4_paintLine_11 : decode cX4_paintLine 11 = .ok (.aload_n 0, 1) := by decide +kernel
theorem dX4_paintLine_12 : decode cX4_paintLine 12 = .ok (.aload_n 1, 1) := by decide +kernel
theorem dX4_paintLine_13 : decode cX4_paintLine 13 = .ok (.invokevirtual 29, 3) := by decide +kernel
theorem dX4_paintLine_16 : decode cX4_paintLine 16 = .ok (.return_, 1) := by decide +kernel
theorem dX4_paintLine_17 : decode cX4_paintLine 17 = .ok (.aload_n 0, 1) := by decide +kernel
theorem dX4_paintLine_18 : decode cX4_paintLine 18 = .ok (.iconst (-1), 1) := by decide +kernel
theorem dX4_paintLine_19 : decode cX4_paintLine 19 = .ok (.putfield 22, 3) := by decide +kernel
theorem dX4_paintLine_22 : decode cX4_paintLine 22 = .ok (.iconst 0, 1) := by decide +kernel
theorem dX4_paintLine_23 : decode cX4_paintLine 23 = .ok (.istore_n 3, 1) := by decide +kernel
theorem dX4_paintLine_24 : decode cX4_paintLine 24 = .ok (.iload_n 3, 1) := by decide +kernel
theorem dX4_paintLine_25 : decode cX4_paintLine 25 = .ok (.aload_n 1, 1) := by decide +kernel
theorem dX4_paintLine_26 : decode cX4_paintLine 26 = .ok (.getfield 33, 3) := by decide +kernel
theorem dX4_paintLine_29 : decode cX4_paintLine 29 = .ok (.getfield 39, 3) := by decide +kernel
theorem dX4_paintLine_32 : decode cX4_paintLine 32 = .ok (.if_icmp .ge 28, 3) := by decide +kernel
theorem dX4_paintLine_35 : decode cX4_paintLine 35 = .ok (.iload_n 3, 1) := by decide +kernel
theorem dX4_paintLine_36 : decode cX4_paintLine 36 = .ok (.iconst 1, 1) := by decide +kernel
theorem dX4_paintLine_37 : decode cX4_paintLine 37 = .ok (.iadd, 1) := by decide +kernel
theorem dX4_paintLine_38 : decode cX4_paintLine 38 = .ok (.aload_n 0, 1) := by decide +kernel
theorem dX4_paintLine_39 : decode cX4_paintLine 39 = .ok (.aload_n 1, 1) := by decide +kernel
theorem dX4_paintLine_40 : decode cX4_paintLine 40 = .ok (.iload_n 3, 1) := by decide +kernel
theorem dX4_paintLine_41 : decode cX4_paintLine 41 = .ok (.aload_n 0, 1) := by decide +kernel
theorem dX4_paintLine_42 : decode cX4_paintLine 42 = .ok (.getfield 18, 3) := by decide +kernel
theorem dX4_paintLine_45 : decode cX4_paintLine 45 = .ok (.invokevirtual 44, 3) := by decide +kernel
theorem dX4_paintLine_48 : decode cX4_paintLine 48 = .ok (.invokevirtual 48, 3) := by decide +kernel
theorem dX4_paintLine_51 : decode cX4_paintLine 51 = .ok (.invokestatic 52, 3) := by decide +kernel
theorem dX4_paintLine_54 : decode cX4_paintLine 54 = .ok (.istore_n 2, 1) := by decide +kernel
theorem dX4_paintLine_55 : decode cX4_paintLine 55 = .ok (.iload_n 2, 1) := by decide +kernel
theorem dX4_paintLine_56 : decode cX4_paintLine 56 = .ok (.istore_n 3, 1) := by decide +kernel
theorem dX4_paintLine_57 : decode cX4_paintLine 57 = .ok (.goto (-33), 3) := by decide +kernel
theorem dX4_paintLine_60 : decode cX4_paintLine 60 = .ok (.aload_n 0, 1) := by decide +kernel
theorem dX4_paintLine_61 : decode cX4_paintLine 61 = .ok (.getfield 18, 3) := by decide +kernel
theorem dX4_paintLine_64 : decode cX4_paintLine 64 = .ok (.aload_n 0, 1) := by decide +kernel
theorem dX4_paintLine_65 : decode cX4_paintLine 65 = .ok (.getfield 22, 3) := by decide +kernel
theorem dX4_paintLine_68 : decode cX4_paintLine 68 = .ok (.putfield 26, 3) := by decide +kernel
theorem dX4_paintLine_71 : decode cX4_paintLine 71 = .ok (.aload_n 0, 1) := by decide +kernel
theorem dX4_paintLine_72 : decode cX4_paintLine 72 = .ok (.getfield 18, 3) := by decide +kernel
theorem dX4_paintLine_75 : decode cX4_paintLine 75 = .ok (.invokevirtual 58, 3) := by decide +kernel
theorem dX4_paintLine_78 : decode cX4_paintLine 78 = .ok (.return_, 1) := by decide +kernel
theorem dX4_paintTillMark_0 : decode cX4_paintTillMark 0 = .ok (.aload_n 1, 1) := by decide +kernel
theorem dX4_paintTillMark_1 : decode cX4_paintTillMark 1 = .ok (.getfield 33, 3) := by decide +kernel
theorem dX4_paintTillMark_4 : decode cX4_paintTillMark 4 = .ok (.getfield 39, 3) := by decide +kernel
theorem dX4_paintTillMark_7 : decode cX4_paintTillMark 7 = .ok (.iconst 1, 1) := by decide +kernel
theorem dX4_paintTillMark_8 : decode cX4_paintTillMark 8 = .ok (.if_icmp .ne 25, 3) := by decide +kernel
theorem dX4_paintTillMark_11 : decode cX4_paintTillMark 11 = .ok (.aload_n 1, 1) := by decide +kernel
theorem dX4_paintTillMark_12 : decode cX4_paintTillMark 12 = .ok (.getfield 33, 3) := by decide +kernel
theorem dX4_paintTillMark_15 : decode cX4_paintTillMark 15 = .ok (.iconst 0, 1) := by decide +kernel
theorem dX4_paintTillMark_16 : decode cX4_paintTillMark 16 = .ok (.invokevirtual 61, 3) := by decide +kernel
theorem dX4_paintTillMark_19 : decode cX4_paintTillMark 19 = .ok (.aload_n 0, 1) := by decide +kernel
theorem dX4_paintTillMark_20 : decode cX4_paintTillMark 20 = .ok (.getfield 18, 3) := by decide +kernel
theorem dX4_paintTillMark_23 : decode cX4_paintTillMark 23 = .ok (.getfield 26, 3) := by decide +kernel
theorem dX4_paintTillMark_26 : decode cX4_paintTillMark 26 = .ok (.if_icmp .ne 7, 3) := by decide +kernel
theorem dX4_paintTillMark_29 : decode cX4_paintTillMark 29 = .ok (.iconst 1, 1) := by decide +kernel
theorem dX4_paintTillMark_30 : decode cX4_paintTillMark 30 = .ok (.goto 4, 3) := by decide +kernel
theorem dX4_paintTillMark_33 : decode cX4_paintTillMark 33 = .ok (.iconst 0, 1) := by decide +kernel
theorem dX4_paintTillMark_34 : decode cX4_paintTillMark 34 = .ok (.istore_n 2, 1) := by decide +kernel
theorem dX4_paintTillMark_35 : decode cX4_paintTillMark 35 = .ok (.aload_n 1, 1) := by decide +kernel
theorem dX4_paintTillMark_36 : decode cX4_paintTillMark 36 = .ok (.iconst 0, 1) := by decide +kernel
theorem dX4_paintTillMark_37 : decode cX4_paintTillMark 37 = .ok (.aload_n 1, 1) := by decide +kernel
theorem dX4_paintTillMark_38 : decode cX4_paintTillMark 38 = .ok (.getfield 33, 3) := by decide +kernel
theorem dX4_paintTillMark_41 : decode cX4_paintTillMark 41 = .ok (.getfield 39, 3) := by decide +kernel
theorem dX4_paintTillMark_44 : decode cX4_paintTillMark 44 = .ok (.iload_n 2, 1) := by decide +kernel
theorem dX4_paintTillMark_45 : decode cX4_paintTillMark 45 = .ok (.ifCond .eq 8, 3) := by decide +kernel
theorem dX4_paintTillMark_48 : decode cX4_paintTillMark 48 = .ok (.bipush 7, 2) := by decide +kernel
theorem dX4_paintTillMark_50 : decode cX4_paintTillMark 50 = .ok (.goto 4, 3) := by decide +kernel
theorem dX4_paintTillMark_53 : decode cX4_paintTillMark 53 = .ok (.iconst 4, 1) := by decide +kernel
theorem dX4_paintTillMark_54 : decode cX4_paintTillMark 54 = .ok (.iconst 1, 1) := by decide +kernel
theorem dX4_paintTillMark_55 : decode cX4_paintTillMark 55 = .ok (.invokevirtual 65, 3) := by decide +kernel
theorem dX4_paintTillMark_58 : decode cX4_paintTillMark 58 = .ok (.pop, 1) := by decide +kernel
theorem dX4_paintTillMark_59 : decode cX4_paintTillMark 59 = .ok (.iload_n 2, 1) := by decide +kernel
theorem dX4_paintTillMark_60 : decode cX4_paintTillMark 60 = .ok (.ifCond .eq 11, 3) := by decide +kernel
theorem dX4_paintTillMark_63 : decode cX4_paintTillMark 63 = .ok (.aload_n 0, 1) := by decide +kernel
theorem dX4_paintTillMark_64 : decode cX4_paintTillMark 64 = .ok (.getfield 18, 3) := by decide +kernel
theorem dX4_paintTillMark_67 : decode cX4_paintTillMark 67 = .ok (.iconst (-1), 1) := by decide +kernel
theorem dX4_paintTillMark_68 : decode cX4_paintTillMark 68 = .ok (.putfield 26, 3) := by decide +kernel
theorem dX4_paintTillMark_71 : decode cX4_paintTillMark 71 = .ok (.return_, 1) := by decide +kernel
theorem dX4_paintFrom_0 : decode cX4_paintFrom 0 = .ok (.aload_n 1, 1) := by decide +kernel
theorem dX4_paintFrom_1 : decode cX4_paintFrom 1 = .ok (.getfield 33, 3) := by decide +kernel
theorem dX4_paintFrom_4 : decode cX4_paintFrom 4 = .ok (.iload_n 2, 1) := by decide +kernel
theorem dX4_paintFrom_5 : decode cX4_paintFrom 5 = .ok (.invokevirtual 61, 3) := by decide +kernel
theorem dX4_paintFrom_8 : decode cX4_paintFrom 8 = .ok (.istore 4, 2) := by decide +kernel
theorem dX4_paintFrom_10 : decode cX4_paintFrom 10 = .ok (.iload_n 3, 1) := by decide +kernel
theorem dX4_paintFrom_11 : decode cX4_paintFrom 11 = .ok (.iconst 2, 1) := by decide +kernel
theorem dX4_paintFrom_12 : decode cX4_paintFrom 12 = .ok (.if_icmp .ne 19, 3) := by decide +kernel
theorem dX4_paintFrom_15 : decode cX4_paintFrom 15 = .ok (.aload_n 1, 1) := by decide +kernel
theorem dX4_paintFrom_16 : decode cX4_paintFrom 16 = .ok (.iload_n 2, 1) := by decide +kernel
theorem dX4_paintFrom_17 : decode cX4_paintFrom 17 = .ok (.iload_n 2, 1) := by decide +kernel
theorem dX4_paintFrom_18 : decode cX4_paintFrom 18 = .ok (.iconst 1, 1) := by decide +kernel
theorem dX4_paintFrom_19 : decode cX4_paintFrom 19 = .ok (.iadd, 1) := by decide +kernel
theorem dX4_paintFrom_20 : decode cX4_paintFrom 20 = .ok (.aload_n 0, 1) := by decide +kernel
theorem dX4_paintFrom_21 : decode cX4_paintFrom 21 = .ok (.iload 4, 2) := by decide +kernel
theorem dX4_paintFrom_23 : decode cX4_paintFrom 23 = .ok (.invokevirtual 69, 3) := by decide +kernel
theorem dX4_paintFrom_26 : decode cX4_paintFrom 26 = .ok (.iconst 2, 1) := by decide +kernel
theorem dX4_paintFrom_27 : decode cX4_paintFrom 27 = .ok (.invokevirtual 65, 3) := by decide +kernel
theorem dX4_paintFrom_30 : decode cX4_paintFrom 30 = .ok (.ireturn, 1) := by decide +kernel
theorem dX4_paintFrom_31 : decode cX4_paintFrom 31 = .ok (.iload_n 3, 1) := by decide +kernel
theorem dX4_paintFrom_32 : decode cX4_paintFrom 32 = .ok (.iconst 1, 1) := by decide +kernel
theorem dX4_paintFrom_33 : decode cX4_paintFrom 33 = .ok (.if_icmp .ne 65, 3) := by decide +kernel
theorem dX4_paintFrom_36 : decode cX4_paintFrom 36 = .ok (.iload 4, 2) := by decide +kernel
theorem dX4_paintFrom_38 : decode cX4_paintFrom 38 = .ok (.bipush 92, 2) := by decide +kernel
theorem dX4_paintFrom_40 : decode cX4_paintFrom 40 = .ok (.if_icmp .ne 20, 3) := by decide +kernel
theorem dX4_paintFrom_43 : decode cX4_paintFrom 43 = .ok (.iload_n 2, 1) := by decide +kernel
theorem dX4_paintFrom_44 : decode cX4_paintFrom 44 = .ok (.iconst 1, 1) := by decide +kernel
theorem dX4_paintFrom_45 : decode cX4_paintFrom 45 = .ok (.iadd, 1) := by decide +kernel
theorem dX4_paintFrom_46 : decode cX4_paintFrom 46 = .ok (.aload_n 1, 1) := by decide +kernel
theorem dX4_paintFrom_47 : decode cX4_paintFrom 47 = .ok (.getfield 33, 3) := by decide +kernel
theorem dX4_paintFrom_50 : decode cX4_paintFrom 50 = .ok (.getfield 39, 3) := by decide +kernel
theorem dX4_paintFrom_53 : decode cX4_paintFrom 53 = .ok (.if_icmp .ge 7, 3) := by decide +kernel
theorem dX4_paintFrom_56 : decode cX4_paintFrom 56 = .ok (.iconst 1, 1) := by decide +kernel
theorem dX4_paintFrom_57 : decode cX4_paintFrom 57 = .ok (.goto 4, 3) := by decide +kernel
theorem dX4_paintFrom_60 : decode cX4_paintFrom 60 = .ok (.iconst 0, 1) := by decide +kernel
theorem dX4_paintFrom_61 : decode cX4_paintFrom 61 = .ok (.istore 5, 2) := by decide +kernel
theorem dX4_paintFrom_63 : decode cX4_paintFrom 63 = .ok (.iload 5, 2) := by decide +kernel
theorem dX4_paintFrom_65 : decode cX4_paintFrom 65 = .ok (.ifCond .eq 17, 3) := by decide +kernel
theorem dX4_paintFrom_68 : decode cX4_paintFrom 68 = .ok (.aload_n 1, 1) := by decide +kernel
theorem dX4_paintFrom_69 : decode cX4_paintFrom 69 = .ok (.iload_n 2, 1) := by decide +kernel
theorem dX4_paintFrom_70 : decode cX4_paintFrom 70 = .ok (.iload_n 2, 1) := by decide +kernel
theorem dX4_paintFrom_71 : decode cX4_paintFrom 71 = .ok (.iconst 2, 1) := by decide +kernel
theorem dX4_paintFrom_72 : decode cX4_paintFrom 72 = .ok (.iadd, 1) := by decide +kernel
theorem dX4_paintFrom_73 : decode cX4_paintFrom 73 = .ok (.bipush 7, 2) := by decide +kernel
theorem dX4_paintFrom_75 : decode cX4_paintFrom 75 = .ok (.iconst 1, 1) := by decide +kernel
theorem dX4_paintFrom_76 : decode cX4_paintFrom 76 = .ok (.invokevirtual 65, 3) := by decide +kernel
theorem dX4_paintFrom_79 : decode cX4_paintFrom 79 = .ok (.goto 18, 3) := by decide +kernel
theorem dX4_paintFrom_82 : decode cX4_paintFrom 82 = .ok (.aload_n 1, 1) := by decide +kernel
theorem dX4_paintFrom_83 : decode cX4_paintFrom 83 = .ok (.iload_n 2, 1) := by decide +kernel
theorem dX4_paintFrom_84 : decode cX4_paintFrom 84 = .ok (.iload_n 2, 1) := by decide +kernel
theorem dX4_paintFrom_85 : decode cX4_paintFrom 85 = .ok (.iconst 1, 1) := by decide +kernel
theorem dX4_paintFrom_86 : decode cX4_paintFrom 86 = .ok (.iadd, 1) := by decide +kernel
theorem dX4_paintFrom_87 : decode cX4_paintFrom 87 = .ok (.aload_n 0, 1) := by decide +kernel
theorem dX4_paintFrom_88 : decode cX4_paintFrom 88 = .ok (.iload 4, 2) := by decide +kernel
theorem dX4_paintFrom_90 : decode cX4_paintFrom 90 = .ok (.invokevirtual 72, 3) := by decide +kernel
theorem dX4_paintFrom_93 : decode cX4_paintFrom 93 = .ok (.iconst 1, 1) := by decide +kernel
theorem dX4_paintFrom_94 : decode cX4_paintFrom 94 = .ok (.invokevirtual 65, 3) := by decide +kernel
theorem dX4_paintFrom_97 : decode cX4_paintFrom 97 = .ok (.ireturn, 1) := by decide +kernel
theorem dX4_paintFrom_98 : decode cX4_paintFrom 98 = .ok (.iload 4, 2) := by decide +kernel
theorem dX4_paintFrom_100 : decode cX4_paintFrom 100 = .ok (.invokestatic 75, 3) := by decide +kernel
theorem dX4_paintFrom_103 : decode cX4_paintFrom 103 = .ok (.ifCond .eq 10, 3) := by decide +kernel
theorem dX4_paintFrom_106 : decode cX4_paintFrom 106 = .ok (.aload_n 0, 1) := by decide +kernel
theorem dX4_paintFrom_107 : decode cX4_paintFrom 107 = .ok (.aload_n 1, 1) := by decide +kernel
theorem dX4_paintFrom_108 : decode cX4_paintFrom 108 = .ok (.iload_n 2, 1) := by decide +kernel
theorem dX4_paintFrom_109 : decode cX4_paintFrom 109 = .ok (.invokevirtual 79, 3) := by decide +kernel
theorem dX4_paintFrom_112 : decode cX4_paintFrom 112 = .ok (.ireturn, 1) := by decide +kernel
theorem dX4_paintFrom_113 : decode cX4_paintFrom 113 = .ok (.iload 4, 2) := by decide +kernel
theorem dX4_paintFrom_115 : decode cX4_paintFrom 115 = .ok (.invokestatic 83, 3) := by decide +kernel
theorem dX4_paintFrom_118 : decode cX4_paintFrom 118 = .ok (.ifCond .eq 20, 3) := by decide +kernel
theorem dX4_paintFrom_121 : decode cX4_paintFrom 121 = .ok (.aload_n 1, 1) := by decide +kernel
theorem dX4_paintFrom_122 : decode cX4_paintFrom 122 = .ok (.iload_n 2, 1) := by decide +kernel
theorem dX4_paintFrom_123 : decode cX4_paintFrom 123 = .ok (.aload_n 0, 1) := by decide +kernel
theorem dX4_paintFrom_124 : decode cX4_paintFrom 124 = .ok (.aload_n 1, 1) := by decide +kernel
theorem dX4_paintFrom_125 : decode cX4_paintFrom 125 = .ok (.getfield 33, 3) := by decide +kernel
theorem dX4_paintFrom_128 : decode cX4_paintFrom 128 = .ok (.iload_n 2, 1) := by decide +kernel
theorem dX4_paintFrom_129 : decode cX4_paintFrom 129 = .ok (.invokevirtual 86, 3) := by decide +kernel
theorem dX4_paintFrom_132 : decode cX4_paintFrom 132 = .ok (.iconst 3, 1) := by decide +kernel
theorem dX4_paintFrom_133 : decode cX4_paintFrom 133 = .ok (.iconst 0, 1) := by decide +kernel
theorem dX4_paintFrom_134 : decode cX4_paintFrom 134 = .ok (.invokevirtual 65, 3) := by decide +kernel
theorem dX4_paintFrom_137 : decode cX4_paintFrom 137 = .ok (.ireturn, 1) := by decide +kernel
theorem dX4_paintFrom_138 : decode cX4_paintFrom 138 = .ok (.iload 4, 2) := by decide +kernel
theorem dX4_paintFrom_140 : decode cX4_paintFrom 140 = .ok (.bipush 35, 2) := by decide +kernel
theorem dX4_paintFrom_142 : decode cX4_paintFrom 142 = .ok (.if_icmp .ne 18, 3) := by decide +kernel
theorem dX4_paintFrom_145 : decode cX4_paintFrom 145 = .ok (.aload_n 1, 1) := by decide +kernel
theorem dX4_paintFrom_146 : decode cX4_paintFrom 146 = .ok (.iload_n 2, 1) := by decide +kernel
theorem dX4_paintFrom_147 : decode cX4_paintFrom 147 = .ok (.aload_n 1, 1) := by decide +kernel
theorem dX4_paintFrom_148 : decode cX4_paintFrom 148 = .ok (.getfield 33, 3) := by decide +kernel
theorem dX4_paintFrom_151 : decode cX4_paintFrom 151 = .ok (.getfield 39, 3) := by decide +kernel
theorem dX4_paintFrom_154 : decode cX4_paintFrom 154 = .ok (.iconst 5, 1) := by decide +kernel
theorem dX4_paintFrom_155 : decode cX4_paintFrom 155 = .ok (.iconst 0, 1) := by decide +kernel
theorem dX4_paintFrom_156 : decode cX4_paintFrom 156 = .ok (.invokevirtual 65, 3) := by decide +kernel
theorem dX4_paintFrom_159 : decode cX4_paintFrom 159 = .ok (.ireturn, 1) := by decide +kernel
theorem dX4_paintFrom_160 : decode cX4_paintFrom 160 = .ok (.aload_n 0, 1) := by decide +kernel
theorem dX4_paintFrom_161 : decode cX4_paintFrom 161 = .ok (.aload_n 1, 1) := by decide +kernel
theorem dX4_paintFrom_162 : decode cX4_paintFrom 162 = .ok (.getfield 33, 3) := by decide +kernel
theorem dX4_paintFrom_165 : decode cX4_paintFrom 165 = .ok (.iload_n 2, 1) := by decide +kernel
theorem dX4_paintFrom_166 : decode cX4_paintFrom 166 = .ok (.invokevirtual 90, 3) := by decide +kernel
theorem dX4_paintFrom_169 : decode cX4_paintFrom 169 = .ok (.ifCond .eq 29, 3) := by decide +kernel
theorem dX4_paintFrom_172 : decode cX4_paintFrom 172 = .ok (.aload_n 0, 1) := by decide +kernel
theorem dX4_paintFrom_173 : decode cX4_paintFrom 173 = .ok (.aload_n 1, 1) := by decide +kernel
theorem dX4_paintFrom_174 : decode cX4_paintFrom 174 = .ok (.getfield 33, 3) := by decide +kernel
theorem dX4_paintFrom_177 : decode cX4_paintFrom 177 = .ok (.iload_n 2, 1) := by decide +kernel
theorem dX4_paintFrom_178 : decode cX4_paintFrom 178 = .ok (.iconst 1, 1) := by decide +kernel
theorem dX4_paintFrom_179 : decode cX4_paintFrom 179 = .ok (.iadd, 1) := by decide +kernel
theorem dX4_paintFrom_180 : decode cX4_paintFrom 180 = .ok (.invokevirtual 61, 3) := by decide +kernel
theorem dX4_paintFrom_183 : decode cX4_paintFrom 183 = .ok (.putfield 22, 3) := by decide +kernel
theorem dX4_paintFrom_186 : decode cX4_paintFrom 186 = .ok (.aload_n 1, 1) := by decide +kernel
theorem dX4_paintFrom_187 : decode cX4_paintFrom 187 = .ok (.iload_n 2, 1) := by decide +kernel
theorem dX4_paintFrom_188 : decode cX4_paintFrom 188 = .ok (.iload_n 2, 1) := by decide +kernel
theorem dX4_paintFrom_189 : decode cX4_paintFrom 189 = .ok (.iconst 2, 1) := by decide +kernel
theorem dX4_paintFrom_190 : decode cX4_paintFrom 190 = .ok (.iadd, 1) := by decide +kernel
theorem dX4_paintFrom_191 : decode cX4_paintFrom 191 = .ok (.bipush 7, 2) := by decide +kernel
theorem dX4_paintFrom_193 : decode cX4_paintFrom 193 = .ok (.iconst 0, 1) := by decide +kernel
theorem dX4_paintFrom_194 : decode cX4_paintFrom 194 = .ok (.invokevirtual 65, 3) := by decide +kernel
theorem dX4_paintFrom_197 : decode cX4_paintFrom 197 = .ok (.ireturn, 1) := by decide +kernel
theorem dX4_paintFrom_198 : decode cX4_paintFrom 198 = .ok (.aload_n 1, 1) := by decide +kernel
theorem dX4_paintFrom_199 : decode cX4_paintFrom 199 = .ok (.iload_n 2, 1) := by decide +kernel
theorem dX4_paintFrom_200 : decode cX4_paintFrom 200 = .ok (.iload_n 2, 1) := by decide +kernel
theorem dX4_paintFrom_201 : decode cX4_paintFrom 201 = .ok (.iconst 1, 1) := by decide +kernel
theorem dX4_paintFrom_202 : decode cX4_paintFrom 202 = .ok (.iadd, 1) := by decide +kernel
theorem dX4_paintFrom_203 : decode cX4_paintFrom 203 = .ok (.aload_n 0, 1) := by decide +kernel
theorem dX4_paintFrom_204 : decode cX4_paintFrom 204 = .ok (.iload 4, 2) := by decide +kernel
theorem dX4_paintFrom_206 : decode cX4_paintFrom 206 = .ok (.invokevirtual 94, 3) := by decide +kernel
theorem dX4_paintFrom_209 : decode cX4_paintFrom 209 = .ok (.iconst 0, 1) := by decide +kernel
theorem dX4_paintFrom_210 : decode cX4_paintFrom 210 = .ok (.invokevirtual 65, 3) := by decide +kernel
theorem dX4_paintFrom_213 : decode cX4_paintFrom 213 = .ok (.ireturn, 1) := by decide +kernel
theorem dX4_takeInRemark_0 : decode cX4_takeInRemark 0 = .ok (.iload_n 1, 1) := by decide +kernel
theorem dX4_takeInRemark_1 : decode cX4_takeInRemark 1 = .ok (.bipush 91, 2) := by decide +kernel
theorem dX4_takeInRemark_3 : decode cX4_takeInRemark 3 = .ok (.if_icmp .ne 22, 3) := by decide +kernel
theorem dX4_takeInRemark_6 : decode cX4_takeInRemark 6 = .ok (.aload_n 0, 1) := by decide +kernel
theorem dX4_takeInRemark_7 : decode cX4_takeInRemark 7 = .ok (.getfield 18, 3) := by decide +kernel
theorem dX4_takeInRemark_10 : decode cX4_takeInRemark 10 = .ok (.bipush 91, 2) := by decide +kernel
theorem dX4_takeInRemark_12 : decode cX4_takeInRemark 12 = .ok (.invokevirtual 97, 3) := by decide +kernel
theorem dX4_takeInRemark_15 : decode cX4_takeInRemark 15 = .ok (.ifCond .eq 7, 3) := by decide +kernel
theorem dX4_takeInRemark_18 : decode cX4_takeInRemark 18 = .ok (.iconst 5, 1) := by decide +kernel
theorem dX4_takeInRemark_19 : decode cX4_takeInRemark 19 = .ok (.goto 5, 3) := by decide +kernel
theorem dX4_takeInRemark_22 : decode cX4_takeInRemark 22 = .ok (.bipush 6, 2) := by decide +kernel
theorem dX4_takeInRemark_24 : decode cX4_takeInRemark 24 = .ok (.ireturn, 1) := by decide +kernel
theorem dX4_takeInRemark_25 : decode cX4_takeInRemark 25 = .ok (.iload_n 1, 1) := by decide +kernel
theorem dX4_takeInRemark_26 : decode cX4_takeInRemark 26 = .ok (.bipush 93, 2) := by decide +kernel
theorem dX4_takeInRemark_28 : decode cX4_takeInRemark 28 = .ok (.if_icmp .ne 10, 3) := by decide +kernel
theorem dX4_takeInRemark_31 : decode cX4_takeInRemark 31 = .ok (.aload_n 0, 1) := by decide +kernel
theorem dX4_takeInRemark_32 : decode cX4_takeInRemark 32 = .ok (.getfield 18, 3) := by decide +kernel
theorem dX4_takeInRemark_35 : decode cX4_takeInRemark 35 = .ok (.invokevirtual 100, 3) := by decide +kernel
theorem dX4_takeInRemark_38 : decode cX4_takeInRemark 38 = .ok (.iconst 5, 1) := by decide +kernel
theorem dX4_takeInRemark_39 : decode cX4_takeInRemark 39 = .ok (.ireturn, 1) := by decide +kernel
theorem dX4_takeInString_0 : decode cX4_takeInString 0 = .ok (.iload_n 1, 1) := by decide +kernel
theorem dX4_takeInString_1 : decode cX4_takeInString 1 = .ok (.bipush 123, 2) := by decide +kernel
theorem dX4_takeInString_3 : decode cX4_takeInString 3 = .ok (.if_icmp .ne 23, 3) := by decide +kernel
theorem dX4_takeInString_6 : decode cX4_takeInString 6 = .ok (.aload_n 0, 1) := by decide +kernel
theorem dX4_takeInString_7 : decode cX4_takeInString 7 = .ok (.getfield 18, 3) := by decide +kernel
theorem dX4_takeInString_10 : decode cX4_takeInString 10 = .ok (.bipush 123, 2) := by decide +kernel
theorem dX4_takeInString_12 : decode cX4_takeInString 12 = .ok (.invokevirtual 97, 3) := by decide +kernel
theorem dX4_takeInString_15 : decode cX4_takeInString 15 = .ok (.ifCond .eq 8, 3) := by decide +kernel
theorem dX4_takeInString_18 : decode cX4_takeInString 18 = .ok (.bipush 7, 2) := by decide +kernel
theorem dX4_takeInString_20 : decode cX4_takeInString 20 = .ok (.goto 5, 3) := by decide +kernel
theorem dX4_takeInString_23 : decode cX4_takeInString 23 = .ok (.bipush 6, 2) := by decide +kernel
theorem dX4_takeInString_25 : decode cX4_takeInString 25 = .ok (.ireturn, 1) := by decide +kernel
theorem dX4_takeInString_26 : decode cX4_takeInString 26 = .ok (.iload_n 1, 1) := by decide +kernel
theorem dX4_takeInString_27 : decode cX4_takeInString 27 = .ok (.aload_n 0, 1) := by decide +kernel
theorem dX4_takeInString_28 : decode cX4_takeInString 28 = .ok (.getfield 18, 3) := by decide +kernel
theorem dX4_takeInString_31 : decode cX4_takeInString 31 = .ok (.invokevirtual 103, 3) := by decide +kernel
theorem dX4_takeInString_34 : decode cX4_takeInString 34 = .ok (.if_icmp .ne 10, 3) := by decide +kernel
theorem dX4_takeInString_37 : decode cX4_takeInString 37 = .ok (.aload_n 0, 1) := by decide +kernel
theorem dX4_takeInString_38 : decode cX4_takeInString 38 = .ok (.getfield 18, 3) := by decide +kernel
theorem dX4_takeInString_41 : decode cX4_takeInString 41 = .ok (.invokevirtual 100, 3) := by decide +kernel
theorem dX4_takeInString_44 : decode cX4_takeInString 44 = .ok (.iconst 4, 1) := by decide +kernel
theorem dX4_takeInString_45 : decode cX4_takeInString 45 = .ok (.ireturn, 1) := by decide +kernel
theorem dX4_takeInCode_0 : decode cX4_takeInCode 0 = .ok (.iload_n 1, 1) := by decide +kernel
theorem dX4_takeInCode_1 : decode cX4_takeInCode 1 = .ok (.lookupswitch 103 #[(34, 43), (39, 43), (91, 61), (125, 80)], 43) := by decide +kernel
theorem dX4_takeInCode_44 : decode cX4_takeInCode 44 = .ok (.aload_n 0, 1) := by decide +kernel
theorem dX4_takeInCode_45 : decode cX4_takeInCode 45 = .ok (.getfield 18, 3) := by decide +kernel
theorem dX4_takeInCode_48 : decode cX4_takeInCode 48 = .ok (.iload_n 1, 1) := by decide +kernel
theorem dX4_takeInCode_49 : decode cX4_takeInCode 49 = .ok (.invokevirtual 97, 3) := by decide +kernel
theorem dX4_takeInCode_52 : decode cX4_takeInCode 52 = .ok (.ifCond .eq 7, 3) := by decide +kernel
theorem dX4_takeInCode_55 : decode cX4_takeInCode 55 = .ok (.iconst 4, 1) := by decide +kernel
theorem dX4_takeInCode_56 : decode cX4_takeInCode 56 = .ok (.goto 5, 3) := by decide +kernel
theorem dX4_takeInCode_59 : decode cX4_takeInCode 59 = .ok (.bipush 6, 2) := by decide +kernel
theorem dX4_takeInCode_61 : decode cX4_takeInCode 61 = .ok (.ireturn, 1) := by decide +kernel
theorem dX4_takeInCode_62 : decode cX4_takeInCode 62 = .ok (.aload_n 0, 1) := by decide +kernel
theorem dX4_takeInCode_63 : decode cX4_takeInCode 63 = .ok (.getfield 18, 3) := by decide +kernel
theorem dX4_takeInCode_66 : decode cX4_takeInCode 66 = .ok (.bipush 91, 2) := by decide +kernel
theorem dX4_takeInCode_68 : decode cX4_takeInCode 68 = .ok (.invokevirtual 97, 3) := by decide +kernel
theorem dX4_takeInCode_71 : decode cX4_takeInCode 71 = .ok (.ifCond .eq 7, 3) := by decide +kernel
theorem dX4_takeInCode_74 : decode cX4_takeInCode 74 = .ok (.iconst 5, 1) := by decide +kernel
theorem dX4_takeInCode_75 : decode cX4_takeInCode 75 = .ok (.goto 5, 3) := by decide +kernel
theorem dX4_takeInCode_78 : decode cX4_takeInCode 78 = .ok (.bipush 6, 2) := by decide +kernel
theorem dX4_takeInCode_80 : decode cX4_takeInCode 80 = .ok (.ireturn, 1) := by decide +kernel
theorem dX4_takeInCode_81 : decode cX4_takeInCode 81 = .ok (.aload_n 0, 1) := by decide +kernel
theorem dX4_takeInCode_82 : decode cX4_takeInCode 82 = .ok (.getfield 18, 3) := by decide +kernel
theorem dX4_takeInCode_85 : decode cX4_takeInCode 85 = .ok (.invokevirtual 106, 3) := by decide +kernel
theorem dX4_takeInCode_88 : decode cX4_takeInCode 88 = .ok (.ifCond .ne 6, 3) := by decide +kernel
theorem dX4_takeInCode_91 : decode cX4_takeInCode 91 = .ok (.bipush 6, 2) := by decide +kernel
theorem dX4_takeInCode_93 : decode cX4_takeInCode 93 = .ok (.ireturn, 1) := by decide +kernel
theorem dX4_takeInCode_94 : decode cX4_takeInCode 94 = .ok (.aload_n 0, 1) := by decide +kernel
theorem dX4_takeInCode_95 : decode cX4_takeInCode 95 = .ok (.getfield 18, 3) := by decide +kernel
theorem dX4_takeInCode_98 : decode cX4_takeInCode 98 = .ok (.invokevirtual 100, 3) := by decide +kernel
theorem dX4_takeInCode_101 : decode cX4_takeInCode 101 = .ok (.bipush 7, 2) := by decide +kernel
theorem dX4_takeInCode_103 : decode cX4_takeInCode 103 = .ok (.ireturn, 1) := by decide +kernel
theorem dX4_takeInCode_104 : decode cX4_takeInCode 104 = .ok (.iconst 0, 1) := by decide +kernel
theorem dX4_takeInCode_105 : decode cX4_takeInCode 105 = .ok (.ireturn, 1) := by decide +kernel
theorem dX4_paintName_0 : decode cX4_paintName 0 = .ok (.iload_n 2, 1) := by decide +kernel
theorem dX4_paintName_1 : decode cX4_paintName 1 = .ok (.iconst 1, 1) := by decide +kernel
theorem dX4_paintName_2 : decode cX4_paintName 2 = .ok (.iadd, 1) := by decide +kernel
theorem dX4_paintName_3 : decode cX4_paintName 3 = .ok (.istore_n 3, 1) := by decide +kernel
theorem dX4_paintName_4 : decode cX4_paintName 4 = .ok (.iload_n 3, 1) := by decide +kernel
theorem dX4_paintName_5 : decode cX4_paintName 5 = .ok (.aload_n 1, 1) := by decide +kernel
theorem dX4_paintName_6 : decode cX4_paintName 6 = .ok (.getfield 33, 3) := by decide +kernel
theorem dX4_paintName_9 : decode cX4_paintName 9 = .ok (.getfield 39, 3) := by decide +kernel
theorem dX4_paintName_12 : decode cX4_paintName 12 = .ok (.if_icmp .ge 23, 3) := by decide +kernel
theorem dX4_paintName_15 : decode cX4_paintName 15 = .ok (.aload_n 1, 1) := by decide +kernel
theorem dX4_paintName_16 : decode cX4_paintName 16 = .ok (.getfield 33, 3) := by decide +kernel
theorem dX4_paintName_19 : decode cX4_paintName 19 = .ok (.iload_n 3, 1) := by decide +kernel
theorem dX4_paintName_20 : decode cX4_paintName 20 = .ok (.invokevirtual 61, 3) := by decide +kernel
theorem dX4_paintName_23 : decode cX4_paintName 23 = .ok (.invokestatic 75, 3) := by decide +kernel
theorem dX4_paintName_26 : decode cX4_paintName 26 = .ok (.ifCond .eq 9, 3) := by decide +kernel
theorem dX4_paintName_29 : decode cX4_paintName 29 = .ok (.iinc 3 1, 3) := by decide +kernel
theorem dX4_paintName_32 : decode cX4_paintName 32 = .ok (.goto (-28), 3) := by decide +kernel
theorem dX4_paintName_35 : decode cX4_paintName 35 = .ok (.aload_n 0, 1) := by decide +kernel
theorem dX4_paintName_36 : decode cX4_paintName 36 = .ok (.getfield 9, 3) := by decide +kernel
theorem dX4_paintName_39 : decode cX4_paintName 39 = .ok (.aload_n 1, 1) := by decide +kernel
theorem dX4_paintName_40 : decode cX4_paintName 40 = .ok (.getfield 33, 3) := by decide +kernel
theorem dX4_paintName_43 : decode cX4_paintName 43 = .ok (.iload_n 2, 1) := by decide +kernel
theorem dX4_paintName_44 : decode cX4_paintName 44 = .ok (.iload_n 3, 1) := by decide +kernel
theorem dX4_paintName_45 : decode cX4_paintName 45 = .ok (.invokevirtual 110, 3) := by decide +kernel
theorem dX4_paintName_48 : decode cX4_paintName 48 = .ok (.istore 4, 2) := by decide +kernel
theorem dX4_paintName_50 : decode cX4_paintName 50 = .ok (.aload_n 1, 1) := by decide +kernel
theorem dX4_paintName_51 : decode cX4_paintName 51 = .ok (.iload_n 2, 1) := by decide +kernel
theorem dX4_paintName_52 : decode cX4_paintName 52 = .ok (.iload_n 3, 1) := by decide +kernel
theorem dX4_paintName_53 : decode cX4_paintName 53 = .ok (.iload 4, 2) := by decide +kernel
theorem dX4_paintName_55 : decode cX4_paintName 55 = .ok (.ifCond .eq 7, 3) := by decide +kernel
theorem dX4_paintName_58 : decode cX4_paintName 58 = .ok (.iconst 2, 1) := by decide +kernel
theorem dX4_paintName_59 : decode cX4_paintName 59 = .ok (.goto 4, 3) := by decide +kernel
theorem dX4_paintName_62 : decode cX4_paintName 62 = .ok (.iconst 1, 1) := by decide +kernel
theorem dX4_paintName_63 : decode cX4_paintName 63 = .ok (.iconst 0, 1) := by decide +kernel
theorem dX4_paintName_64 : decode cX4_paintName 64 = .ok (.invokevirtual 65, 3) := by decide +kernel
theorem dX4_paintName_67 : decode cX4_paintName 67 = .ok (.ireturn, 1) := by decide +kernel
theorem dX4_endOfFigures_0 : decode cX4_endOfFigures 0 = .ok (.iload_n 2, 1) := by decide +kernel
theorem dX4_endOfFigures_1 : decode cX4_endOfFigures 1 = .ok (.iconst 1, 1) := by decide +kernel
theorem dX4_endOfFigures_2 : decode cX4_endOfFigures 2 = .ok (.iadd, 1) := by decide +kernel
theorem dX4_endOfFigures_3 : decode cX4_endOfFigures 3 = .ok (.istore_n 3, 1) := by decide +kernel
theorem dX4_endOfFigures_4 : decode cX4_endOfFigures 4 = .ok (.iload_n 3, 1) := by decide +kernel
theorem dX4_endOfFigures_5 : decode cX4_endOfFigures 5 = .ok (.aload_n 1, 1) := by decide +kernel
theorem dX4_endOfFigures_6 : decode cX4_endOfFigures 6 = .ok (.getfield 39, 3) := by decide +kernel
theorem dX4_endOfFigures_9 : decode cX4_endOfFigures 9 = .ok (.if_icmp .ge 20, 3) := by decide +kernel
theorem dX4_endOfFigures_12 : decode cX4_endOfFigures 12 = .ok (.aload_n 1, 1) := by decide +kernel
theorem dX4_endOfFigures_13 : decode cX4_endOfFigures 13 = .ok (.iload_n 3, 1) := by decide +kernel
theorem dX4_endOfFigures_14 : decode cX4_endOfFigures 14 = .ok (.invokevirtual 61, 3) := by decide +kernel
theorem dX4_endOfFigures_17 : decode cX4_endOfFigures 17 = .ok (.invokestatic 83, 3) := by decide +kernel
theorem dX4_endOfFigures_20 : decode cX4_endOfFigures 20 = .ok (.ifCond .eq 9, 3) := by decide +kernel
theorem dX4_endOfFigures_23 : decode cX4_endOfFigures 23 = .ok (.iinc 3 1, 3) := by decide +kernel
theorem dX4_endOfFigures_26 : decode cX4_endOfFigures 26 = .ok (.goto (-22), 3) := by decide +kernel
theorem dX4_endOfFigures_29 : decode cX4_endOfFigures 29 = .ok (.iload_n 3, 1) := by decide +kernel
theorem dX4_endOfFigures_30 : decode cX4_endOfFigures 30 = .ok (.ireturn, 1) := by decide +kernel
theorem dX4_beginsMark_0 : decode cX4_beginsMark 0 = .ok (.aload_n 1, 1) := by decide +kernel
theorem dX4_beginsMark_1 : decode cX4_beginsMark 1 = .ok (.iload_n 2, 1) := by decide +kernel
theorem dX4_beginsMark_2 : decode cX4_beginsMark 2 = .ok (.invokevirtual 61, 3) := by decide +kernel
theorem dX4_beginsMark_5 : decode cX4_beginsMark 5 = .ok (.bipush 60, 2) := by decide +kernel
theorem dX4_beginsMark_7 : decode cX4_beginsMark 7 = .ok (.if_icmp .ne 39, 3) := by decide +kernel
theorem dX4_beginsMark_10 : decode cX4_beginsMark 10 = .ok (.aload_n 1, 1) := by decide +kernel
theorem dX4_beginsMark_11 : decode cX4_beginsMark 11 = .ok (.iload_n 2, 1) := by decide +kernel
theorem dX4_beginsMark_12 : decode cX4_beginsMark 12 = .ok (.iconst 1, 1) := by decide +kernel
theorem dX4_beginsMark_13 : decode cX4_beginsMark 13 = .ok (.iadd, 1) := by decide +kernel
theorem dX4_beginsMark_14 : decode cX4_beginsMark 14 = .ok (.invokevirtual 61, 3) := by decide +kernel
theorem dX4_beginsMark_17 : decode cX4_beginsMark 17 = .ok (.invokestatic 116, 3) := by decide +kernel
theorem dX4_beginsMark_20 : decode cX4_beginsMark 20 = .ok (.ifCond .eq 26, 3) := by decide +kernel
theorem dX4_beginsMark_23 : decode cX4_beginsMark 23 = .ok (.aload_n 0, 1) := by decide +kernel
theorem dX4_beginsMark_24 : decode cX4_beginsMark 24 = .ok (.getfield 18, 3) := by decide +kernel
theorem dX4_beginsMark_27 : decode cX4_beginsMark 27 = .ok (.getfield 119, 3) := by decide +kernel
theorem dX4_beginsMark_30 : decode cX4_beginsMark 30 = .ok (.iconst 1, 1) := by decide +kernel
theorem dX4_beginsMark_31 : decode cX4_beginsMark 31 = .ok (.if_icmp .ne 15, 3) := by decide +kernel
theorem dX4_beginsMark_34 : decode cX4_beginsMark 34 = .ok (.aload_n 0, 1) := by decide +kernel
theorem dX4_beginsMark_35 : decode cX4_beginsMark 35 = .ok (.getfield 22, 3) := by decide +kernel
theorem dX4_beginsMark_38 : decode cX4_beginsMark 38 = .ok (.iconst (-1), 1) := by decide +kernel
theorem dX4_beginsMark_39 : decode cX4_beginsMark 39 = .ok (.if_icmp .ne 7, 3) := by decide +kernel
theorem dX4_beginsMark_42 : decode cX4_beginsMark 42 = .ok (.iconst 1, 1) := by decide +kernel
theorem dX4_beginsMark_43 : decode cX4_beginsMark 43 = .ok (.goto 4, 3) := by decide +kernel
theorem dX4_beginsMark_46 : decode cX4_beginsMark 46 = .ok (.iconst 0, 1) := by decide +kernel
theorem dX4_beginsMark_47 : decode cX4_beginsMark 47 = .ok (.ireturn, 1) := by decide +kernel
theorem dX5_init_0 : decode cX5_init 0 = .ok (.aload_n 0, 1) := by decide +kernel
theorem dX5_init_1 : decode cX5_init 1 = .ok (.invokespecial 3, 3) := by decide +kernel
theorem dX5_init_4 : decode cX5_init 4 = .ok (.aload_n 0, 1) := by decide +kernel
theorem dX5_init_5 : decode cX5_init 5 = .ok (.iconst 0, 1) := by decide +kernel
theorem dX5_init_6 : decode cX5_init 6 = .ok (.iload_n 1, 1) := by decide +kernel
theorem dX5_init_7 : decode cX5_init 7 = .ok (.invokestatic 9, 3) := by decide +kernel
theorem dX5_init_10 : decode cX5_init 10 = .ok (.newarray .int, 2) := by decide +kernel
theorem dX5_init_12 : decode cX5_init 12 = .ok (.putfield 15, 3) := by decide +kernel
theorem dX5_init_15 : decode cX5_init 15 = .ok (.aload_n 0, 1) := by decide +kernel
theorem dX5_init_16 : decode cX5_init 16 = .ok (.iconst 0, 1) := by decide +kernel
theorem dX5_init_17 : decode cX5_init 17 = .ok (.putfield 21, 3) := by decide +kernel
theorem dX5_init_20 : decode cX5_init 20 = .ok (.return_, 1) := by decide +kernel
theorem dX5_signAt_0 : decode cX5_signAt 0 = .ok (.iload_n 1, 1) := by decide +kernel
theorem dX5_signAt_1 : decode cX5_signAt 1 = .ok (.ifCond .lt 20, 3) := by decide +kernel
theorem dX5_signAt_4 : decode cX5_signAt 4 = .ok (.iload_n 1, 1) := by decide +kernel
theorem dX5_signAt_5 : decode cX5_signAt 5 = .ok (.aload_n 0, 1) := by decide +kernel
theorem dX5_signAt_6 : decode cX5_signAt 6 = .ok (.getfield 21, 3) := by decide +kernel
theorem dX5_signAt_9 : decode cX5_signAt 9 = .ok (.if_icmp .ge 12, 3) := by decide +kernel
theorem dX5_signAt_12 : decode cX5_signAt 12 = .ok (.aload_n 0, 1) := by decide +kernel
theorem dX5_signAt_13 : decode cX5_signAt 13 = .ok (.getfield 15, 3) := by decide +kernel
theorem dX5_signAt_16 : decode cX5_signAt 16 = .ok (.iload_n 1, 1) := by decide +kernel
theorem dX5_signAt_17 : decode cX5_signAt 17 = .ok (.iaload, 1) := by decide +kernel
theorem dX5_signAt_18 : decode cX5_signAt 18 = .ok (.goto 4, 3) := by decide +kernel
theorem dX5_signAt_21 : decode cX5_signAt 21 = .ok (.iconst (-1), 1) := by decide +kernel
theorem dX5_signAt_22 : decode cX5_signAt 22 = .ok (.ireturn, 1) := by decide +kernel
theorem dX5_copyFrom_0 : decode cX5_copyFrom 0 = .ok (.aload_n 0, 1) := by decide +kernel
theorem dX5_copyFrom_1 : decode cX5_copyFrom 1 = .ok (.aload_n 1, 1) := by decide +kernel
theorem dX5_copyFrom_2 : decode cX5_copyFrom 2 = .ok (.getfield 21, 3) := by decide +kernel
theorem dX5_copyFrom_5 : decode cX5_copyFrom 5 = .ok (.aload_n 0, 1) := by decide +kernel
theorem dX5_copyFrom_6 : decode cX5_copyFrom 6 = .ok (.getfield 15, 3) := by decide +kernel
theorem dX5_copyFrom_9 : decode cX5_copyFrom 9 = .ok (.arraylength, 1) := by decide +kernel
theorem dX5_copyFrom_10 : decode cX5_copyFrom 10 = .ok (.invokestatic 25, 3) := by decide +kernel
theorem dX5_copyFrom_13 : decode cX5_copyFrom 13 = .ok (.putfield 21, 3) := by decide +kernel
theorem dX5_copyFrom_16 : decode cX5_copyFrom 16 = .ok (.aload_n 1, 1) := by decide +kernel
theorem dX5_copyFrom_17 : decode cX5_copyFrom 17 = .ok (.getfield 15, 3) := by decide +kernel
theorem dX5_copyFrom_20 : decode cX5_copyFrom 20 = .ok (.iconst 0, 1) := by decide +kernel
theorem dX5_copyFrom_21 : decode cX5_copyFrom 21 = .ok (.aload_n 0, 1) := by decide +kernel
theorem dX5_copyFrom_22 : decode cX5_copyFrom 22 = .ok (.getfield 15, 3) := by decide +kernel
theorem dX5_copyFrom_25 : decode cX5_copyFrom 25 = .ok (.iconst 0, 1) := by decide +kernel
theorem dX5_copyFrom_26 : decode cX5_copyFrom 26 = .ok (.aload_n 0, 1) := by decide +kernel
theorem dX5_copyFrom_27 : decode cX5_copyFrom 27 = .ok (.getfield 21, 3) := by decide +kernel
theorem dX5_copyFrom_30 : decode cX5_copyFrom 30 = .ok (.invokestatic 28, 3) := by decide +kernel
theorem dX5_copyFrom_33 : decode cX5_copyFrom 33 = .ok (.return_, 1) := by decide +kernel
theorem dX5_isLike_0 : decode cX5_isLike 0 = .ok (.aload_n 0, 1) := by decide +kernel
theorem dX5_isLike_1 : decode cX5_isLike 1 = .ok (.aload_n 1, 1) := by decide +kernel
theorem dX5_isLike_2 : decode cX5_isLike 2 = .ok (.iconst 0, 1) := by decide +kernel
theorem dX5_isLike_3 : decode cX5_isLike 3 = .ok (.aload_n 0, 1) := by decide +kernel
theorem dX5_isLike_4 : decode cX5_isLike 4 = .ok (.getfield 21, 3) := by decide +kernel
theorem dX5_isLike_7 : decode cX5_isLike 7 = .ok (.invokevirtual 34, 3) := by decide +kernel
theorem dX5_isLike_10 : decode cX5_isLike 10 = .ok (.ireturn, 1) := by decide +kernel
theorem dX5_holds_0 : decode cX5_holds 0 = .ok (.iload_n 2, 1) := by decide +kernel
theorem dX5_holds_1 : decode cX5_holds 1 = .ok (.ifCond .lt 21, 3) := by decide +kernel
theorem dX5_holds_4 : decode cX5_holds 4 = .ok (.iload_n 3, 1) := by decide +kernel
theorem dX5_holds_5 : decode cX5_holds 5 = .ok (.aload_n 0, 1) := by decide +kernel
theorem dX5_holds_6 : decode cX5_holds 6 = .ok (.getfield 21, 3) := by decide +kernel
theorem dX5_holds_9 : decode cX5_holds 9 = .ok (.if_icmp .gt 13, 3) := by decide +kernel
theorem dX5_holds_12 : decode cX5_holds 12 = .ok (.iload_n 3, 1) := by decide +kernel
theorem dX5_holds_13 : decode cX5_holds 13 = .ok (.iload_n 2, 1) := by decide +kernel
theorem dX5_holds_14 : decode cX5_holds 14 = .ok (.isub, 1) := by decide +kernel
theorem dX5_holds_15 : decode cX5_holds 15 = .ok (.aload_n 1, 1) := by decide +kernel
theorem dX5_holds_16 : decode cX5_holds 16 = .ok (.getfield 21, 3) := by decide +kernel
theorem dX5_holds_19 : decode cX5_holds 19 = .ok (.if_icmp .eq 5, 3) := by decide +kernel
theorem dX5_holds_22 : decode cX5_holds 22 = .ok (.iconst 0, 1) := by decide +kernel
theorem dX5_holds_23 : decode cX5_holds 23 = .ok (.ireturn, 1) := by decide +kernel
theorem dX5_holds_24 : decode cX5_holds 24 = .ok (.iconst 0, 1) := by decide +kernel
theorem dX5_holds_25 : decode cX5_holds 25 = .ok (.istore 4, 2) := by decide +kernel
theorem dX5_holds_27 : decode cX5_holds 27 = .ok (.iload 4, 2) := by decide +kernel
theorem dX5_holds_29 : decode cX5_holds 29 = .ok (.aload_n 1, 1) := by decide +kernel
theorem dX5_holds_30 : decode cX5_holds 30 = .ok (.getfield 21, 3) := by decide +kernel
theorem dX5_holds_33 : decode cX5_holds 33 = .ok (.if_icmp .ge 30, 3) := by decide +kernel
theorem dX5_holds_36 : decode cX5_holds 36 = .ok (.aload_n 0, 1) := by decide +kernel
theorem dX5_holds_37 : decode cX5_holds 37 = .ok (.getfield 15, 3) := by decide +kernel
theorem dX5_holds_40 : decode cX5_holds 40 = .ok (.iload_n 2, 1) := by decide +kernel
theorem dX5_holds_41 : decode cX5_holds 41 = .ok (.iload 4, 2) := by decide +kernel
theorem dX5_holds_43 : decode cX5_holds 43 = .ok (.iadd, 1) := by decide +kernel
theorem dX5_holds_44 : decode cX5_holds 44 = .ok (.iaload, 1) := by decide +kernel
theorem dX5_holds_45 : decode cX5_holds 45 = .ok (.aload_n 1, 1) := by decide +kernel
theorem dX5_holds_46 : decode cX5_holds 46 = .ok (.getfield 15, 3) := by decide +kernel
theorem dX5_holds_49 : decode cX5_holds 49 = .ok (.iload 4, 2) := by decide +kernel
theorem dX5_holds_51 : decode cX5_holds 51 = .ok (.iaload, 1) := by decide +kernel
theorem dX5_holds_52 : decode cX5_holds 52 = .ok (.if_icmp .eq 5, 3) := by decide +kernel
theorem dX5_holds_55 : decode cX5_holds 55 = .ok (.iconst 0, 1) := by decide +kernel
theorem dX5_holds_56 : decode cX5_holds 56 = .ok (.ireturn, 1) := by decide +kernel
theorem dX5_holds_57 : decode cX5_holds 57 = .ok (.iinc 4 1, 3) := by decide +kernel
theorem dX5_holds_60 : decode cX5_holds 60 = .ok (.goto (-33), 3) := by decide +kernel
theorem dX5_holds_63 : decode cX5_holds 63 = .ok (.iconst 1, 1) := by decide +kernel
theorem dX5_holds_64 : decode cX5_holds 64 = .ok (.ireturn, 1) := by decide +kernel
theorem dX5_put_0 : decode cX5_put 0 = .ok (.iload_n 1, 1) := by decide +kernel
theorem dX5_put_1 : decode cX5_put 1 = .ok (.ifCond .lt 23, 3) := by decide +kernel
theorem dX5_put_4 : decode cX5_put 4 = .ok (.iload_n 1, 1) := by decide +kernel
theorem dX5_put_5 : decode cX5_put 5 = .ok (.aload_n 0, 1) := by decide +kernel
theorem dX5_put_6 : decode cX5_put 6 = .ok (.getfield 21, 3) := by decide +kernel
theorem dX5_put_9 : decode cX5_put 9 = .ok (.if_icmp .gt 15, 3) := by decide +kernel
theorem dX5_put_12 : decode cX5_put 12 = .ok (.aload_n 0, 1) := by decide +kernel
theorem dX5_put_13 : decode cX5_put 13 = .ok (.getfield 21, 3) := by decide +kernel
theorem dX5_put_16 : decode cX5_put 16 = .ok (.aload_n 0, 1) := by decide +kernel
theorem dX5_put_17 : decode cX5_put 17 = .ok (.getfield 15, 3) := by decide +kernel
theorem dX5_put_20 : decode cX5_put 20 = .ok (.arraylength, 1) := by decide +kernel
theorem dX5_put_21 : decode cX5_put 21 = .ok (.if_icmp .lt 4, 3) := by decide +kernel
theorem dX5_put_24 : decode cX5_put 24 = .ok (.return_, 1) := by decide +kernel
theorem dX5_put_25 : decode cX5_put 25 = .ok (.aload_n 0, 1) := by decide +kernel
theorem dX5_put_26 : decode cX5_put 26 = .ok (.getfield 15, 3) := by decide +kernel
theorem dX5_put_29 : decode cX5_put 29 = .ok (.iload_n 1, 1) := by decide +kernel
theorem dX5_put_30 : decode cX5_put 30 = .ok (.aload_n 0, 1) := by decide +kernel
theorem dX5_put_31 : decode cX5_put 31 = .ok (.getfield 15, 3) := by decide +kernel
theorem dX5_put_34 : decode cX5_put 34 = .ok (.iload_n 1, 1) := by decide +kernel
theorem dX5_put_35 : decode cX5_put 35 = .ok (.iconst 1, 1) := by decide +kernel
theorem dX5_put_36 : decode cX5_put 36 = .ok (.iadd, 1) := by decide +kernel
theorem dX5_put_37 : decode cX5_put 37 = .ok (.aload_n 0, 1) := by decide +kernel
theorem dX5_put_38 : decode cX5_put 38 = .ok (.getfield 21, 3) := by decide +kernel
theorem dX5_put_41 : decode cX5_put 41 = .ok (.iload_n 1, 1) := by decide +kernel
theorem dX5_put_42 : decode cX5_put 42 = .ok (.isub, 1) := by decide +kernel
theorem dX5_put_43 : decode cX5_put 43 = .ok (.invokestatic 28, 3) := by decide +kernel
theorem dX5_put_46 : decode cX5_put 46 = .ok (.aload_n 0, 1) := by decide +kernel
theorem dX5_put_47 : decode cX5_put 47 = .ok (.getfield 15, 3) := by decide +kernel
theorem dX5_put_50 : decode cX5_put 50 = .ok (.iload_n 1, 1) := by decide +kernel
theorem dX5_put_51 : decode cX5_put 51 = .ok (.iload_n 2, 1) := by decide +kernel
theorem dX5_put_52 : decode cX5_put 52 = .ok (.iastore, 1) := by decide +kernel
end
section
theorem dX5_put_53 : decode cX5_put 53 = .ok (.aload_n 0, 1) := by decide +kernel
theorem dX5_put_54 : decode cX5_put 54 = .ok (.dup, 1) := by decide +kernel
theorem dX5_put_55 : decode cX5_put 55 = .ok (.getfield 21, 3) := by decide +kernel
theorem dX5_put_58 : decode cX5_put 58 = .ok (.iconst 1, 1) := by decide +kernel
theorem dX5_put_59 : decode cX5_put 59 = .ok (.iadd, 1) := by decide +kernel
theorem dX5_put_60 : decode cX5_put 60 = .ok (.putfield 21, 3) := by decide +kernel
theorem dX5_put_63 : decode cX5_put 63 = .ok (.return_, 1) := by decide +kernel
theorem dX5_erase_0 : decode cX5_erase 0 = .ok (.iload_n 1, 1) := by decide +kernel
theorem dX5_erase_1 : decode cX5_erase 1 = .ok (.ifCond .lt 11, 3) := by decide +kernel
theorem dX5_erase_4 : decode cX5_erase 4 = .ok (.iload_n 1, 1) := by decide +kernel
theorem dX5_erase_5 : decode cX5_erase 5 = .ok (.aload_n 0, 1) := by decide +kernel
theorem dX5_erase_6 : decode cX5_erase 6 = .ok (.getfield 21, 3) := by decide +kernel
theorem dX5_erase_9 : decode cX5_erase 9 = .ok (.if_icmp .lt 4, 3) := by decide +kernel
theorem dX5_erase_12 : decode cX5_erase 12 = .ok (.return_, 1) := by decide +kernel
theorem dX5_erase_13 : decode cX5_erase 13 = .ok (.aload_n 0, 1) := by decide +kernel
theorem dX5_erase_14 : decode cX5_erase 14 = .ok (.getfield 15, 3) := by decide +kernel
theorem dX5_erase_17 : decode cX5_erase 17 = .ok (.iload_n 1, 1) := by decide +kernel
theorem dX5_erase_18 : decode cX5_erase 18 = .ok (.iconst 1, 1) := by decide +kernel
theorem dX5_erase_19 : decode cX5_erase 19 = .ok (.iadd, 1) := by decide +kernel
theorem dX5_erase_20 : decode cX5_erase 20 = .ok (.aload_n 0, 1) := by decide +kernel
theorem dX5_erase_21 : decode cX5_erase 21 = .ok (.getfield 15, 3) := by decide +kernel
theorem dX5_erase_24 : decode cX5_erase 24 = .ok (.iload_n 1, 1) := by decide +kernel
theorem dX5_erase_25 : decode cX5_erase 25 = .ok (.aload_n 0, 1) := by decide +kernel
theorem dX5_erase_26 : decode cX5_erase 26 = .ok (.getfield 21, 3) := by decide +kernel
theorem dX5_erase_29 : decode cX5_erase 29 = .ok (.iload_n 1, 1) := by decide +kernel
theorem dX5_erase_30 : decode cX5_erase 30 = .ok (.isub, 1) := by decide +kernel
theorem dX5_erase_31 : decode cX5_erase 31 = .ok (.iconst 1, 1) := by decide +kernel
theorem dX5_erase_32 : decode cX5_erase 32 = .ok (.isub, 1) := by decide +kernel
theorem dX5_erase_33 : decode cX5_erase 33 = .ok (.invokestatic 28, 3) := by decide +kernel
theorem dX5_erase_36 : decode cX5_erase 36 = .ok (.aload_n 0, 1) := by decide +kernel
theorem dX5_erase_37 : decode cX5_erase 37 = .ok (.dup, 1) := by decide +kernel
theorem dX5_erase_38 : decode cX5_erase 38 = .ok (.getfield 21, 3) := by decide +kernel
theorem dX5_erase_41 : decode cX5_erase 41 = .ok (.iconst 1, 1) := by decide +kernel
theorem dX5_erase_42 : decode cX5_erase 42 = .ok (.isub, 1) := by decide +kernel
theorem dX5_erase_43 : decode cX5_erase 43 = .ok (.putfield 21, 3) := by decide +kernel
theorem dX5_erase_46 : decode cX5_erase 46 = .ok (.return_, 1) := by decide +kernel
theorem dX5_moveTail_0 : decode cX5_moveTail 0 = .ok (.iload_n 1, 1) := by decide +kernel
theorem dX5_moveTail_1 : decode cX5_moveTail 1 = .ok (.ifCond .lt 25, 3) := by decide +kernel
theorem dX5_moveTail_4 : decode cX5_moveTail 4 = .ok (.iload_n 1, 1) := by decide +kernel
theorem dX5_moveTail_5 : decode cX5_moveTail 5 = .ok (.aload_n 0, 1) := by decide +kernel
theorem dX5_moveTail_6 : decode cX5_moveTail 6 = .ok (.getfield 21, 3) := by decide +kernel
theorem dX5_moveTail_9 : decode cX5_moveTail 9 = .ok (.if_icmp .gt 17, 3) := by decide +kernel
theorem dX5_moveTail_12 : decode cX5_moveTail 12 = .ok (.aload_n 0, 1) := by decide +kernel
theorem dX5_moveTail_13 : decode cX5_moveTail 13 = .ok (.getfield 21, 3) := by decide +kernel
theorem dX5_moveTail_16 : decode cX5_moveTail 16 = .ok (.iload_n 1, 1) := by decide +kernel
theorem dX5_moveTail_17 : decode cX5_moveTail 17 = .ok (.isub, 1) := by decide +kernel
theorem dX5_moveTail_18 : decode cX5_moveTail 18 = .ok (.aload_n 2, 1) := by decide +kernel
theorem dX5_moveTail_19 : decode cX5_moveTail 19 = .ok (.getfield 15, 3) := by decide +kernel
theorem dX5_moveTail_22 : decode cX5_moveTail 22 = .ok (.arraylength, 1) := by decide +kernel
theorem dX5_moveTail_23 : decode cX5_moveTail 23 = .ok (.if_icmp .le 4, 3) := by decide +kernel
theorem dX5_moveTail_26 : decode cX5_moveTail 26 = .ok (.return_, 1) := by decide +kernel
theorem dX5_moveTail_27 : decode cX5_moveTail 27 = .ok (.aload_n 0, 1) := by decide +kernel
theorem dX5_moveTail_28 : decode cX5_moveTail 28 = .ok (.getfield 15, 3) := by decide +kernel
theorem dX5_moveTail_31 : decode cX5_moveTail 31 = .ok (.iload_n 1, 1) := by decide +kernel
theorem dX5_moveTail_32 : decode cX5_moveTail 32 = .ok (.aload_n 2, 1) := by decide +kernel
theorem dX5_moveTail_33 : decode cX5_moveTail 33 = .ok (.getfield 15, 3) := by decide +kernel
theorem dX5_moveTail_36 : decode cX5_moveTail 36 = .ok (.iconst 0, 1) := by decide +kernel
theorem dX5_moveTail_37 : decode cX5_moveTail 37 = .ok (.aload_n 0, 1) := by decide +kernel
theorem dX5_moveTail_38 : decode cX5_moveTail 38 = .ok (.getfield 21, 3) := by decide +kernel
theorem dX5_moveTail_41 : decode cX5_moveTail 41 = .ok (.iload_n 1, 1) := by decide +kernel
theorem dX5_moveTail_42 : decode cX5_moveTail 42 = .ok (.isub, 1) := by decide +kernel
theorem dX5_moveTail_43 : decode cX5_moveTail 43 = .ok (.invokestatic 28, 3) := by decide +kernel
theorem dX5_moveTail_46 : decode cX5_moveTail 46 = .ok (.aload_n 2, 1) := by decide +kernel
theorem dX5_moveTail_47 : decode cX5_moveTail 47 = .ok (.aload_n 0, 1) := by decide +kernel
theorem dX5_moveTail_48 : decode cX5_moveTail 48 = .ok (.getfield 21, 3) := by decide +kernel
theorem dX5_moveTail_51 : decode cX5_moveTail 51 = .ok (.iload_n 1, 1) := by decide +kernel
theorem dX5_moveTail_52 : decode cX5_moveTail 52 = .ok (.isub, 1) := by decide +kernel
theorem dX5_moveTail_53 : decode cX5_moveTail 53 = .ok (.putfield 21, 3) := by decide +kernel
theorem dX5_moveTail_56 : decode cX5_moveTail 56 = .ok (.aload_n 0, 1) := by decide +kernel
theorem dX5_moveTail_57 : decode cX5_moveTail 57 = .ok (.iload_n 1, 1) := by decide +kernel
theorem dX5_moveTail_58 : decode cX5_moveTail 58 = .ok (.putfield 21, 3) := by decide +kernel
theorem dX5_moveTail_61 : decode cX5_moveTail 61 = .ok (.return_, 1) := by decide +kernel
theorem dX6_init_0 : decode cX6_init 0 = .ok (.aload_n 0, 1) := by decide +kernel
theorem dX6_init_1 : decode cX6_init 1 = .ok (.invokespecial 3, 3) := by decide +kernel
theorem dX6_init_4 : decode cX6_init 4 = .ok (.aload_n 0, 1) := by decide +kernel
theorem dX6_init_5 : decode cX6_init 5 = .ok (.bipush 24, 2) := by decide +kernel
theorem dX6_init_7 : decode cX6_init 7 = .ok (.newarray .int, 2) := by decide +kernel
theorem dX6_init_9 : decode cX6_init 9 = .ok (.putfield 9, 3) := by decide +kernel
theorem dX6_init_12 : decode cX6_init 12 = .ok (.aload_n 0, 1) := by decide +kernel
theorem dX6_init_13 : decode cX6_init 13 = .ok (.bipush 24, 2) := by decide +kernel
theorem dX6_init_15 : decode cX6_init 15 = .ok (.newarray .int, 2) := by decide +kernel
theorem dX6_init_17 : decode cX6_init 17 = .ok (.putfield 15, 3) := by decide +kernel
theorem dX6_init_20 : decode cX6_init 20 = .ok (.aload_n 0, 1) := by decide +kernel
theorem dX6_init_21 : decode cX6_init 21 = .ok (.iconst 0, 1) := by decide +kernel
theorem dX6_init_22 : decode cX6_init 22 = .ok (.putfield 18, 3) := by decide +kernel
theorem dX6_init_25 : decode cX6_init 25 = .ok (.return_, 1) := by decide +kernel
theorem dX6_copyFrom_0 : decode cX6_copyFrom 0 = .ok (.aload_n 1, 1) := by decide +kernel
theorem dX6_copyFrom_1 : decode cX6_copyFrom 1 = .ok (.getfield 9, 3) := by decide +kernel
theorem dX6_copyFrom_4 : decode cX6_copyFrom 4 = .ok (.iconst 0, 1) := by decide +kernel
theorem dX6_copyFrom_5 : decode cX6_copyFrom 5 = .ok (.aload_n 0, 1) := by decide +kernel
theorem dX6_copyFrom_6 : decode cX6_copyFrom 6 = .ok (.getfield 9, 3) := by decide +kernel
theorem dX6_copyFrom_9 : decode cX6_copyFrom 9 = .ok (.iconst 0, 1) := by decide +kernel
theorem dX6_copyFrom_10 : decode cX6_copyFrom 10 = .ok (.bipush 24, 2) := by decide +kernel
theorem dX6_copyFrom_12 : decode cX6_copyFrom 12 = .ok (.invokestatic 22, 3) := by decide +kernel
theorem dX6_copyFrom_15 : decode cX6_copyFrom 15 = .ok (.aload_n 1, 1) := by decide +kernel
theorem dX6_copyFrom_16 : decode cX6_copyFrom 16 = .ok (.getfield 15, 3) := by decide +kernel
theorem dX6_copyFrom_19 : decode cX6_copyFrom 19 = .ok (.iconst 0, 1) := by decide +kernel
theorem dX6_copyFrom_20 : decode cX6_copyFrom 20 = .ok (.aload_n 0, 1) := by decide +kernel
theorem dX6_copyFrom_21 : decode cX6_copyFrom 21 = .ok (.getfield 15, 3) := by decide +kernel
theorem dX6_copyFrom_24 : decode cX6_copyFrom 24 = .ok (.iconst 0, 1) := by decide +kernel
theorem dX6_copyFrom_25 : decode cX6_copyFrom 25 = .ok (.bipush 24, 2) := by decide +kernel
theorem dX6_copyFrom_27 : decode cX6_copyFrom 27 = .ok (.invokestatic 22, 3) := by decide +kernel
theorem dX6_copyFrom_30 : decode cX6_copyFrom 30 = .ok (.aload_n 0, 1) := by decide +kernel
theorem dX6_copyFrom_31 : decode cX6_copyFrom 31 = .ok (.aload_n 1, 1) := by decide +kernel
theorem dX6_copyFrom_32 : decode cX6_copyFrom 32 = .ok (.getfield 18, 3) := by decide +kernel
theorem dX6_copyFrom_35 : decode cX6_copyFrom 35 = .ok (.putfield 18, 3) := by decide +kernel
theorem dX6_copyFrom_38 : decode cX6_copyFrom 38 = .ok (.return_, 1) := by decide +kernel
theorem dX6_add_0 : decode cX6_add 0 = .ok (.iload_n 1, 1) := by decide +kernel
theorem dX6_add_1 : decode cX6_add 1 = .ok (.iconst (-1), 1) := by decide +kernel
theorem dX6_add_2 : decode cX6_add 2 = .ok (.if_icmp .ne 7, 3) := by decide +kernel
theorem dX6_add_5 : decode cX6_add 5 = .ok (.iconst 0, 1) := by decide +kernel
theorem dX6_add_6 : decode cX6_add 6 = .ok (.goto 4, 3) := by decide +kernel
theorem dX6_add_9 : decode cX6_add 9 = .ok (.iconst 2, 1) := by decide +kernel
theorem dX6_add_10 : decode cX6_add 10 = .ok (.iload_n 2, 1) := by decide +kernel
theorem dX6_add_11 : decode cX6_add 11 = .ok (.iconst (-1), 1) := by decide +kernel
theorem dX6_add_12 : decode cX6_add 12 = .ok (.if_icmp .ne 7, 3) := by decide +kernel
theorem dX6_add_15 : decode cX6_add 15 = .ok (.iconst 0, 1) := by decide +kernel
theorem dX6_add_16 : decode cX6_add 16 = .ok (.goto 4, 3) := by decide +kernel
theorem dX6_add_19 : decode cX6_add 19 = .ok (.iconst 1, 1) := by decide +kernel
theorem dX6_add_20 : decode cX6_add 20 = .ok (.iadd, 1) := by decide +kernel
theorem dX6_add_21 : decode cX6_add 21 = .ok (.istore 4, 2) := by decide +kernel
theorem dX6_add_23 : decode cX6_add 23 = .ok (.iconst 0, 1) := by decide +kernel
theorem dX6_add_24 : decode cX6_add 24 = .ok (.istore 5, 2) := by decide +kernel
theorem dX6_add_26 : decode cX6_add 26 = .ok (.iload 5, 2) := by decide +kernel
theorem dX6_add_28 : decode cX6_add 28 = .ok (.bipush 8, 2) := by decide +kernel
theorem dX6_add_30 : decode cX6_add 30 = .ok (.if_icmp .ge 102, 3) := by decide +kernel
theorem dX6_add_33 : decode cX6_add 33 = .ok (.iconst 0, 1) := by decide +kernel
theorem dX6_add_34 : decode cX6_add 34 = .ok (.istore 6, 2) := by decide +kernel
theorem dX6_add_36 : decode cX6_add 36 = .ok (.iload 6, 2) := by decide +kernel
theorem dX6_add_38 : decode cX6_add 38 = .ok (.iconst 3, 1) := by decide +kernel
theorem dX6_add_39 : decode cX6_add 39 = .ok (.if_icmp .ge 87, 3) := by decide +kernel
theorem dX6_add_42 : decode cX6_add 42 = .ok (.iload_n 1, 1) := by decide +kernel
theorem dX6_add_43 : decode cX6_add 43 = .ok (.iconst (-1), 1) := by decide +kernel
theorem dX6_add_44 : decode cX6_add 44 = .ok (.if_icmp .eq 9, 3) := by decide +kernel
theorem dX6_add_47 : decode cX6_add 47 = .ok (.iload_n 1, 1) := by decide +kernel
theorem dX6_add_48 : decode cX6_add 48 = .ok (.iload 5, 2) := by decide +kernel
theorem dX6_add_50 : decode cX6_add 50 = .ok (.if_icmp .ne 18, 3) := by decide +kernel
theorem dX6_add_53 : decode cX6_add 53 = .ok (.iload_n 2, 1) := by decide +kernel
theorem dX6_add_54 : decode cX6_add 54 = .ok (.iconst (-1), 1) := by decide +kernel
theorem dX6_add_55 : decode cX6_add 55 = .ok (.if_icmp .eq 9, 3) := by decide +kernel
theorem dX6_add_58 : decode cX6_add 58 = .ok (.iload_n 2, 1) := by decide +kernel
theorem dX6_add_59 : decode cX6_add 59 = .ok (.iload 6, 2) := by decide +kernel
theorem dX6_add_61 : decode cX6_add 61 = .ok (.if_icmp .ne 7, 3) := by decide +kernel
theorem dX6_add_64 : decode cX6_add 64 = .ok (.iconst 1, 1) := by decide +kernel
theorem dX6_add_65 : decode cX6_add 65 = .ok (.goto 4, 3) := by decide +kernel
theorem dX6_add_68 : decode cX6_add 68 = .ok (.iconst 0, 1) := by decide +kernel
theorem dX6_add_69 : decode cX6_add 69 = .ok (.istore 7, 2) := by decide +kernel
theorem dX6_add_71 : decode cX6_add 71 = .ok (.iload 7, 2) := by decide +kernel
theorem dX6_add_73 : decode cX6_add 73 = .ok (.ifCond .eq 47, 3) := by decide +kernel
theorem dX6_add_76 : decode cX6_add 76 = .ok (.iload 4, 2) := by decide +kernel
theorem dX6_add_78 : decode cX6_add 78 = .ok (.aload_n 0, 1) := by decide +kernel
theorem dX6_add_79 : decode cX6_add 79 = .ok (.getfield 15, 3) := by decide +kernel
theorem dX6_add_82 : decode cX6_add 82 = .ok (.iload 5, 2) := by decide +kernel
theorem dX6_add_84 : decode cX6_add 84 = .ok (.iconst 3, 1) := by decide +kernel
theorem dX6_add_85 : decode cX6_add 85 = .ok (.imul, 1) := by decide +kernel
theorem dX6_add_86 : decode cX6_add 86 = .ok (.iload 6, 2) := by decide +kernel
theorem dX6_add_88 : decode cX6_add 88 = .ok (.iadd, 1) := by decide +kernel
theorem dX6_add_89 : decode cX6_add 89 = .ok (.iaload, 1) := by decide +kernel
theorem dX6_add_90 : decode cX6_add 90 = .ok (.if_icmp .lt 30, 3) := by decide +kernel
theorem dX6_add_93 : decode cX6_add 93 = .ok (.aload_n 0, 1) := by decide +kernel
theorem dX6_add_94 : decode cX6_add 94 = .ok (.getfield 9, 3) := by decide +kernel
theorem dX6_add_97 : decode cX6_add 97 = .ok (.iload 5, 2) := by decide +kernel
theorem dX6_add_99 : decode cX6_add 99 = .ok (.iconst 3, 1) := by decide +kernel
theorem dX6_add_100 : decode cX6_add 100 = .ok (.imul, 1) := by decide +kernel
theorem dX6_add_101 : decode cX6_add 101 = .ok (.iload 6, 2) := by decide +kernel
theorem dX6_add_103 : decode cX6_add 103 = .ok (.iadd, 1) := by decide +kernel
theorem dX6_add_104 : decode cX6_add 104 = .ok (.iload_n 3, 1) := by decide +kernel
theorem dX6_add_105 : decode cX6_add 105 = .ok (.iastore, 1) := by decide +kernel
theorem dX6_add_106 : decode cX6_add 106 = .ok (.aload_n 0, 1) := by decide +kernel
theorem dX6_add_107 : decode cX6_add 107 = .ok (.getfield 15, 3) := by decide +kernel
theorem dX6_add_110 : decode cX6_add 110 = .ok (.iload 5, 2) := by decide +kernel
theorem dX6_add_112 : decode cX6_add 112 = .ok (.iconst 3, 1) := by decide +kernel
theorem dX6_add_113 : decode cX6_add 113 = .ok (.imul, 1) := by decide +kernel
theorem dX6_add_114 : decode cX6_add 114 = .ok (.iload 6, 2) := by decide +kernel
theorem dX6_add_116 : decode cX6_add 116 = .ok (.iadd, 1) := by decide +kernel
theorem dX6_add_117 : decode cX6_add 117 = .ok (.iload 4, 2) := by decide +kernel
theorem dX6_add_119 : decode cX6_add 119 = .ok (.iastore, 1) := by decide +kernel
theorem dX6_add_120 : decode cX6_add 120 = .ok (.iinc 6 1, 3) := by decide +kernel
theorem dX6_add_123 : decode cX6_add 123 = .ok (.goto (-87), 3) := by decide +kernel
theorem dX6_add_126 : decode cX6_add 126 = .ok (.iinc 5 1, 3) := by decide +kernel
theorem dX6_add_129 : decode cX6_add 129 = .ok (.goto (-103), 3) := by decide +kernel
theorem dX6_add_132 : decode cX6_add 132 = .ok (.aload_n 0, 1) := by decide +kernel
theorem dX6_add_133 : decode cX6_add 133 = .ok (.dup, 1) := by decide +kernel
theorem dX6_add_134 : decode cX6_add 134 = .ok (.getfield 18, 3) := by decide +kernel
theorem dX6_add_137 : decode cX6_add 137 = .ok (.iconst 1, 1) := by decide +kernel
theorem dX6_add_138 : decode cX6_add 138 = .ok (.iadd, 1) := by decide +kernel
theorem dX6_add_139 : decode cX6_add 139 = .ok (.putfield 18, 3) := by decide +kernel
theorem dX6_add_142 : decode cX6_add 142 = .ok (.return_, 1) := by decide +kernel
theorem dX6_shadeOf_0 : decode cX6_shadeOf 0 = .ok (.iload_n 1, 1) := by decide +kernel
theorem dX6_shadeOf_1 : decode cX6_shadeOf 1 = .ok (.iconst 3, 1) := by decide +kernel
theorem dX6_shadeOf_2 : decode cX6_shadeOf 2 = .ok (.imul, 1) := by decide +kernel
theorem dX6_shadeOf_3 : decode cX6_shadeOf 3 = .ok (.iload_n 2, 1) := by decide +kernel
theorem dX6_shadeOf_4 : decode cX6_shadeOf 4 = .ok (.iadd, 1) := by decide +kernel
theorem dX6_shadeOf_5 : decode cX6_shadeOf 5 = .ok (.istore_n 3, 1) := by decide +kernel
theorem dX6_shadeOf_6 : decode cX6_shadeOf 6 = .ok (.iload_n 3, 1) := by decide +kernel
theorem dX6_shadeOf_7 : decode cX6_shadeOf 7 = .ok (.ifCond .lt 21, 3) := by decide +kernel
theorem dX6_shadeOf_10 : decode cX6_shadeOf 10 = .ok (.iload_n 3, 1) := by decide +kernel
theorem dX6_shadeOf_11 : decode cX6_shadeOf 11 = .ok (.aload_n 0, 1) := by decide +kernel
theorem dX6_shadeOf_12 : decode cX6_shadeOf 12 = .ok (.getfield 9, 3) := by decide +kernel
theorem dX6_shadeOf_15 : decode cX6_shadeOf 15 = .ok (.arraylength, 1) := by decide +kernel
theorem dX6_shadeOf_16 : decode cX6_shadeOf 16 = .ok (.if_icmp .ge 12, 3) := by decide +kernel
theorem dX6_shadeOf_19 : decode cX6_shadeOf 19 = .ok (.aload_n 0, 1) := by decide +kernel
theorem dX6_shadeOf_20 : decode cX6_shadeOf 20 = .ok (.getfield 9, 3) := by decide +kernel
theorem dX6_shadeOf_23 : decode cX6_shadeOf 23 = .ok (.iload_n 3, 1) := by decide +kernel
theorem dX6_shadeOf_24 : decode cX6_shadeOf 24 = .ok (.iaload, 1) := by decide +kernel
theorem dX6_shadeOf_25 : decode cX6_shadeOf 25 = .ok (.goto 4, 3) := by decide +kernel
theorem dX6_shadeOf_28 : decode cX6_shadeOf 28 = .ok (.iconst 0, 1) := by decide +kernel
theorem dX6_shadeOf_29 : decode cX6_shadeOf 29 = .ok (.ireturn, 1) := by decide +kernel
theorem dX7_init_0 : decode cX7_init 0 = .ok (.aload_n 0, 1) := by decide +kernel
theorem dX7_init_1 : decode cX7_init 1 = .ok (.invokespecial 3, 3) := by decide +kernel
theorem dX7_init_4 : decode cX7_init 4 = .ok (.aload_n 0, 1) := by decide +kernel
theorem dX7_init_5 : decode cX7_init 5 = .ok (.bipush 6, 2) := by decide +kernel
theorem dX7_init_7 : decode cX7_init 7 = .ok (.newarray .int, 2) := by decide +kernel
theorem dX7_init_9 : decode cX7_init 9 = .ok (.putfield 9, 3) := by decide +kernel
theorem dX7_init_12 : decode cX7_init 12 = .ok (.aload_n 0, 1) := by decide +kernel
theorem dX7_init_13 : decode cX7_init 13 = .ok (.invokevirtual 15, 3) := by decide +kernel
theorem dX7_init_16 : decode cX7_init 16 = .ok (.return_, 1) := by decide +kernel
theorem dX7_begin_0 : decode cX7_begin 0 = .ok (.aload_n 0, 1) := by decide +kernel
theorem dX7_begin_1 : decode cX7_begin 1 = .ok (.getfield 9, 3) := by decide +kernel
theorem dX7_begin_4 : decode cX7_begin 4 = .ok (.iconst 0, 1) := by decide +kernel
theorem dX7_begin_5 : decode cX7_begin 5 = .ok (.bipush 123, 2) := by decide +kernel
theorem dX7_begin_7 : decode cX7_begin 7 = .ok (.iastore, 1) := by decide +kernel
theorem dX7_begin_8 : decode cX7_begin 8 = .ok (.aload_n 0, 1) := by decide +kernel
theorem dX7_begin_9 : decode cX7_begin 9 = .ok (.iconst 1, 1) := by decide +kernel
theorem dX7_begin_10 : decode cX7_begin 10 = .ok (.putfield 18, 3) := by decide +kernel
theorem dX7_begin_13 : decode cX7_begin 13 = .ok (.aload_n 0, 1) := by decide +kernel
theorem dX7_begin_14 : decode cX7_begin 14 = .ok (.iconst (-1), 1) := by decide +kernel
theorem dX7_begin_15 : decode cX7_begin 15 = .ok (.putfield 22, 3) := by decide +kernel
theorem dX7_begin_18 : decode cX7_begin 18 = .ok (.return_, 1) := by decide +kernel
theorem dX7_copyFrom_0 : decode cX7_copyFrom 0 = .ok (.aload_n 1, 1) := by decide +kernel
theorem dX7_copyFrom_1 : decode cX7_copyFrom 1 = .ok (.getfield 9, 3) := by decide +kernel
theorem dX7_copyFrom_4 : decode cX7_copyFrom 4 = .ok (.iconst 0, 1) := by decide +kernel
theorem dX7_copyFrom_5 : decode cX7_copyFrom 5 = .ok (.aload_n 0, 1) := by decide +kernel
theorem dX7_copyFrom_6 : decode cX7_copyFrom 6 = .ok (.getfield 9, 3) := by decide +kernel
theorem dX7_copyFrom_9 : decode cX7_copyFrom 9 = .ok (.iconst 0, 1) := by decide +kernel
theorem dX7_copyFrom_10 : decode cX7_copyFrom 10 = .ok (.bipush 6, 2) := by decide +kernel
theorem dX7_copyFrom_12 : decode cX7_copyFrom 12 = .ok (.invokestatic 25, 3) := by decide +kernel
theorem dX7_copyFrom_15 : decode cX7_copyFrom 15 = .ok (.aload_n 0, 1) := by decide +kernel
theorem dX7_copyFrom_16 : decode cX7_copyFrom 16 = .ok (.aload_n 1, 1) := by decide +kernel
theorem dX7_copyFrom_17 : decode cX7_copyFrom 17 = .ok (.getfield 18, 3) := by decide +kernel
theorem dX7_copyFrom_20 : decode cX7_copyFrom 20 = .ok (.putfield 18, 3) := by decide +kernel
theorem dX7_copyFrom_23 : decode cX7_copyFrom 23 = .ok (.aload_n 0, 1) := by decide +kernel
theorem dX7_copyFrom_24 : decode cX7_copyFrom 24 = .ok (.aload_n 1, 1) := by decide +kernel
theorem dX7_copyFrom_25 : decode cX7_copyFrom 25 = .ok (.getfield 22, 3) := by decide +kernel
theorem dX7_copyFrom_28 : decode cX7_copyFrom 28 = .ok (.putfield 22, 3) := by decide +kernel
theorem dX7_copyFrom_31 : decode cX7_copyFrom 31 = .ok (.return_, 1) := by decide +kernel
theorem dX7_isLike_0 : decode cX7_isLike 0 = .ok (.aload_n 0, 1) := by decide +kernel
theorem dX7_isLike_1 : decode cX7_isLike 1 = .ok (.getfield 18, 3) := by decide +kernel
theorem dX7_isLike_4 : decode cX7_isLike 4 = .ok (.aload_n 1, 1) := by decide +kernel
theorem dX7_isLike_5 : decode cX7_isLike 5 = .ok (.getfield 18, 3) := by decide +kernel
theorem dX7_isLike_8 : decode cX7_isLike 8 = .ok (.if_icmp .ne 14, 3) := by decide +kernel
theorem dX7_isLike_11 : decode cX7_isLike 11 = .ok (.aload_n 0, 1) := by decide +kernel
theorem dX7_isLike_12 : decode cX7_isLike 12 = .ok (.getfield 22, 3) := by decide +kernel
theorem dX7_isLike_15 : decode cX7_isLike 15 = .ok (.aload_n 1, 1) := by decide +kernel
theorem dX7_isLike_16 : decode cX7_isLike 16 = .ok (.getfield 22, 3) := by decide +kernel
theorem dX7_isLike_19 : decode cX7_isLike 19 = .ok (.if_icmp .eq 5, 3) := by decide +kernel
theorem dX7_isLike_22 : decode cX7_isLike 22 = .ok (.iconst 0, 1) := by decide +kernel
theorem dX7_isLike_23 : decode cX7_isLike 23 = .ok (.ireturn, 1) := by decide +kernel
theorem dX7_isLike_24 : decode cX7_isLike 24 = .ok (.iconst 0, 1) := by decide +kernel
theorem dX7_isLike_25 : decode cX7_isLike 25 = .ok (.istore_n 2, 1) := by decide +kernel
theorem dX7_isLike_26 : decode cX7_isLike 26 = .ok (.iload_n 2, 1) := by decide +kernel
theorem dX7_isLike_27 : decode cX7_isLike 27 = .ok (.aload_n 0, 1) := by decide +kernel
theorem dX7_isLike_28 : decode cX7_isLike 28 = .ok (.getfield 18, 3) := by decide +kernel
theorem dX7_isLike_31 : decode cX7_isLike 31 = .ok (.if_icmp .ge 32, 3) := by decide +kernel
theorem dX7_isLike_34 : decode cX7_isLike 34 = .ok (.iload_n 2, 1) := by decide +kernel
theorem dX7_isLike_35 : decode cX7_isLike 35 = .ok (.bipush 6, 2) := by decide +kernel
theorem dX7_isLike_37 : decode cX7_isLike 37 = .ok (.if_icmp .ge 26, 3) := by decide +kernel
theorem dX7_isLike_40 : decode cX7_isLike 40 = .ok (.aload_n 0, 1) := by decide +kernel
theorem dX7_isLike_41 : decode cX7_isLike 41 = .ok (.getfield 9, 3) := by decide +kernel
theorem dX7_isLike_44 : decode cX7_isLike 44 = .ok (.iload_n 2, 1) := by decide +kernel
theorem dX7_isLike_45 : decode cX7_isLike 45 = .ok (.iaload, 1) := by decide +kernel
theorem dX7_isLike_46 : decode cX7_isLike 46 = .ok (.aload_n 1, 1) := by decide +kernel
theorem dX7_isLike_47 : decode cX7_isLike 47 = .ok (.getfield 9, 3) := by decide +kernel
theorem dX7_isLike_50 : decode cX7_isLike 50 = .ok (.iload_n 2, 1) := by decide +kernel
theorem dX7_isLike_51 : decode cX7_isLike 51 = .ok (.iaload, 1) := by decide +kernel
theorem dX7_isLike_52 : decode cX7_isLike 52 = .ok (.if_icmp .eq 5, 3) := by decide +kernel
theorem dX7_isLike_55 : decode cX7_isLike 55 = .ok (.iconst 0, 1) := by decide +kernel
theorem dX7_isLike_56 : decode cX7_isLike 56 = .ok (.ireturn, 1) := by decide +kernel
theorem dX7_isLike_57 : decode cX7_isLike 57 = .ok (.iinc 2 1, 3) := by decide +kernel
theorem dX7_isLike_60 : decode cX7_isLike 60 = .ok (.goto (-34), 3) := by decide +kernel
theorem dX7_isLike_63 : decode cX7_isLike 63 = .ok (.iconst 1, 1) := by decide +kernel
theorem dX7_isLike_64 : decode cX7_isLike 64 = .ok (.ireturn, 1) := by decide +kernel
theorem dX7_opener_0 : decode cX7_opener 0 = .ok (.aload_n 0, 1) := by decide +kernel
theorem dX7_opener_1 : decode cX7_opener 1 = .ok (.getfield 18, 3) := by decide +kernel
theorem dX7_opener_4 : decode cX7_opener 4 = .ok (.iconst 1, 1) := by decide +kernel
theorem dX7_opener_5 : decode cX7_opener 5 = .ok (.isub, 1) := by decide +kernel
theorem dX7_opener_6 : decode cX7_opener 6 = .ok (.iload_n 1, 1) := by decide +kernel
theorem dX7_opener_7 : decode cX7_opener 7 = .ok (.isub, 1) := by decide +kernel
theorem dX7_opener_8 : decode cX7_opener 8 = .ok (.istore_n 2, 1) := by decide +kernel
theorem dX7_opener_9 : decode cX7_opener 9 = .ok (.iload_n 2, 1) := by decide +kernel
theorem dX7_opener_10 : decode cX7_opener 10 = .ok (.ifCond .lt 18, 3) := by decide +kernel
theorem dX7_opener_13 : decode cX7_opener 13 = .ok (.iload_n 2, 1) := by decide +kernel
theorem dX7_opener_14 : decode cX7_opener 14 = .ok (.bipush 6, 2) := by decide +kernel
theorem dX7_opener_16 : decode cX7_opener 16 = .ok (.if_icmp .ge 12, 3) := by decide +kernel
theorem dX7_opener_19 : decode cX7_opener 19 = .ok (.aload_n 0, 1) := by decide +kernel
theorem dX7_opener_20 : decode cX7_opener 20 = .ok (.getfield 9, 3) := by decide +kernel
theorem dX7_opener_23 : decode cX7_opener 23 = .ok (.iload_n 2, 1) := by decide +kernel
theorem dX7_opener_24 : decode cX7_opener 24 = .ok (.iaload, 1) := by decide +kernel
theorem dX7_opener_25 : decode cX7_opener 25 = .ok (.goto 4, 3) := by decide +kernel
theorem dX7_opener_28 : decode cX7_opener 28 = .ok (.iconst (-1), 1) := by decide +kernel
theorem dX7_opener_29 : decode cX7_opener 29 = .ok (.ireturn, 1) := by decide +kernel
theorem dX7_mode_0 : decode cX7_mode 0 = .ok (.aload_n 0, 1) := by decide +kernel
theorem dX7_mode_1 : decode cX7_mode 1 = .ok (.iconst 0, 1) := by decide +kernel
theorem dX7_mode_2 : decode cX7_mode 2 = .ok (.invokevirtual 31, 3) := by decide +kernel
theorem dX7_mode_5 : decode cX7_mode 5 = .ok (.istore_n 1, 1) := by decide +kernel
theorem dX7_mode_6 : decode cX7_mode 6 = .ok (.iload_n 1, 1) := by decide +kernel
theorem dX7_mode_7 : decode cX7_mode 7 = .ok (.invokestatic 35, 3) := by decide +kernel
theorem dX7_mode_10 : decode cX7_mode 10 = .ok (.ifCond .eq 5, 3) := by decide +kernel
theorem dX7_mode_13 : decode cX7_mode 13 = .ok (.iconst 1, 1) := by decide +kernel
theorem dX7_mode_14 : decode cX7_mode 14 = .ok (.ireturn, 1) := by decide +kernel
theorem dX7_mode_15 : decode cX7_mode 15 = .ok (.iload_n 1, 1) := by decide +kernel
theorem dX7_mode_16 : decode cX7_mode 16 = .ok (.bipush 91, 2) := by decide +kernel
theorem dX7_mode_18 : decode cX7_mode 18 = .ok (.if_icmp .ne 7, 3) := by decide +kernel
theorem dX7_mode_21 : decode cX7_mode 21 = .ok (.iconst 2, 1) := by decide +kernel
theorem dX7_mode_22 : decode cX7_mode 22 = .ok (.goto 4, 3) := by decide +kernel
theorem dX7_mode_25 : decode cX7_mode 25 = .ok (.iconst 0, 1) := by decide +kernel
theorem dX7_mode_26 : decode cX7_mode 26 = .ok (.ireturn, 1) := by decide +kernel
theorem dX7_quote_0 : decode cX7_quote 0 = .ok (.aload_n 0, 1) := by decide +kernel
theorem dX7_quote_1 : decode cX7_quote 1 = .ok (.iconst 0, 1) := by decide +kernel
theorem dX7_quote_2 : decode cX7_quote 2 = .ok (.invokevirtual 31, 3) := by decide +kernel
theorem dX7_quote_5 : decode cX7_quote 5 = .ok (.istore_n 1, 1) := by decide +kernel
theorem dX7_quote_6 : decode cX7_quote 6 = .ok (.iload_n 1, 1) := by decide +kernel
theorem dX7_quote_7 : decode cX7_quote 7 = .ok (.invokestatic 35, 3) := by decide +kernel
theorem dX7_quote_10 : decode cX7_quote 10 = .ok (.ifCond .eq 7, 3) := by decide +kernel
theorem dX7_quote_13 : decode cX7_quote 13 = .ok (.iload_n 1, 1) := by decide +kernel
theorem dX7_quote_14 : decode cX7_quote 14 = .ok (.goto 4, 3) := by decide +kernel
theorem dX7_quote_17 : decode cX7_quote 17 = .ok (.iconst (-1), 1) := by decide +kernel
theorem dX7_quote_18 : decode cX7_quote 18 = .ok (.ireturn, 1) := by decide +kernel
theorem dX7_liesInString_0 : decode cX7_liesInString 0 = .ok (.aload_n 0, 1) := by decide +kernel
theorem dX7_liesInString_1 : decode cX7_liesInString 1 = .ok (.iconst 1, 1) := by decide +kernel
theorem dX7_liesInString_2 : decode cX7_liesInString 2 = .ok (.invokevirtual 31, 3) := by decide +kernel
theorem dX7_liesInString_5 : decode cX7_liesInString 5 = .ok (.invokestatic 35, 3) := by decide +kernel
theorem dX7_liesInString_8 : decode cX7_liesInString 8 = .ok (.ireturn, 1) := by decide +kernel
theorem dX7_open_0 : decode cX7_open 0 = .ok (.aload_n 0, 1) := by decide +kernel
theorem dX7_open_1 : decode cX7_open 1 = .ok (.getfield 18, 3) := by decide +kernel
theorem dX7_open_4 : decode cX7_open 4 = .ok (.iconst 1, 1) := by decide +kernel
theorem dX7_open_5 : decode cX7_open 5 = .ok (.if_icmp .lt 12, 3) := by decide +kernel
theorem dX7_open_8 : decode cX7_open 8 = .ok (.aload_n 0, 1) := by decide +kernel
theorem dX7_open_9 : decode cX7_open 9 = .ok (.getfield 18, 3) := by decide +kernel
theorem dX7_open_12 : decode cX7_open 12 = .ok (.bipush 6, 2) := by decide +kernel
theorem dX7_open_14 : decode cX7_open 14 = .ok (.if_icmp .lt 5, 3) := by decide +kernel
theorem dX7_open_17 : decode cX7_open 17 = .ok (.iconst 0, 1) := by decide +kernel
theorem dX7_open_18 : decode cX7_open 18 = .ok (.ireturn, 1) := by decide +kernel
theorem dX7_open_19 : decode cX7_open 19 = .ok (.aload_n 0, 1) := by decide +kernel
theorem dX7_open_20 : decode cX7_open 20 = .ok (.getfield 9, 3) := by decide +kernel
theorem dX7_open_23 : decode cX7_open 23 = .ok (.aload_n 0, 1) := by decide +kernel
theorem dX7_open_24 : decode cX7_open 24 = .ok (.getfield 18, 3) := by decide +kernel
theorem dX7_open_27 : decode cX7_open 27 = .ok (.iload_n 1, 1) := by decide +kernel
theorem dX7_open_28 : decode cX7_open 28 = .ok (.iastore, 1) := by decide +kernel
theorem dX7_open_29 : decode cX7_open 29 = .ok (.aload_n 0, 1) := by decide +kernel
theorem dX7_open_30 : decode cX7_open 30 = .ok (.dup, 1) := by decide +kernel
theorem dX7_open_31 : decode cX7_open 31 = .ok (.getfield 18, 3) := by decide +kernel
theorem dX7_open_34 : decode cX7_open 34 = .ok (.iconst 1, 1) := by decide +kernel
theorem dX7_open_35 : decode cX7_open 35 = .ok (.iadd, 1) := by decide +kernel
theorem dX7_open_36 : decode cX7_open 36 = .ok (.putfield 18, 3) := by decide +kernel
theorem dX7_open_39 : decode cX7_open 39 = .ok (.iconst 1, 1) := by decide +kernel
theorem dX7_open_40 : decode cX7_open 40 = .ok (.ireturn, 1) := by decide +kernel
theorem dX7_close_0 : decode cX7_close 0 = .ok (.aload_n 0, 1) := by decide +kernel
theorem dX7_close_1 : decode cX7_close 1 = .ok (.getfield 18, 3) := by decide +kernel
theorem dX7_close_4 : decode cX7_close 4 = .ok (.iconst 1, 1) := by decide +kernel
theorem dX7_close_5 : decode cX7_close 5 = .ok (.if_icmp .le 13, 3) := by decide +kernel
theorem dX7_close_8 : decode cX7_close 8 = .ok (.aload_n 0, 1) := by decide +kernel
theorem dX7_close_9 : decode cX7_close 9 = .ok (.dup, 1) := by decide +kernel
theorem dX7_close_10 : decode cX7_close 10 = .ok (.getfield 18, 3) := by decide +kernel
theorem dX7_close_13 : decode cX7_close 13 = .ok (.iconst 1, 1) := by decide +kernel
theorem dX7_close_14 : decode cX7_close 14 = .ok (.isub, 1) := by decide +kernel
theorem dX7_close_15 : decode cX7_close 15 = .ok (.putfield 18, 3) := by decide +kernel
theorem dX7_close_18 : decode cX7_close 18 = .ok (.return_, 1) := by decide +kernel
theorem dX7_closeLineStrings_0 : decode cX7_closeLineStrings 0 = .ok (.iconst 1, 1) := by decide +kernel
theorem dX7_closeLineStrings_1 : decode cX7_closeLineStrings 1 = .ok (.istore_n 1, 1) := by decide +kernel
theorem dX7_closeLineStrings_2 : decode cX7_closeLineStrings 2 = .ok (.iload_n 1, 1) := by decide +kernel
theorem dX7_closeLineStrings_3 : decode cX7_closeLineStrings 3 = .ok (.aload_n 0, 1) := by decide +kernel
theorem dX7_closeLineStrings_4 : decode cX7_closeLineStrings 4 = .ok (.getfield 18, 3) := by decide +kernel
theorem dX7_closeLineStrings_7 : decode cX7_closeLineStrings 7 = .ok (.if_icmp .ge 31, 3) := by decide +kernel
theorem dX7_closeLineStrings_10 : decode cX7_closeLineStrings 10 = .ok (.iload_n 1, 1) := by decide +kernel
theorem dX7_closeLineStrings_11 : decode cX7_closeLineStrings 11 = .ok (.bipush 6, 2) := by decide +kernel
theorem dX7_closeLineStrings_13 : decode cX7_closeLineStrings 13 = .ok (.if_icmp .ge 25, 3) := by decide +kernel
theorem dX7_closeLineStrings_16 : decode cX7_closeLineStrings 16 = .ok (.aload_n 0, 1) := by decide +kernel
theorem dX7_closeLineStrings_17 : decode cX7_closeLineStrings 17 = .ok (.getfield 9, 3) := by decide +kernel
theorem dX7_closeLineStrings_20 : decode cX7_closeLineStrings 20 = .ok (.iload_n 1, 1) := by decide +kernel
theorem dX7_closeLineStrings_21 : decode cX7_closeLineStrings 21 = .ok (.iaload, 1) := by decide +kernel
theorem dX7_closeLineStrings_22 : decode cX7_closeLineStrings 22 = .ok (.bipush 39, 2) := by decide +kernel
theorem dX7_closeLineStrings_24 : decode cX7_closeLineStrings 24 = .ok (.if_icmp .ne 8, 3) := by decide +kernel
theorem dX7_closeLineStrings_27 : decode cX7_closeLineStrings 27 = .ok (.aload_n 0, 1) := by decide +kernel
theorem dX7_closeLineStrings_28 : decode cX7_closeLineStrings 28 = .ok (.iload_n 1, 1) := by decide +kernel
theorem dX7_closeLineStrings_29 : decode cX7_closeLineStrings 29 = .ok (.putfield 18, 3) := by decide +kernel
theorem dX7_closeLineStrings_32 : decode cX7_closeLineStrings 32 = .ok (.iinc 1 1, 3) := by decide +kernel
theorem dX7_closeLineStrings_35 : decode cX7_closeLineStrings 35 = .ok (.goto (-33), 3) := by decide +kernel
theorem dX7_closeLineStrings_38 : decode cX7_closeLineStrings 38 = .ok (.return_, 1) := by decide +kernel
theorem dX8_init_0 : decode cX8_init 0 = .ok (.aload_n 0, 1) := by decide +kernel
theorem dX8_init_1 : decode cX8_init 1 = .ok (.invokespecial 3, 3) := by decide +kernel
theorem dX8_init_4 : decode cX8_init 4 = .ok (.aload_n 0, 1) := by decide +kernel
theorem dX8_init_5 : decode cX8_init 5 = .ok (.iconst 4, 1) := by decide +kernel
theorem dX8_init_6 : decode cX8_init 6 = .ok (.anewarray 9, 3) := by decide +kernel
theorem dX8_init_9 : decode cX8_init 9 = .ok (.putfield 11, 3) := by decide +kernel
theorem dX8_init_12 : decode cX8_init 12 = .ok (.iconst 0, 1) := by decide +kernel
theorem dX8_init_13 : decode cX8_init 13 = .ok (.istore_n 1, 1) := by decide +kernel
theorem dX8_init_14 : decode cX8_init 14 = .ok (.iload_n 1, 1) := by decide +kernel
theorem dX8_init_15 : decode cX8_init 15 = .ok (.iconst 4, 1) := by decide +kernel
theorem dX8_init_16 : decode cX8_init 16 = .ok (.if_icmp .ge 23, 3) := by decide +kernel
theorem dX8_init_19 : decode cX8_init 19 = .ok (.aload_n 0, 1) := by decide +kernel
theorem dX8_init_20 : decode cX8_init 20 = .ok (.getfield 11, 3) := by decide +kernel
theorem dX8_init_23 : decode cX8_init 23 = .ok (.iload_n 1, 1) := by decide +kernel
theorem dX8_init_24 : decode cX8_init 24 = .ok (.new 9, 3) := by decide +kernel
theorem dX8_init_27 : decode cX8_init 27 = .ok (.dup, 1) := by decide +kernel
theorem dX8_init_28 : decode cX8_init 28 = .ok (.iconst 5, 1) := by decide +kernel
theorem dX8_init_29 : decode cX8_init 29 = .ok (.invokespecial 17, 3) := by decide +kernel
theorem dX8_init_32 : decode cX8_init 32 = .ok (.aastore, 1) := by decide +kernel
theorem dX8_init_33 : decode cX8_init 33 = .ok (.iinc 1 1, 3) := by decide +kernel
theorem dX8_init_36 : decode cX8_init 36 = .ok (.goto (-22), 3) := by decide +kernel
theorem dX8_init_39 : decode cX8_init 39 = .ok (.aload_n 0, 1) := by decide +kernel
theorem dX8_init_40 : decode cX8_init 40 = .ok (.iconst 0, 1) := by decide +kernel
theorem dX8_init_41 : decode cX8_init 41 = .ok (.putfield 20, 3) := by decide +kernel
theorem dX8_init_44 : decode cX8_init 44 = .ok (.return_, 1) := by decide +kernel
theorem dX8_copyFrom_0 : decode cX8_copyFrom 0 = .ok (.aload_n 0, 1) := by decide +kernel
theorem dX8_copyFrom_1 : decode cX8_copyFrom 1 = .ok (.aload_n 1, 1) := by decide +kernel
theorem dX8_copyFrom_2 : decode cX8_copyFrom 2 = .ok (.getfield 20, 3) := by decide +kernel
theorem dX8_copyFrom_5 : decode cX8_copyFrom 5 = .ok (.putfield 20, 3) := by decide +kernel
theorem dX8_copyFrom_8 : decode cX8_copyFrom 8 = .ok (.iconst 0, 1) := by decide +kernel
theorem dX8_copyFrom_9 : decode cX8_copyFrom 9 = .ok (.istore_n 2, 1) := by decide +kernel
theorem dX8_copyFrom_10 : decode cX8_copyFrom 10 = .ok (.iload_n 2, 1) := by decide +kernel
theorem dX8_copyFrom_11 : decode cX8_copyFrom 11 = .ok (.aload_n 0, 1) := by decide +kernel
theorem dX8_copyFrom_12 : decode cX8_copyFrom 12 = .ok (.getfield 20, 3) := by decide +kernel
theorem dX8_copyFrom_15 : decode cX8_copyFrom 15 = .ok (.if_icmp .ge 24, 3) := by decide +kernel
theorem dX8_copyFrom_18 : decode cX8_copyFrom 18 = .ok (.aload_n 0, 1) := by decide +kernel
theorem dX8_copyFrom_19 : decode cX8_copyFrom 19 = .ok (.getfield 11, 3) := by decide +kernel
theorem dX8_copyFrom_22 : decode cX8_copyFrom 22 = .ok (.iload_n 2, 1) := by decide +kernel
theorem dX8_copyFrom_23 : decode cX8_copyFrom 23 = .ok (.aaload, 1) := by decide +kernel
theorem dX8_copyFrom_24 : decode cX8_copyFrom 24 = .ok (.aload_n 1, 1) := by decide +kernel
theorem dX8_copyFrom_25 : decode cX8_copyFrom 25 = .ok (.getfield 11, 3) := by decide +kernel
theorem dX8_copyFrom_28 : decode cX8_copyFrom 28 = .ok (.iload_n 2, 1) := by decide +kernel
theorem dX8_copyFrom_29 : decode cX8_copyFrom 29 = .ok (.aaload, 1) := by decide +kernel
theorem dX8_copyFrom_30 : decode cX8_copyFrom 30 = .ok (.invokevirtual 24, 3) := by decide +kernel
theorem dX8_copyFrom_33 : decode cX8_copyFrom 33 = .ok (.iinc 2 1, 3) := by decide +kernel
theorem dX8_copyFrom_36 : decode cX8_copyFrom 36 = .ok (.goto (-26), 3) := by decide +kernel
theorem dX8_copyFrom_39 : decode cX8_copyFrom 39 = .ok (.return_, 1) := by decide +kernel
theorem dX8_has_0 : decode cX8_has 0 = .ok (.iconst 0, 1) := by decide +kernel
theorem dX8_has_1 : decode cX8_has 1 = .ok (.istore 4, 2) := by decide +kernel
theorem dX8_has_3 : decode cX8_has 3 = .ok (.iload 4, 2) := by decide +kernel
theorem dX8_has_5 : decode cX8_has 5 = .ok (.aload_n 0, 1) := by decide +kernel
theorem dX8_has_6 : decode cX8_has 6 = .ok (.getfield 20, 3) := by decide +kernel
theorem dX8_has_9 : decode cX8_has 9 = .ok (.if_icmp .ge 27, 3) := by decide +kernel
theorem dX8_has_12 : decode cX8_has 12 = .ok (.aload_n 1, 1) := by decide +kernel
theorem dX8_has_13 : decode cX8_has 13 = .ok (.aload_n 0, 1) := by decide +kernel
theorem dX8_has_14 : decode cX8_has 14 = .ok (.getfield 11, 3) := by decide +kernel
theorem dX8_has_17 : decode cX8_has 17 = .ok (.iload 4, 2) := by decide +kernel
theorem dX8_has_19 : decode cX8_has 19 = .ok (.aaload, 1) := by decide +kernel
theorem dX8_has_20 : decode cX8_has 20 = .ok (.iload_n 2, 1) := by decide +kernel
theorem dX8_has_21 : decode cX8_has 21 = .ok (.iload_n 3, 1) := by decide +kernel
theorem dX8_has_22 : decode cX8_has 22 = .ok (.invokevirtual 28, 3) := by decide +kernel
theorem dX8_has_25 : decode cX8_has 25 = .ok (.ifCond .eq 5, 3) := by decide +kernel
theorem dX8_has_28 : decode cX8_has 28 = .ok (.iconst 1, 1) := by decide +kernel
theorem dX8_has_29 : decode cX8_has 29 = .ok (.ireturn, 1) := by decide +kernel
theorem dX8_has_30 : decode cX8_has 30 = .ok (.iinc 4 1, 3) := by decide +kernel
theorem dX8_has_33 : decode cX8_has 33 = .ok (.goto (-30), 3) := by decide +kernel
theorem dX8_has_36 : decode cX8_has 36 = .ok (.iconst 0, 1) := by decide +kernel
theorem dX8_has_37 : decode cX8_has 37 = .ok (.ireturn, 1) := by decide +kernel
theorem dX8_add_0 : decode cX8_add 0 = .ok (.aload_n 0, 1) := by decide +kernel
theorem dX8_add_1 : decode cX8_add 1 = .ok (.getfield 20, 3) := by decide +kernel
theorem dX8_add_4 : decode cX8_add 4 = .ok (.iconst 4, 1) := by decide +kernel
theorem dX8_add_5 : decode cX8_add 5 = .ok (.if_icmp .ge 26, 3) := by decide +kernel
theorem dX8_add_8 : decode cX8_add 8 = .ok (.aload_n 0, 1) := by decide +kernel
theorem dX8_add_9 : decode cX8_add 9 = .ok (.getfield 11, 3) := by decide +kernel
theorem dX8_add_12 : decode cX8_add 12 = .ok (.aload_n 0, 1) := by decide +kernel
theorem dX8_add_13 : decode cX8_add 13 = .ok (.getfield 20, 3) := by decide +kernel
theorem dX8_add_16 : decode cX8_add 16 = .ok (.aaload, 1) := by decide +kernel
theorem dX8_add_17 : decode cX8_add 17 = .ok (.aload_n 1, 1) := by decide +kernel
theorem dX8_add_18 : decode cX8_add 18 = .ok (.invokevirtual 24, 3) := by decide +kernel
theorem dX8_add_21 : decode cX8_add 21 = .ok (.aload_n 0, 1) := by decide +kernel
theorem dX8_add_22 : decode cX8_add 22 = .ok (.dup, 1) := by decide +kernel
theorem dX8_add_23 : decode cX8_add 23 = .ok (.getfield 20, 3) := by decide +kernel
theorem dX8_add_26 : decode cX8_add 26 = .ok (.iconst 1, 1) := by decide +kernel
theorem dX8_add_27 : decode cX8_add 27 = .ok (.iadd, 1) := by decide +kernel
theorem dX8_add_28 : decode cX8_add 28 = .ok (.putfield 20, 3) := by decide +kernel
theorem dX8_add_31 : decode cX8_add 31 = .ok (.return_, 1) := by decide +kernel
theorem dX8_removeWith_0 : decode cX8_removeWith 0 = .ok (.iconst 0, 1) := by decide +kernel
theorem dX8_removeWith_1 : decode cX8_removeWith 1 = .ok (.istore_n 2, 1) := by decide +kernel
theorem dX8_removeWith_2 : decode cX8_removeWith 2 = .ok (.iconst 0, 1) := by decide +kernel
theorem dX8_removeWith_3 : decode cX8_removeWith 3 = .ok (.istore_n 3, 1) := by decide +kernel
theorem dX8_removeWith_4 : decode cX8_removeWith 4 = .ok (.iload_n 3, 1) := by decide +kernel
theorem dX8_removeWith_5 : decode cX8_removeWith 5 = .ok (.aload_n 0, 1) := by decide +kernel
theorem dX8_removeWith_6 : decode cX8_removeWith 6 = .ok (.getfield 20, 3) := by decide +kernel
theorem dX8_removeWith_9 : decode cX8_removeWith 9 = .ok (.if_icmp .ge 41, 3) := by decide +kernel
theorem dX8_removeWith_12 : decode cX8_removeWith 12 = .ok (.aload_n 0, 1) := by decide +kernel
theorem dX8_removeWith_13 : decode cX8_removeWith 13 = .ok (.getfield 11, 3) := by decide +kernel
theorem dX8_removeWith_16 : decode cX8_removeWith 16 = .ok (.iload_n 3, 1) := by decide +kernel
theorem dX8_removeWith_17 : decode cX8_removeWith 17 = .ok (.aaload, 1) := by decide +kernel
theorem dX8_removeWith_18 : decode cX8_removeWith 18 = .ok (.iconst 0, 1) := by decide +kernel
theorem dX8_removeWith_19 : decode cX8_removeWith 19 = .ok (.invokevirtual 32, 3) := by decide +kernel
theorem dX8_removeWith_22 : decode cX8_removeWith 22 = .ok (.iload_n 1, 1) := by decide +kernel
theorem dX8_removeWith_23 : decode cX8_removeWith 23 = .ok (.if_icmp .eq 21, 3) := by decide +kernel
theorem dX8_removeWith_26 : decode cX8_removeWith 26 = .ok (.aload_n 0, 1) := by decide +kernel
theorem dX8_removeWith_27 : decode cX8_removeWith 27 = .ok (.getfield 11, 3) := by decide +kernel
theorem dX8_removeWith_30 : decode cX8_removeWith 30 = .ok (.iload_n 2, 1) := by decide +kernel
theorem dX8_removeWith_31 : decode cX8_removeWith 31 = .ok (.aaload, 1) := by decide +kernel
theorem dX8_removeWith_32 : decode cX8_removeWith 32 = .ok (.aload_n 0, 1) := by decide +kernel
theorem dX8_removeWith_33 : decode cX8_removeWith 33 = .ok (.getfield 11, 3) := by decide +kernel
theorem dX8_removeWith_36 : decode cX8_removeWith 36 = .ok (.iload_n 3, 1) := by decide +kernel
theorem dX8_removeWith_37 : decode cX8_removeWith 37 = .ok (.aaload, 1) := by decide +kernel
theorem dX8_removeWith_38 : decode cX8_removeWith 38 = .ok (.invokevirtual 24, 3) := by decide +kernel
theorem dX8_removeWith_41 : decode cX8_removeWith 41 = .ok (.iinc 2 1, 3) := by decide +kernel
theorem dX8_removeWith_44 : decode cX8_removeWith 44 = .ok (.iinc 3 1, 3) := by decide +kernel
theorem dX8_removeWith_47 : decode cX8_removeWith 47 = .ok (.goto (-43), 3) := by decide +kernel
theorem dX8_removeWith_50 : decode cX8_removeWith 50 = .ok (.aload_n 0, 1) := by decide +kernel
theorem dX8_removeWith_51 : decode cX8_removeWith 51 = .ok (.getfield 20, 3) := by decide +kernel
theorem dX8_removeWith_54 : decode cX8_removeWith 54 = .ok (.iload_n 2, 1) := by decide +kernel
theorem dX8_removeWith_55 : decode cX8_removeWith 55 = .ok (.isub, 1) := by decide +kernel
theorem dX8_removeWith_56 : decode cX8_removeWith 56 = .ok (.istore_n 3, 1) := by decide +kernel
theorem dX8_removeWith_57 : decode cX8_removeWith 57 = .ok (.aload_n 0, 1) := by decide +kernel
theorem dX8_removeWith_58 : decode cX8_removeWith 58 = .ok (.iload_n 2, 1) := by decide +kernel
theorem dX8_removeWith_59 : decode cX8_removeWith 59 = .ok (.putfield 20, 3) := by decide +kernel
theorem dX8_removeWith_62 : decode cX8_removeWith 62 = .ok (.iload_n 3, 1) := by decide +kernel
theorem dX8_removeWith_63 : decode cX8_removeWith 63 = .ok (.ireturn, 1) := by decide +kernel
theorem dX9_init_0 : decode cX9_init 0 = .ok (.aload_n 0, 1) := by decide +kernel
theorem dX9_init_1 : decode cX9_init 1 = .ok (.invokespecial 1, 3) := by decide +kernel
theorem dX9_init_4 : decode cX9_init 4 = .ok (.aload_n 0, 1) := by decide +kernel
theorem dX9_init_5 : decode cX9_init 5 = .ok (.new 7, 3) := by decide +kernel
theorem dX9_init_8 : decode cX9_init 8 = .ok (.dup, 1) := by decide +kernel
theorem dX9_init_9 : decode cX9_init 9 = .ok (.bipush 30, 2) := by decide +kernel
theorem dX9_init_11 : decode cX9_init 11 = .ok (.invokespecial 11, 3) := by decide +kernel
theorem dX9_init_14 : decode cX9_init 14 = .ok (.putfield 14, 3) := by decide +kernel
theorem dX9_init_17 : decode cX9_init 17 = .ok (.aload_n 0, 1) := by decide +kernel
theorem dX9_init_18 : decode cX9_init 18 = .ok (.new 18, 3) := by decide +kernel
theorem dX9_init_21 : decode cX9_init 21 = .ok (.dup, 1) := by decide +kernel
theorem dX9_init_22 : decode cX9_init 22 = .ok (.invokespecial 20, 3) := by decide +kernel
theorem dX9_init_25 : decode cX9_init 25 = .ok (.putfield 21, 3) := by decide +kernel
theorem dX9_init_28 : decode cX9_init 28 = .ok (.aload_n 0, 1) := by decide +kernel
theorem dX9_init_29 : decode cX9_init 29 = .ok (.new 25, 3) := by decide +kernel
theorem dX9_init_32 : decode cX9_init 32 = .ok (.dup, 1) := by decide +kernel
theorem dX9_init_33 : decode cX9_init 33 = .ok (.invokespecial 27, 3) := by decide +kernel
theorem dX9_init_36 : decode cX9_init 36 = .ok (.putfield 28, 3) := by decide +kernel
theorem dX9_init_39 : decode cX9_init 39 = .ok (.aload_n 0, 1) := by decide +kernel
theorem dX9_init_40 : decode cX9_init 40 = .ok (.iconst 3, 1) := by decide +kernel
theorem dX9_init_41 : decode cX9_init 41 = .ok (.newarray .int, 2) := by decide +kernel
theorem dX9_init_43 : decode cX9_init 43 = .ok (.putfield 32, 3) := by decide +kernel
theorem dX9_init_46 : decode cX9_init 46 = .ok (.aload_n 0, 1) := by decide +kernel
theorem dX9_init_47 : decode cX9_init 47 = .ok (.iconst 0, 1) := by decide +kernel
theorem dX9_init_48 : decode cX9_init 48 = .ok (.putfield 36, 3) := by decide +kernel
theorem dX9_init_51 : decode cX9_init 51 = .ok (.return_, 1) := by decide +kernel
theorem dX9_type_0 : decode cX9_type 0 = .ok (.iload_n 1, 1) := by decide +kernel
theorem dX9_type_1 : decode cX9_type 1 = .ok (.invokestatic 40, 3) := by decide +kernel
theorem dX9_type_4 : decode cX9_type 4 = .ok (.ifCond .ne 10, 3) := by decide +kernel
theorem dX9_type_7 : decode cX9_type 7 = .ok (.aload_n 0, 1) := by decide +kernel
theorem dX9_type_8 : decode cX9_type 8 = .ok (.bipush (-2), 2) := by decide +kernel
theorem dX9_type_10 : decode cX9_type 10 = .ok (.invokevirtual 44, 3) := by decide +kernel
theorem dX9_type_13 : decode cX9_type 13 = .ok (.ireturn, 1) := by decide +kernel
theorem dX9_type_14 : decode cX9_type 14 = .ok (.aload_n 0, 1) := by decide +kernel
theorem dX9_type_15 : decode cX9_type 15 = .ok (.getfield 14, 3) := by decide +kernel
theorem dX9_type_18 : decode cX9_type 18 = .ok (.getfield 48, 3) := by decide +kernel
theorem dX9_type_21 : decode cX9_type 21 = .ok (.bipush 30, 2) := by decide +kernel
theorem dX9_type_23 : decode cX9_type 23 = .ok (.if_icmp .lt 10, 3) := by decide +kernel
theorem dX9_type_26 : decode cX9_type 26 = .ok (.aload_n 0, 1) := by decide +kernel
theorem dX9_type_27 : decode cX9_type 27 = .ok (.bipush (-4), 2) := by decide +kernel
theorem dX9_type_29 : decode cX9_type 29 = .ok (.invokevirtual 44, 3) := by decide +kernel
theorem dX9_type_32 : decode cX9_type 32 = .ok (.ireturn, 1) := by decide +kernel
theorem dX9_type_33 : decode cX9_type 33 = .ok (.aload_n 0, 1) := by decide +kernel
theorem dX9_type_34 : decode cX9_type 34 = .ok (.getfield 14, 3) := by decide +kernel
theorem dX9_type_37 : decode cX9_type 37 = .ok (.aload_n 0, 1) := by decide +kernel
theorem dX9_type_38 : decode cX9_type 38 = .ok (.getfield 14, 3) := by decide +kernel
theorem dX9_type_41 : decode cX9_type 41 = .ok (.getfield 48, 3) := by decide +kernel
theorem dX9_type_44 : decode cX9_type 44 = .ok (.iload_n 1, 1) := by decide +kernel
theorem dX9_type_45 : decode cX9_type 45 = .ok (.invokevirtual 51, 3) := by decide +kernel
theorem dX9_type_48 : decode cX9_type 48 = .ok (.aload_n 0, 1) := by decide +kernel
theorem dX9_type_49 : decode cX9_type 49 = .ok (.getfield 14, 3) := by decide +kernel
theorem dX9_type_52 : decode cX9_type 52 = .ok (.getfield 48, 3) := by decide +kernel
theorem dX9_type_55 : decode cX9_type 55 = .ok (.ireturn, 1) := by decide +kernel
theorem dX9_clear_0 : decode cX9_clear 0 = .ok (.aload_n 0, 1) := by decide +kernel
theorem dX9_clear_1 : decode cX9_clear 1 = .ok (.getfield 14, 3) := by decide +kernel
theorem dX9_clear_4 : decode cX9_clear 4 = .ok (.getfield 48, 3) := by decide +kernel
theorem dX9_clear_7 : decode cX9_clear 7 = .ok (.istore_n 1, 1) := by decide +kernel
theorem dX9_clear_8 : decode cX9_clear 8 = .ok (.aload_n 0, 1) := by decide +kernel
theorem dX9_clear_9 : decode cX9_clear 9 = .ok (.getfield 14, 3) := by decide +kernel
theorem dX9_clear_12 : decode cX9_clear 12 = .ok (.iconst 0, 1) := by decide +kernel
theorem dX9_clear_13 : decode cX9_clear 13 = .ok (.putfield 48, 3) := by decide +kernel
theorem dX9_clear_16 : decode cX9_clear 16 = .ok (.iload_n 1, 1) := by decide +kernel
theorem dX9_clear_17 : decode cX9_clear 17 = .ok (.ireturn, 1) := by decide +kernel
theorem dX9_inserts_0 : decode cX9_inserts 0 = .ok (.iload_n 1, 1) := by decide +kernel
theorem dX9_inserts_1 : decode cX9_inserts 1 = .ok (.ifCond .lt 14, 3) := by decide +kernel
theorem dX9_inserts_4 : decode cX9_inserts 4 = .ok (.iload_n 1, 1) := by decide +kernel
theorem dX9_inserts_5 : decode cX9_inserts 5 = .ok (.aload_n 0, 1) := by decide +kernel
theorem dX9_inserts_6 : decode cX9_inserts 6 = .ok (.getfield 21, 3) := by decide +kernel
theorem dX9_inserts_9 : decode cX9_inserts 9 = .ok (.getfield 55, 3) := by decide +kernel
theorem dX9_inserts_12 : decode cX9_inserts 12 = .ok (.if_icmp .le 10, 3) := by decide +kernel
theorem dX9_inserts_15 : decode cX9_inserts 15 = .ok (.aload_n 0, 1) := by decide +kernel
theorem dX9_inserts_16 : decode cX9_inserts 16 = .ok (.bipush (-2), 2) := by decide +kernel
theorem dX9_inserts_18 : decode cX9_inserts 18 = .ok (.invokevirtual 44, 3) := by decide +kernel
theorem dX9_inserts_21 : decode cX9_inserts 21 = .ok (.ireturn, 1) := by decide +kernel
theorem dX9_inserts_22 : decode cX9_inserts 22 = .ok (.aload_n 0, 1) := by decide +kernel
theorem dX9_inserts_23 : decode cX9_inserts 23 = .ok (.getfield 21, 3) := by decide +kernel
theorem dX9_inserts_26 : decode cX9_inserts 26 = .ok (.getfield 55, 3) := by decide +kernel
theorem dX9_inserts_29 : decode cX9_inserts 29 = .ok (.bipush 10, 2) := by decide +kernel
theorem dX9_inserts_31 : decode cX9_inserts 31 = .ok (.if_icmp .lt 10, 3) := by decide +kernel
theorem dX9_inserts_34 : decode cX9_inserts 34 = .ok (.aload_n 0, 1) := by decide +kernel
theorem dX9_inserts_35 : decode cX9_inserts 35 = .ok (.bipush (-4), 2) := by decide +kernel
theorem dX9_inserts_37 : decode cX9_inserts 37 = .ok (.invokevirtual 44, 3) := by decide +kernel
theorem dX9_inserts_40 : decode cX9_inserts 40 = .ok (.ireturn, 1) := by decide +kernel
theorem dX9_inserts_41 : decode cX9_inserts 41 = .ok (.aload_n 0, 1) := by decide +kernel
theorem dX9_inserts_42 : decode cX9_inserts 42 = .ok (.getfield 28, 3) := by decide +kernel
theorem dX9_inserts_45 : decode cX9_inserts 45 = .ok (.aload_n 0, 1) := by decide +kernel
theorem dX9_inserts_46 : decode cX9_inserts 46 = .ok (.getfield 21, 3) := by decide +kernel
theorem dX9_inserts_49 : decode cX9_inserts 49 = .ok (.invokevirtual 58, 3) := by decide +kernel
theorem dX9_inserts_52 : decode cX9_inserts 52 = .ok (.aload_n 0, 1) := by decide +kernel
theorem dX9_inserts_53 : decode cX9_inserts 53 = .ok (.getfield 21, 3) := by decide +kernel
theorem dX9_inserts_56 : decode cX9_inserts 56 = .ok (.iload_n 1, 1) := by decide +kernel
theorem dX9_inserts_57 : decode cX9_inserts 57 = .ok (.invokevirtual 62, 3) := by decide +kernel
theorem dX9_inserts_60 : decode cX9_inserts 60 = .ok (.aload_n 0, 1) := by decide +kernel
theorem dX9_inserts_61 : decode cX9_inserts 61 = .ok (.getfield 21, 3) := by decide +kernel
theorem dX9_inserts_64 : decode cX9_inserts 64 = .ok (.getfield 65, 3) := by decide +kernel
theorem dX9_inserts_67 : decode cX9_inserts 67 = .ok (.iload_n 1, 1) := by decide +kernel
theorem dX9_inserts_68 : decode cX9_inserts 68 = .ok (.aaload, 1) := by decide +kernel
theorem dX9_inserts_69 : decode cX9_inserts 69 = .ok (.getfield 69, 3) := by decide +kernel
theorem dX9_inserts_72 : decode cX9_inserts 72 = .ok (.aload_n 0, 1) := by decide +kernel
theorem dX9_inserts_73 : decode cX9_inserts 73 = .ok (.getfield 14, 3) := by decide +kernel
theorem dX9_inserts_76 : decode cX9_inserts 76 = .ok (.invokevirtual 74, 3) := by decide +kernel
theorem dX9_inserts_79 : decode cX9_inserts 79 = .ok (.aload_n 0, 1) := by decide +kernel
theorem dX9_inserts_80 : decode cX9_inserts 80 = .ok (.aload_n 0, 1) := by decide +kernel
theorem dX9_inserts_81 : decode cX9_inserts 81 = .ok (.getfield 21, 3) := by decide +kernel
theorem dX9_inserts_84 : decode cX9_inserts 84 = .ok (.iload_n 1, 1) := by decide +kernel
theorem dX9_inserts_85 : decode cX9_inserts 85 = .ok (.iload_n 1, 1) := by decide +kernel
theorem dX9_inserts_86 : decode cX9_inserts 86 = .ok (.invokevirtual 78, 3) := by decide +kernel
theorem dX9_inserts_89 : decode cX9_inserts 89 = .ok (.putfield 36, 3) := by decide +kernel
theorem dX9_inserts_92 : decode cX9_inserts 92 = .ok (.aload_n 0, 1) := by decide +kernel
theorem dX9_inserts_93 : decode cX9_inserts 93 = .ok (.getfield 21, 3) := by decide +kernel
theorem dX9_inserts_96 : decode cX9_inserts 96 = .ok (.getfield 55, 3) := by decide +kernel
theorem dX9_inserts_99 : decode cX9_inserts 99 = .ok (.ireturn, 1) := by decide +kernel
theorem dX9_sets_0 : decode cX9_sets 0 = .ok (.aload_n 0, 1) := by decide +kernel
theorem dX9_sets_1 : decode cX9_sets 1 = .ok (.getfield 21, 3) := by decide +kernel
theorem dX9_sets_4 : decode cX9_sets 4 = .ok (.iload_n 1, 1) := by decide +kernel
theorem dX9_sets_5 : decode cX9_sets 5 = .ok (.invokevirtual 82, 3) := by decide +kernel
theorem dX9_sets_8 : decode cX9_sets 8 = .ok (.ifCond .ne 10, 3) := by decide +kernel
theorem dX9_sets_11 : decode cX9_sets 11 = .ok (.aload_n 0, 1) := by decide +kernel
theorem dX9_sets_12 : decode cX9_sets 12 = .ok (.bipush (-2), 2) := by decide +kernel
theorem dX9_sets_14 : decode cX9_sets 14 = .ok (.invokevirtual 44, 3) := by decide +kernel
theorem dX9_sets_17 : decode cX9_sets 17 = .ok (.ireturn, 1) := by decide +kernel
theorem dX9_sets_18 : decode cX9_sets 18 = .ok (.aload_n 0, 1) := by decide +kernel
theorem dX9_sets_19 : decode cX9_sets 19 = .ok (.getfield 28, 3) := by decide +kernel
theorem dX9_sets_22 : decode cX9_sets 22 = .ok (.aload_n 0, 1) := by decide +kernel
theorem dX9_sets_23 : decode cX9_sets 23 = .ok (.getfield 21, 3) := by decide +kernel
theorem dX9_sets_26 : decode cX9_sets 26 = .ok (.invokevirtual 58, 3) := by decide +kernel
theorem dX9_sets_29 : decode cX9_sets 29 = .ok (.aload_n 0, 1) := by decide +kernel
theorem dX9_sets_30 : decode cX9_sets 30 = .ok (.getfield 21, 3) := by decide +kernel
theorem dX9_sets_33 : decode cX9_sets 33 = .ok (.getfield 65, 3) := by decide +kernel
theorem dX9_sets_36 : decode cX9_sets 36 = .ok (.iload_n 1, 1) := by decide +kernel
theorem dX9_sets_37 : decode cX9_sets 37 = .ok (.aaload, 1) := by decide +kernel
theorem dX9_sets_38 : decode cX9_sets 38 = .ok (.getfield 69, 3) := by decide +kernel
theorem dX9_sets_41 : decode cX9_sets 41 = .ok (.astore_n 2, 1) := by decide +kernel
theorem dX9_sets_42 : decode cX9_sets 42 = .ok (.aload_n 2, 1) := by decide +kernel
theorem dX9_sets_43 : decode cX9_sets 43 = .ok (.getfield 48, 3) := by decide +kernel
theorem dX9_sets_46 : decode cX9_sets 46 = .ok (.istore_n 3, 1) := by decide +kernel
theorem dX9_sets_47 : decode cX9_sets 47 = .ok (.aload_n 2, 1) := by decide +kernel
theorem dX9_sets_48 : decode cX9_sets 48 = .ok (.aload_n 0, 1) := by decide +kernel
theorem dX9_sets_49 : decode cX9_sets 49 = .ok (.getfield 14, 3) := by decide +kernel
theorem dX9_sets_52 : decode cX9_sets 52 = .ok (.invokevirtual 85, 3) := by decide +kernel
theorem dX9_sets_55 : decode cX9_sets 55 = .ok (.ifCond .eq 11, 3) := by decide +kernel
theorem dX9_sets_58 : decode cX9_sets 58 = .ok (.aload_n 0, 1) := by decide +kernel
theorem dX9_sets_59 : decode cX9_sets 59 = .ok (.iconst 0, 1) := by decide +kernel
theorem dX9_sets_60 : decode cX9_sets 60 = .ok (.putfield 36, 3) := by decide +kernel
theorem dX9_sets_63 : decode cX9_sets 63 = .ok (.goto 24, 3) := by decide +kernel
theorem dX9_sets_66 : decode cX9_sets 66 = .ok (.aload_n 2, 1) := by decide +kernel
theorem dX9_sets_67 : decode cX9_sets 67 = .ok (.aload_n 0, 1) := by decide +kernel
theorem dX9_sets_68 : decode cX9_sets 68 = .ok (.getfield 14, 3) := by decide +kernel
theorem dX9_sets_71 : decode cX9_sets 71 = .ok (.invokevirtual 74, 3) := by decide +kernel
theorem dX9_sets_74 : decode cX9_sets 74 = .ok (.aload_n 0, 1) := by decide +kernel
theorem dX9_sets_75 : decode cX9_sets 75 = .ok (.aload_n 0, 1) := by decide +kernel
theorem dX9_sets_76 : decode cX9_sets 76 = .ok (.getfield 21, 3) := by decide +kernel
theorem dX9_sets_79 : decode cX9_sets 79 = .ok (.iload_n 1, 1) := by decide +kernel
theorem dX9_sets_80 : decode cX9_sets 80 = .ok (.iload_n 1, 1) := by decide +kernel
theorem dX9_sets_81 : decode cX9_sets 81 = .ok (.invokevirtual 78, 3) := by decide +kernel
theorem dX9_sets_84 : decode cX9_sets 84 = .ok (.putfield 36, 3) := by decide +kernel
theorem dX9_sets_87 : decode cX9_sets 87 = .ok (.iload_n 3, 1) := by decide +kernel
theorem dX9_sets_88 : decode cX9_sets 88 = .ok (.ireturn, 1) := by decide +kernel
theorem dX9_drops_0 : decode cX9_drops 0 = .ok (.aload_n 0, 1) := by decide +kernel
theorem dX9_drops_1 : decode cX9_drops 1 = .ok (.getfield 21, 3) := by decide +kernel
theorem dX9_drops_4 : decode cX9_drops 4 = .ok (.iload_n 1, 1) := by decide +kernel
theorem dX9_drops_5 : decode cX9_drops 5 = .ok (.invokevirtual 82, 3) := by decide +kernel
theorem dX9_drops_8 : decode cX9_drops 8 = .ok (.ifCond .ne 10, 3) := by decide +kernel
theorem dX9_drops_11 : decode cX9_drops 11 = .ok (.aload_n 0, 1) := by decide +kernel
theorem dX9_drops_12 : decode cX9_drops 12 = .ok (.bipush (-2), 2) := by decide +kernel
theorem dX9_drops_14 : decode cX9_drops 14 = .ok (.invokevirtual 44, 3) := by decide +kernel
theorem dX9_drops_17 : decode cX9_drops 17 = .ok (.ireturn, 1) := by decide +kernel
theorem dX9_drops_18 : decode cX9_drops 18 = .ok (.aload_n 0, 1) := by decide +kernel
theorem dX9_drops_19 : decode cX9_drops 19 = .ok (.getfield 28, 3) := by decide +kernel
theorem dX9_drops_22 : decode cX9_drops 22 = .ok (.aload_n 0, 1) := by decide +kernel
theorem dX9_drops_23 : decode cX9_drops 23 = .ok (.getfield 21, 3) := by decide +kernel
theorem dX9_drops_26 : decode cX9_drops 26 = .ok (.invokevirtual 58, 3) := by decide +kernel
theorem dX9_drops_29 : decode cX9_drops 29 = .ok (.aload_n 0, 1) := by decide +kernel
theorem dX9_drops_30 : decode cX9_drops 30 = .ok (.getfield 21, 3) := by decide +kernel
theorem dX9_drops_33 : decode cX9_drops 33 = .ok (.iload_n 1, 1) := by decide +kernel
theorem dX9_drops_34 : decode cX9_drops 34 = .ok (.invokevirtual 89, 3) := by decide +kernel
theorem dX9_drops_37 : decode cX9_drops 37 = .ok (.aload_n 0, 1) := by decide +kernel
theorem dX9_drops_38 : decode cX9_drops 38 = .ok (.aload_n 0, 1) := by decide +kernel
theorem dX9_drops_39 : decode cX9_drops 39 = .ok (.getfield 21, 3) := by decide +kernel
theorem dX9_drops_42 : decode cX9_drops 42 = .ok (.iload_n 1, 1) := by decide +kernel
theorem dX9_drops_43 : decode cX9_drops 43 = .ok (.iload_n 1, 1) := by decide +kernel
theorem dX9_drops_44 : decode cX9_drops 44 = .ok (.invokevirtual 78, 3) := by decide +kernel
theorem dX9_drops_47 : decode cX9_drops 47 = .ok (.putfield 36, 3) := by decide +kernel
theorem dX9_drops_50 : decode cX9_drops 50 = .ok (.aload_n 0, 1) := by decide +kernel
theorem dX9_drops_51 : decode cX9_drops 51 = .ok (.getfield 21, 3) := by decide +kernel
theorem dX9_drops_54 : decode cX9_drops 54 = .ok (.getfield 55, 3) := by decide +kernel
theorem dX9_drops_57 : decode cX9_drops 57 = .ok (.ireturn, 1) := by decide +kernel
theorem dX9_puts_0 : decode cX9_puts 0 = .ok (.aload_n 0, 1) := by decide +kernel
theorem dX9_puts_1 : decode cX9_puts 1 = .ok (.getfield 21, 3) := by decide +kernel
theorem dX9_puts_4 : decode cX9_puts 4 = .ok (.iload_n 1, 1) := by decide +kernel
theorem dX9_puts_5 : decode cX9_puts 5 = .ok (.invokevirtual 82, 3) := by decide +kernel
theorem dX9_puts_8 : decode cX9_puts 8 = .ok (.ifCond .eq 33, 3) := by decide +kernel
theorem dX9_puts_11 : decode cX9_puts 11 = .ok (.iload_n 2, 1) := by decide +kernel
theorem dX9_puts_12 : decode cX9_puts 12 = .ok (.ifCond .lt 29, 3) := by decide +kernel
theorem dX9_puts_15 : decode cX9_puts 15 = .ok (.iload_n 2, 1) := by decide +kernel
theorem dX9_puts_16 : decode cX9_puts 16 = .ok (.aload_n 0, 1) := by decide +kernel
theorem dX9_puts_17 : decode cX9_puts 17 = .ok (.getfield 21, 3) := by decide +kernel
theorem dX9_puts_20 : decode cX9_puts 20 = .ok (.getfield 65, 3) := by decide +kernel
theorem dX9_puts_23 : decode cX9_puts 23 = .ok (.iload_n 1, 1) := by decide +kernel
theorem dX9_puts_24 : decode cX9_puts 24 = .ok (.aaload, 1) := by decide +kernel
theorem dX9_puts_25 : decode cX9_puts 25 = .ok (.getfield 69, 3) := by decide +kernel
theorem dX9_puts_28 : decode cX9_puts 28 = .ok (.getfield 48, 3) := by decide +kernel
theorem dX9_puts_31 : decode cX9_puts 31 = .ok (.if_icmp .gt 10, 3) := by decide +kernel
theorem dX9_puts_34 : decode cX9_puts 34 = .ok (.iload_n 3, 1) := by decide +kernel
theorem dX9_puts_35 : decode cX9_puts 35 = .ok (.invokestatic 40, 3) := by decide +kernel
theorem dX9_puts_38 : decode cX9_puts 38 = .ok (.ifCond .ne 10, 3) := by decide +kernel
theorem dX9_puts_41 : decode cX9_puts 41 = .ok (.aload_n 0, 1) := by decide +kernel
theorem dX9_puts_42 : decode cX9_puts 42 = .ok (.bipush (-2), 2) := by decide +kernel
theorem dX9_puts_44 : decode cX9_puts 44 = .ok (.invokevirtual 44, 3) := by decide +kernel
theorem dX9_puts_47 : decode cX9_puts 47 = .ok (.ireturn, 1) := by decide +kernel
theorem dX9_puts_48 : decode cX9_puts 48 = .ok (.aload_n 0, 1) := by decide +kernel
theorem dX9_puts_49 : decode cX9_puts 49 = .ok (.getfield 21, 3) := by decide +kernel
theorem dX9_puts_52 : decode cX9_puts 52 = .ok (.getfield 65, 3) := by decide +kernel
theorem dX9_puts_55 : decode cX9_puts 55 = .ok (.iload_n 1, 1) := by decide +kernel
theorem dX9_puts_56 : decode cX9_puts 56 = .ok (.aaload, 1) := by decide +kernel
theorem dX9_puts_57 : decode cX9_puts 57 = .ok (.getfield 69, 3) := by decide +kernel
theorem dX9_puts_60 : decode cX9_puts 60 = .ok (.astore 4, 2) := by decide +kernel
theorem dX9_puts_62 : decode cX9_puts 62 = .ok (.aload 4, 2) := by decide +kernel
theorem dX9_puts_64 : decode cX9_puts 64 = .ok (.getfield 48, 3) := by decide +kernel
theorem dX9_puts_67 : decode cX9_puts 67 = .ok (.bipush 30, 2) := by decide +kernel
theorem dX9_puts_69 : decode cX9_puts 69 = .ok (.if_icmp .lt 10, 3) := by decide +kernel
theorem dX9_puts_72 : decode cX9_puts 72 = .ok (.aload_n 0, 1) := by decide +kernel
theorem dX9_puts_73 : decode cX9_puts 73 = .ok (.bipush (-4), 2) := by decide +kernel
theorem dX9_puts_75 : decode cX9_puts 75 = .ok (.invokevirtual 44, 3) := by decide +kernel
theorem dX9_puts_78 : decode cX9_puts 78 = .ok (.ireturn, 1) := by decide +kernel
theorem dX9_puts_79 : decode cX9_puts 79 = .ok (.aload_n 0, 1) := by decide +kernel
theorem dX9_puts_80 : decode cX9_puts 80 = .ok (.getfield 28, 3) := by decide +kernel
theorem dX9_puts_83 : decode cX9_puts 83 = .ok (.aload_n 0, 1) := by decide +kernel
theorem dX9_puts_84 : decode cX9_puts 84 = .ok (.getfield 21, 3) := by decide +kernel
theorem dX9_puts_87 : decode cX9_puts 87 = .ok (.invokevirtual 58, 3) := by decide +kernel
theorem dX9_puts_90 : decode cX9_puts 90 = .ok (.aload 4, 2) := by decide +kernel
theorem dX9_puts_92 : decode cX9_puts 92 = .ok (.iload_n 2, 1) := by decide +kernel
theorem dX9_puts_93 : decode cX9_puts 93 = .ok (.iload_n 3, 1) := by decide +kernel
theorem dX9_puts_94 : decode cX9_puts 94 = .ok (.invokevirtual 51, 3) := by decide +kernel
theorem dX9_puts_97 : decode cX9_puts 97 = .ok (.aload_n 0, 1) := by decide +kernel
theorem dX9_puts_98 : decode cX9_puts 98 = .ok (.aload_n 0, 1) := by decide +kernel
theorem dX9_puts_99 : decode cX9_puts 99 = .ok (.getfield 21, 3) := by decide +kernel
theorem dX9_puts_102 : decode cX9_puts 102 = .ok (.iload_n 1, 1) := by decide +kernel
theorem dX9_puts_103 : decode cX9_puts 103 = .ok (.iload_n 1, 1) := by decide +kernel
theorem dX9_puts_104 : decode cX9_puts 104 = .ok (.invokevirtual 78, 3) := by decide +kernel
theorem dX9_puts_107 : decode cX9_puts 107 = .ok (.putfield 36, 3) := by decide +kernel
theorem dX9_puts_110 : decode cX9_puts 110 = .ok (.aload 4, 2) := by decide +kernel
theorem dX9_puts_112 : decode cX9_puts 112 = .ok (.getfield 48, 3) := by decide +kernel
theorem dX9_puts_115 : decode cX9_puts 115 = .ok (.ireturn, 1) := by decide +kernel
theorem dX9_erases_0 : decode cX9_erases 0 = .ok (.aload_n 0, 1) := by decide +kernel
theorem dX9_erases_1 : decode cX9_erases 1 = .ok (.getfield 21, 3) := by decide +kernel
theorem dX9_erases_4 : decode cX9_erases 4 = .ok (.iload_n 1, 1) := by decide +kernel
theorem dX9_erases_5 : decode cX9_erases 5 = .ok (.iload_n 2, 1) := by decide +kernel
theorem dX9_erases_6 : decode cX9_erases 6 = .ok (.invokevirtual 92, 3) := by decide +kernel
theorem dX9_erases_9 : decode cX9_erases 9 = .ok (.ifCond .ne 10, 3) := by decide +kernel
theorem dX9_erases_12 : decode cX9_erases 12 = .ok (.aload_n 0, 1) := by decide +kernel
theorem dX9_erases_13 : decode cX9_erases 13 = .ok (.bipush (-2), 2) := by decide +kernel
theorem dX9_erases_15 : decode cX9_erases 15 = .ok (.invokevirtual 44, 3) := by decide +kernel
theorem dX9_erases_18 : decode cX9_erases 18 = .ok (.ireturn, 1) := by decide +kernel
theorem dX9_erases_19 : decode cX9_erases 19 = .ok (.aload_n 0, 1) := by decide +kernel
theorem dX9_erases_20 : decode cX9_erases 20 = .ok (.getfield 28, 3) := by decide +kernel
theorem dX9_erases_23 : decode cX9_erases 23 = .ok (.aload_n 0, 1) := by decide +kernel
theorem dX9_erases_24 : decode cX9_erases 24 = .ok (.getfield 21, 3) := by decide +kernel
theorem dX9_erases_27 : decode cX9_erases 27 = .ok (.invokevirtual 58, 3) := by decide +kernel
theorem dX9_erases_30 : decode cX9_erases 30 = .ok (.aload_n 0, 1) := by decide +kernel
theorem dX9_erases_31 : decode cX9_erases 31 = .ok (.getfield 21, 3) := by decide +kernel
theorem dX9_erases_34 : decode cX9_erases 34 = .ok (.getfield 65, 3) := by decide +kernel
theorem dX9_erases_37 : decode cX9_erases 37 = .ok (.iload_n 1, 1) := by decide +kernel
theorem dX9_erases_38 : decode cX9_erases 38 = .ok (.aaload, 1) := by decide +kernel
theorem dX9_erases_39 : decode cX9_erases 39 = .ok (.getfield 69, 3) := by decide +kernel
theorem dX9_erases_42 : decode cX9_erases 42 = .ok (.astore_n 3, 1) := by decide +kernel
theorem dX9_erases_43 : decode cX9_erases 43 = .ok (.aload_n 3, 1) := by decide +kernel
theorem dX9_erases_44 : decode cX9_erases 44 = .ok (.iload_n 2, 1) := by decide +kernel
theorem dX9_erases_45 : decode cX9_erases 45 = .ok (.invokevirtual 96, 3) := by decide +kernel
theorem dX9_erases_48 : decode cX9_erases 48 = .ok (.istore 4, 2) := by decide +kernel
theorem dX9_erases_50 : decode cX9_erases 50 = .ok (.aload_n 3, 1) := by decide +kernel
theorem dX9_erases_51 : decode cX9_erases 51 = .ok (.iload_n 2, 1) := by decide +kernel
theorem dX9_erases_52 : decode cX9_erases 52 = .ok (.invokevirtual 99, 3) := by decide +kernel
theorem dX9_erases_55 : decode cX9_erases 55 = .ok (.aload_n 0, 1) := by decide +kernel
theorem dX9_erases_56 : decode cX9_erases 56 = .ok (.aload_n 0, 1) := by decide +kernel
theorem dX9_erases_57 : decode cX9_erases 57 = .ok (.getfield 21, 3) := by decide +kernel
theorem dX9_erases_60 : decode cX9_erases 60 = .ok (.iload_n 1, 1) := by decide +kernel
theorem dX9_erases_61 : decode cX9_erases 61 = .ok (.iload_n 1, 1) := by decide +kernel
theorem dX9_erases_62 : decode cX9_erases 62 = .ok (.invokevirtual 78, 3) := by decide +kernel
theorem dX9_erases_65 : decode cX9_erases 65 = .ok (.putfield 36, 3) := by decide +kernel
theorem dX9_erases_68 : decode cX9_erases 68 = .ok (.iload 4, 2) := by decide +kernel
theorem dX9_erases_70 : decode cX9_erases 70 = .ok (.ireturn, 1) := by decide +kernel
theorem dX9_splits_0 : decode cX9_splits 0 = .ok (.aload_n 0, 1) := by decide +kernel
theorem dX9_splits_1 : decode cX9_splits 1 = .ok (.getfield 21, 3) := by decide +kernel
theorem dX9_splits_4 : decode cX9_splits 4 = .ok (.iload_n 1, 1) := by decide +kernel
theorem dX9_splits_5 : decode cX9_splits 5 = .ok (.invokevirtual 82, 3) := by decide +kernel
theorem dX9_splits_8 : decode cX9_splits 8 = .ok (.ifCond .eq 26, 3) := by decide +kernel
theorem dX9_splits_11 : decode cX9_splits 11 = .ok (.iload_n 2, 1) := by decide +kernel
theorem dX9_splits_12 : decode cX9_splits 12 = .ok (.ifCond .lt 22, 3) := by decide +kernel
theorem dX9_splits_15 : decode cX9_splits 15 = .ok (.iload_n 2, 1) := by decide +kernel
theorem dX9_splits_16 : decode cX9_splits 16 = .ok (.aload_n 0, 1) := by decide +kernel
theorem dX9_splits_17 : decode cX9_splits 17 = .ok (.getfield 21, 3) := by decide +kernel
theorem dX9_splits_20 : decode cX9_splits 20 = .ok (.getfield 65, 3) := by decide +kernel
theorem dX9_splits_23 : decode cX9_splits 23 = .ok (.iload_n 1, 1) := by decide +kernel
theorem dX9_splits_24 : decode cX9_splits 24 = .ok (.aaload, 1) := by decide +kernel
theorem dX9_splits_25 : decode cX9_splits 25 = .ok (.getfield 69, 3) := by decide +kernel
theorem dX9_splits_28 : decode cX9_splits 28 = .ok (.getfield 48, 3) := by decide +kernel
theorem dX9_splits_31 : decode cX9_splits 31 = .ok (.if_icmp .le 10, 3) := by decide +kernel
theorem dX9_splits_34 : decode cX9_splits 34 = .ok (.aload_n 0, 1) := by decide +kernel
theorem dX9_splits_35 : decode cX9_splits 35 = .ok (.bipush (-2), 2) := by decide +kernel
theorem dX9_splits_37 : decode cX9_splits 37 = .ok (.invokevirtual 44, 3) := by decide +kernel
theorem dX9_splits_40 : decode cX9_splits 40 = .ok (.ireturn, 1) := by decide +kernel
theorem dX9_splits_41 : decode cX9_splits 41 = .ok (.aload_n 0, 1) := by decide +kernel
theorem dX9_splits_42 : decode cX9_splits 42 = .ok (.getfield 21, 3) := by decide +kernel
theorem dX9_splits_45 : decode cX9_splits 45 = .ok (.getfield 55, 3) := by decide +kernel
theorem dX9_splits_48 : decode cX9_splits 48 = .ok (.bipush 10, 2) := by decide +kernel
theorem dX9_splits_50 : decode cX9_splits 50 = .ok (.if_icmp .lt 10, 3) := by decide +kernel
theorem dX9_splits_53 : decode cX9_splits 53 = .ok (.aload_n 0, 1) := by decide +kernel
theorem dX9_splits_54 : decode cX9_splits 54 = .ok (.bipush (-4), 2) := by decide +kernel
theorem dX9_splits_56 : decode cX9_splits 56 = .ok (.invokevirtual 44, 3) := by decide +kernel
theorem dX9_splits_59 : decode cX9_splits 59 = .ok (.ireturn, 1) := by decide +kernel
theorem dX9_splits_60 : decode cX9_splits 60 = .ok (.aload_n 0, 1) := by decide +kernel
theorem dX9_splits_61 : decode cX9_splits 61 = .ok (.getfield 28, 3) := by decide +kernel
theorem dX9_splits_64 : decode cX9_splits 64 = .ok (.aload_n 0, 1) := by decide +kernel
theorem dX9_splits_65 : decode cX9_splits 65 = .ok (.getfield 21, 3) := by decide +kernel
theorem dX9_splits_68 : decode cX9_splits 68 = .ok (.invokevirtual 58, 3) := by decide +kernel
theorem dX9_splits_71 : decode cX9_splits 71 = .ok (.aload_n 0, 1) := by decide +kernel
theorem dX9_splits_72 : decode cX9_splits 72 = .ok (.getfield 21, 3) := by decide +kernel
theorem dX9_splits_75 : decode cX9_splits 75 = .ok (.iload_n 1, 1) := by decide +kernel
theorem dX9_splits_76 : decode cX9_splits 76 = .ok (.iconst 1, 1) := by decide +kernel
theorem dX9_splits_77 : decode cX9_splits 77 = .ok (.iadd, 1) := by decide +kernel
theorem dX9_splits_78 : decode cX9_splits 78 = .ok (.invokevirtual 62, 3) := by decide +kernel
theorem dX9_splits_81 : decode cX9_splits 81 = .ok (.aload_n 0, 1) := by decide +kernel
theorem dX9_splits_82 : decode cX9_splits 82 = .ok (.getfield 21, 3) := by decide +kernel
theorem dX9_splits_85 : decode cX9_splits 85 = .ok (.getfield 65, 3) := by decide +kernel
theorem dX9_splits_88 : decode cX9_splits 88 = .ok (.iload_n 1, 1) := by decide +kernel
theorem dX9_splits_89 : decode cX9_splits 89 = .ok (.aaload, 1) := by decide +kernel
theorem dX9_splits_90 : decode cX9_splits 90 = .ok (.getfield 69, 3) := by decide +kernel
theorem dX9_splits_93 : decode cX9_splits 93 = .ok (.iload_n 2, 1) := by decide +kernel
theorem dX9_splits_94 : decode cX9_splits 94 = .ok (.aload_n 0, 1) := by decide +kernel
theorem dX9_splits_95 : decode cX9_splits 95 = .ok (.getfield 21, 3) := by decide +kernel
theorem dX9_splits_98 : decode cX9_splits 98 = .ok (.getfield 65, 3) := by decide +kernel
theorem dX9_splits_101 : decode cX9_splits 101 = .ok (.iload_n 1, 1) := by decide +kernel
theorem dX9_splits_102 : decode cX9_splits 102 = .ok (.iconst 1, 1) := by decide +kernel
theorem dX9_splits_103 : decode cX9_splits 103 = .ok (.iadd, 1) := by decide +kernel
theorem dX9_splits_104 : decode cX9_splits 104 = .ok (.aaload, 1) := by decide +kernel
theorem dX9_splits_105 : decode cX9_splits 105 = .ok (.getfield 69, 3) := by decide +kernel
theorem dX9_splits_108 : decode cX9_splits 108 = .ok (.invokevirtual 102, 3) := by decide +kernel
theorem dX9_splits_111 : decode cX9_splits 111 = .ok (.aload_n 0, 1) := by decide +kernel
theorem dX9_splits_112 : decode cX9_splits 112 = .ok (.aload_n 0, 1) := by decide +kernel
theorem dX9_splits_113 : decode cX9_splits 113 = .ok (.getfield 21, 3) := by decide +kernel
theorem dX9_splits_116 : decode cX9_splits 116 = .ok (.iload_n 1, 1) := by decide +kernel
theorem dX9_splits_117 : decode cX9_splits 117 = .ok (.iload_n 1, 1) := by decide +kernel
theorem dX9_splits_118 : decode cX9_splits 118 = .ok (.iconst 1, 1) := by decide +kernel
theorem dX9_splits_119 : decode cX9_splits 119 = .ok (.iadd, 1) := by decide +kernel
theorem dX9_splits_120 : decode cX9_splits 120 = .ok (.invokevirtual 78, 3) := by decide +kernel
theorem dX9_splits_123 : decode cX9_splits 123 = .ok (.putfield 36, 3) := by decide +kernel
theorem dX9_splits_126 : decode cX9_splits 126 = .ok (.aload_n 0, 1) := by decide +kernel
theorem dX9_splits_127 : decode cX9_splits 127 = .ok (.getfield 21, 3) := by decide +kernel
theorem dX9_splits_130 : decode cX9_splits 130 = .ok (.getfield 55, 3) := by decide +kernel
theorem dX9_splits_133 : decode cX9_splits 133 = .ok (.ireturn, 1) := by decide +kernel
theorem dX9_word_0 : decode cX9_word 0 = .ok (.aload_n 0, 1) := by decide +kernel
theorem dX9_word_1 : decode cX9_word 1 = .ok (.getfield 14, 3) := by decide +kernel
theorem dX9_word_4 : decode cX9_word 4 = .ok (.invokestatic 106, 3) := by decide +kernel
theorem dX9_word_7 : decode cX9_word 7 = .ok (.ifCond .eq 28, 3) := by decide +kernel
theorem dX9_word_10 : decode cX9_word 10 = .ok (.aload_n 0, 1) := by decide +kernel
theorem dX9_word_11 : decode cX9_word 11 = .ok (.getfield 21, 3) := by decide +kernel
theorem dX9_word_14 : decode cX9_word 14 = .ok (.getfield 109, 3) := by decide +kernel
theorem dX9_word_17 : decode cX9_word 17 = .ok (.aload_n 0, 1) := by decide +kernel
theorem dX9_word_18 : decode cX9_word 18 = .ok (.getfield 14, 3) := by decide +kernel
theorem dX9_word_21 : decode cX9_word 21 = .ok (.iconst 0, 1) := by decide +kernel
theorem dX9_word_22 : decode cX9_word 22 = .ok (.aload_n 0, 1) := by decide +kernel
theorem dX9_word_23 : decode cX9_word 23 = .ok (.getfield 14, 3) := by decide +kernel
theorem dX9_word_26 : decode cX9_word 26 = .ok (.getfield 48, 3) := by decide +kernel
theorem dX9_word_29 : decode cX9_word 29 = .ok (.invokevirtual 113, 3) := by decide +kernel
theorem dX9_word_32 : decode cX9_word 32 = .ok (.ifCond .eq 10, 3) := by decide +kernel
theorem dX9_word_35 : decode cX9_word 35 = .ok (.aload_n 0, 1) := by decide +kernel
theorem dX9_word_36 : decode cX9_word 36 = .ok (.bipush (-3), 2) := by decide +kernel
theorem dX9_word_38 : decode cX9_word 38 = .ok (.invokevirtual 44, 3) := by decide +kernel
theorem dX9_word_41 : decode cX9_word 41 = .ok (.ireturn, 1) := by decide +kernel
theorem dX9_word_42 : decode cX9_word 42 = .ok (.aload_n 0, 1) := by decide +kernel
theorem dX9_word_43 : decode cX9_word 43 = .ok (.getfield 21, 3) := by decide +kernel
theorem dX9_word_46 : decode cX9_word 46 = .ok (.getfield 109, 3) := by decide +kernel
theorem dX9_word_49 : decode cX9_word 49 = .ok (.getfield 119, 3) := by decide +kernel
theorem dX9_word_52 : decode cX9_word 52 = .ok (.iconst 4, 1) := by decide +kernel
theorem dX9_word_53 : decode cX9_word 53 = .ok (.if_icmp .lt 10, 3) := by decide +kernel
theorem dX9_word_56 : decode cX9_word 56 = .ok (.aload_n 0, 1) := by decide +kernel
theorem dX9_word_57 : decode cX9_word 57 = .ok (.bipush (-4), 2) := by decide +kernel
theorem dX9_word_59 : decode cX9_word 59 = .ok (.invokevirtual 44, 3) := by decide +kernel
theorem dX9_word_62 : decode cX9_word 62 = .ok (.ireturn, 1) := by decide +kernel
theorem dX9_word_63 : decode cX9_word 63 = .ok (.aload_n 0, 1) := by decide +kernel
theorem dX9_word_64 : decode cX9_word 64 = .ok (.getfield 28, 3) := by decide +kernel
theorem dX9_word_67 : decode cX9_word 67 = .ok (.aload_n 0, 1) := by decide +kernel
theorem dX9_word_68 : decode cX9_word 68 = .ok (.getfield 21, 3) := by decide +kernel
theorem dX9_word_71 : decode cX9_word 71 = .ok (.invokevirtual 58, 3) := by decide +kernel
theorem dX9_word_74 : decode cX9_word 74 = .ok (.aload_n 0, 1) := by decide +kernel
theorem dX9_word_75 : decode cX9_word 75 = .ok (.getfield 21, 3) := by decide +kernel
theorem dX9_word_78 : decode cX9_word 78 = .ok (.getfield 109, 3) := by decide +kernel
theorem dX9_word_81 : decode cX9_word 81 = .ok (.getfield 119, 3) := by decide +kernel
theorem dX9_word_84 : decode cX9_word 84 = .ok (.istore_n 1, 1) := by decide +kernel
theorem dX9_word_85 : decode cX9_word 85 = .ok (.aload_n 0, 1) := by decide +kernel
theorem dX9_word_86 : decode cX9_word 86 = .ok (.getfield 21, 3) := by decide +kernel
theorem dX9_word_89 : decode cX9_word 89 = .ok (.getfield 109, 3) := by decide +kernel
theorem dX9_word_92 : decode cX9_word 92 = .ok (.aload_n 0, 1) := by decide +kernel
theorem dX9_word_93 : decode cX9_word 93 = .ok (.getfield 14, 3) := by decide +kernel
theorem dX9_word_96 : decode cX9_word 96 = .ok (.invokevirtual 120, 3) := by decide +kernel
theorem dX9_word_99 : decode cX9_word 99 = .ok (.aload_n 0, 1) := by decide +kernel
theorem dX9_word_100 : decode cX9_word 100 = .ok (.aload_n 0, 1) := by decide +kernel
theorem dX9_word_101 : decode cX9_word 101 = .ok (.getfield 21, 3) := by decide +kernel
theorem dX9_word_104 : decode cX9_word 104 = .ok (.iconst 0, 1) := by decide +kernel
theorem dX9_word_105 : decode cX9_word 105 = .ok (.aload_n 0, 1) := by decide +kernel
theorem dX9_word_106 : decode cX9_word 106 = .ok (.getfield 21, 3) := by decide +kernel
theorem dX9_word_109 : decode cX9_word 109 = .ok (.getfield 55, 3) := by decide +kernel
theorem dX9_word_112 : decode cX9_word 112 = .ok (.invokevirtual 78, 3) := by decide +kernel
theorem dX9_word_115 : decode cX9_word 115 = .ok (.putfield 36, 3) := by decide +kernel
theorem dX9_word_118 : decode cX9_word 118 = .ok (.iload_n 1, 1) := by decide +kernel
theorem dX9_word_119 : decode cX9_word 119 = .ok (.ireturn, 1) := by decide +kernel
theorem dX9_unword_0 : decode cX9_unword 0 = .ok (.iload_n 1, 1) := by decide +kernel
theorem dX9_unword_1 : decode cX9_unword 1 = .ok (.ifCond .lt 9, 3) := by decide +kernel
theorem dX9_unword_4 : decode cX9_unword 4 = .ok (.iload_n 1, 1) := by decide +kernel
theorem dX9_unword_5 : decode cX9_unword 5 = .ok (.bipush 25, 2) := by decide +kernel
theorem dX9_unword_7 : decode cX9_unword 7 = .ok (.if_icmp .le 10, 3) := by decide +kernel
theorem dX9_unword_10 : decode cX9_unword 10 = .ok (.aload_n 0, 1) := by decide +kernel
theorem dX9_unword_11 : decode cX9_unword 11 = .ok (.bipush (-2), 2) := by decide +kernel
theorem dX9_unword_13 : decode cX9_unword 13 = .ok (.invokevirtual 44, 3) := by decide +kernel
theorem dX9_unword_16 : decode cX9_unword 16 = .ok (.ireturn, 1) := by decide +kernel
theorem dX9_unword_17 : decode cX9_unword 17 = .ok (.aload_n 0, 1) := by decide +kernel
theorem dX9_unword_18 : decode cX9_unword 18 = .ok (.getfield 28, 3) := by decide +kernel
theorem dX9_unword_21 : decode cX9_unword 21 = .ok (.aload_n 0, 1) := by decide +kernel
theorem dX9_unword_22 : decode cX9_unword 22 = .ok (.getfield 21, 3) := by decide +kernel
theorem dX9_unword_25 : decode cX9_unword 25 = .ok (.invokevirtual 58, 3) := by decide +kernel
theorem dX9_unword_28 : decode cX9_unword 28 = .ok (.aload_n 0, 1) := by decide +kernel
theorem dX9_unword_29 : decode cX9_unword 29 = .ok (.getfield 21, 3) := by decide +kernel
theorem dX9_unword_32 : decode cX9_unword 32 = .ok (.getfield 109, 3) := by decide +kernel
theorem dX9_unword_35 : decode cX9_unword 35 = .ok (.bipush 97, 2) := by decide +kernel
theorem dX9_unword_37 : decode cX9_unword 37 = .ok (.iload_n 1, 1) := by decide +kernel
theorem dX9_unword_38 : decode cX9_unword 38 = .ok (.iadd, 1) := by decide +kernel
theorem dX9_unword_39 : decode cX9_unword 39 = .ok (.invokevirtual 123, 3) := by decide +kernel
theorem dX9_unword_42 : decode cX9_unword 42 = .ok (.istore_n 2, 1) := by decide +kernel
theorem dX9_unword_43 : decode cX9_unword 43 = .ok (.aload_n 0, 1) := by decide +kernel
theorem dX9_unword_44 : decode cX9_unword 44 = .ok (.aload_n 0, 1) := by decide +kernel
theorem dX9_unword_45 : decode cX9_unword 45 = .ok (.getfield 21, 3) := by decide +kernel
theorem dX9_unword_48 : decode cX9_unword 48 = .ok (.iconst 0, 1) := by decide +kernel
theorem dX9_unword_49 : decode cX9_unword 49 = .ok (.aload_n 0, 1) := by decide +kernel
theorem dX9_unword_50 : decode cX9_unword 50 = .ok (.getfield 21, 3) := by decide +kernel
theorem dX9_unword_53 : decode cX9_unword 53 = .ok (.getfield 55, 3) := by decide +kernel
theorem dX9_unword_56 : decode cX9_unword 56 = .ok (.invokevirtual 78, 3) := by decide +kernel
theorem dX9_unword_59 : decode cX9_unword 59 = .ok (.putfield 36, 3) := by decide +kernel
theorem dX9_unword_62 : decode cX9_unword 62 = .ok (.iload_n 2, 1) := by decide +kernel
theorem dX9_unword_63 : decode cX9_unword 63 = .ok (.ireturn, 1) := by decide +kernel
theorem dX9_rule_0 : decode cX9_rule 0 = .ok (.iload_n 1, 1) := by decide +kernel
theorem dX9_rule_1 : decode cX9_rule 1 = .ok (.iconst (-1), 1) := by decide +kernel
theorem dX9_rule_2 : decode cX9_rule 2 = .ok (.if_icmp .lt 23, 3) := by decide +kernel
theorem dX9_rule_5 : decode cX9_rule 5 = .ok (.iload_n 1, 1) := by decide +kernel
theorem dX9_rule_6 : decode cX9_rule 6 = .ok (.bipush 8, 2) := by decide +kernel
theorem dX9_rule_8 : decode cX9_rule 8 = .ok (.if_icmp .ge 17, 3) := by decide +kernel
theorem dX9_rule_11 : decode cX9_rule 11 = .ok (.iload_n 2, 1) := by decide +kernel
theorem dX9_rule_12 : decode cX9_rule 12 = .ok (.iconst (-1), 1) := by decide +kernel
theorem dX9_rule_13 : decode cX9_rule 13 = .ok (.if_icmp .lt 12, 3) := by decide +kernel
theorem dX9_rule_16 : decode cX9_rule 16 = .ok (.iload_n 2, 1) := by decide +kernel
theorem dX9_rule_17 : decode cX9_rule 17 = .ok (.iconst 3, 1) := by decide +kernel
theorem dX9_rule_18 : decode cX9_rule 18 = .ok (.if_icmp .ge 7, 3) := by decide +kernel
theorem dX9_rule_21 : decode cX9_rule 21 = .ok (.iconst 1, 1) := by decide +kernel
theorem dX9_rule_22 : decode cX9_rule 22 = .ok (.goto 4, 3) := by decide +kernel
theorem dX9_rule_25 : decode cX9_rule 25 = .ok (.iconst 0, 1) := by decide +kernel
theorem dX9_rule_26 : decode cX9_rule 26 = .ok (.istore 4, 2) := by decide +kernel
theorem dX9_rule_28 : decode cX9_rule 28 = .ok (.iload 4, 2) := by decide +kernel
theorem dX9_rule_30 : decode cX9_rule 30 = .ok (.ifCond .eq 13, 3) := by decide +kernel
theorem dX9_rule_33 : decode cX9_rule 33 = .ok (.iload_n 3, 1) := by decide +kernel
theorem dX9_rule_34 : decode cX9_rule 34 = .ok (.ifCond .lt 9, 3) := by decide +kernel
theorem dX9_rule_37 : decode cX9_rule 37 = .ok (.iload_n 3, 1) := by decide +kernel
theorem dX9_rule_38 : decode cX9_rule 38 = .ok (.bipush 99, 2) := by decide +kernel
theorem dX9_rule_40 : decode cX9_rule 40 = .ok (.if_icmp .le 10, 3) := by decide +kernel
theorem dX9_rule_43 : decode cX9_rule 43 = .ok (.aload_n 0, 1) := by decide +kernel
theorem dX9_rule_44 : decode cX9_rule 44 = .ok (.bipush (-2), 2) := by decide +kernel
theorem dX9_rule_46 : decode cX9_rule 46 = .ok (.invokevirtual 44, 3) := by decide +kernel
theorem dX9_rule_49 : decode cX9_rule 49 = .ok (.ireturn, 1) := by decide +kernel
theorem dX9_rule_50 : decode cX9_rule 50 = .ok (.aload_n 0, 1) := by decide +kernel
theorem dX9_rule_51 : decode cX9_rule 51 = .ok (.getfield 21, 3) := by decide +kernel
theorem dX9_rule_54 : decode cX9_rule 54 = .ok (.getfield 126, 3) := by decide +kernel
theorem dX9_rule_57 : decode cX9_rule 57 = .ok (.getfield 130, 3) := by decide +kernel
theorem dX9_rule_60 : decode cX9_rule 60 = .ok (.bipush 12, 2) := by decide +kernel
theorem dX9_rule_62 : decode cX9_rule 62 = .ok (.if_icmp .lt 10, 3) := by decide +kernel
theorem dX9_rule_65 : decode cX9_rule 65 = .ok (.aload_n 0, 1) := by decide +kernel
theorem dX9_rule_66 : decode cX9_rule 66 = .ok (.bipush (-4), 2) := by decide +kernel
theorem dX9_rule_68 : decode cX9_rule 68 = .ok (.invokevirtual 44, 3) := by decide +kernel
theorem dX9_rule_71 : decode cX9_rule 71 = .ok (.ireturn, 1) := by decide +kernel
theorem dX9_rule_72 : decode cX9_rule 72 = .ok (.aload_n 0, 1) := by decide +kernel
theorem dX9_rule_73 : decode cX9_rule 73 = .ok (.getfield 28, 3) := by decide +kernel
theorem dX9_rule_76 : decode cX9_rule 76 = .ok (.aload_n 0, 1) := by decide +kernel
theorem dX9_rule_77 : decode cX9_rule 77 = .ok (.getfield 21, 3) := by decide +kernel
theorem dX9_rule_80 : decode cX9_rule 80 = .ok (.invokevirtual 58, 3) := by decide +kernel
theorem dX9_rule_83 : decode cX9_rule 83 = .ok (.aload_n 0, 1) := by decide +kernel
theorem dX9_rule_84 : decode cX9_rule 84 = .ok (.getfield 21, 3) := by decide +kernel
theorem dX9_rule_87 : decode cX9_rule 87 = .ok (.getfield 126, 3) := by decide +kernel
theorem dX9_rule_90 : decode cX9_rule 90 = .ok (.getfield 130, 3) := by decide +kernel
theorem dX9_rule_93 : decode cX9_rule 93 = .ok (.istore 5, 2) := by decide +kernel
theorem dX9_rule_95 : decode cX9_rule 95 = .ok (.aload_n 0, 1) := by decide +kernel
theorem dX9_rule_96 : decode cX9_rule 96 = .ok (.getfield 21, 3) := by decide +kernel
theorem dX9_rule_99 : decode cX9_rule 99 = .ok (.getfield 126, 3) := by decide +kernel
theorem dX9_rule_102 : decode cX9_rule 102 = .ok (.iload_n 1, 1) := by decide +kernel
theorem dX9_rule_103 : decode cX9_rule 103 = .ok (.iload_n 2, 1) := by decide +kernel
theorem dX9_rule_104 : decode cX9_rule 104 = .ok (.iload_n 3, 1) := by decide +kernel
theorem dX9_rule_105 : decode cX9_rule 105 = .ok (.invokevirtual 133, 3) := by decide +kernel
theorem dX9_rule_108 : decode cX9_rule 108 = .ok (.iload 5, 2) := by decide +kernel
theorem dX9_rule_110 : decode cX9_rule 110 = .ok (.ireturn, 1) := by decide +kernel
theorem dX9_at_0 : decode cX9_at 0 = .ok (.aload_n 0, 1) := by decide +kernel
theorem dX9_at_1 : decode cX9_at 1 = .ok (.getfield 21, 3) := by decide +kernel
theorem dX9_at_4 : decode cX9_at 4 = .ok (.iload_n 1, 1) := by decide +kernel
theorem dX9_at_5 : decode cX9_at 5 = .ok (.iload_n 2, 1) := by decide +kernel
theorem dX9_at_6 : decode cX9_at 6 = .ok (.invokevirtual 92, 3) := by decide +kernel
theorem dX9_at_9 : decode cX9_at 9 = .ok (.ifCond .ne 10, 3) := by decide +kernel
theorem dX9_at_12 : decode cX9_at 12 = .ok (.aload_n 0, 1) := by decide +kernel
theorem dX9_at_13 : decode cX9_at 13 = .ok (.bipush (-2), 2) := by decide +kernel
theorem dX9_at_15 : decode cX9_at 15 = .ok (.invokevirtual 44, 3) := by decide +kernel
theorem dX9_at_18 : decode cX9_at 18 = .ok (.ireturn, 1) := by decide +kernel
theorem dX9_at_19 : decode cX9_at 19 = .ok (.aload_n 0, 1) := by decide +kernel
theorem dX9_at_20 : decode cX9_at 20 = .ok (.getfield 21, 3) := by decide +kernel
theorem dX9_at_23 : decode cX9_at 23 = .ok (.getfield 65, 3) := by decide +kernel
theorem dX9_at_26 : decode cX9_at 26 = .ok (.iload_n 1, 1) := by decide +kernel
theorem dX9_at_27 : decode cX9_at 27 = .ok (.aaload, 1) := by decide +kernel
theorem dX9_at_28 : decode cX9_at 28 = .ok (.astore 4, 2) := by decide +kernel
theorem dX9_at_30 : decode cX9_at 30 = .ok (.iload_n 3, 1) := by decide +kernel
theorem dX9_at_31 : decode cX9_at 31 = .ok (.tableswitch 68 0 2 #[25, 35, 43], 25) := by decide +kernel
theorem dX9_at_56 : decode cX9_at 56 = .ok (.aload 4, 2) := by decide +kernel
theorem dX9_at_58 : decode cX9_at 58 = .ok (.getfield 69, 3) := by decide +kernel
theorem dX9_at_61 : decode cX9_at 61 = .ok (.iload_n 2, 1) := by decide +kernel
theorem dX9_at_62 : decode cX9_at 62 = .ok (.invokevirtual 96, 3) := by decide +kernel
theorem dX9_at_65 : decode cX9_at 65 = .ok (.ireturn, 1) := by decide +kernel
theorem dX9_at_66 : decode cX9_at 66 = .ok (.aload 4, 2) := by decide +kernel
theorem dX9_at_68 : decode cX9_at 68 = .ok (.getfield 136, 3) := by decide +kernel
theorem dX9_at_71 : decode cX9_at 71 = .ok (.iload_n 2, 1) := by decide +kernel
theorem dX9_at_72 : decode cX9_at 72 = .ok (.iaload, 1) := by decide +kernel
theorem dX9_at_73 : decode cX9_at 73 = .ok (.ireturn, 1) := by decide +kernel
theorem dX9_at_74 : decode cX9_at 74 = .ok (.aload_n 0, 1) := by decide +kernel
theorem dX9_at_75 : decode cX9_at 75 = .ok (.getfield 21, 3) := by decide +kernel
theorem dX9_at_78 : decode cX9_at 78 = .ok (.getfield 126, 3) := by decide +kernel
theorem dX9_at_81 : decode cX9_at 81 = .ok (.aload 4, 2) := by decide +kernel
theorem dX9_at_83 : decode cX9_at 83 = .ok (.getfield 136, 3) := by decide +kernel
theorem dX9_at_86 : decode cX9_at 86 = .ok (.iload_n 2, 1) := by decide +kernel
theorem dX9_at_87 : decode cX9_at 87 = .ok (.iaload, 1) := by decide +kernel
theorem dX9_at_88 : decode cX9_at 88 = .ok (.aload 4, 2) := by decide +kernel
theorem dX9_at_90 : decode cX9_at 90 = .ok (.getfield 139, 3) := by decide +kernel
theorem dX9_at_93 : decode cX9_at 93 = .ok (.iload_n 2, 1) := by decide +kernel
theorem dX9_at_94 : decode cX9_at 94 = .ok (.iaload, 1) := by decide +kernel
theorem dX9_at_95 : decode cX9_at 95 = .ok (.invokevirtual 142, 3) := by decide +kernel
theorem dX9_at_98 : decode cX9_at 98 = .ok (.ireturn, 1) := by decide +kernel
theorem dX9_at_99 : decode cX9_at 99 = .ok (.aload_n 0, 1) := by decide +kernel
theorem dX9_at_100 : decode cX9_at 100 = .ok (.bipush (-2), 2) := by decide +kernel
theorem dX9_at_102 : decode cX9_at 102 = .ok (.invokevirtual 44, 3) := by decide +kernel
theorem dX9_at_105 : decode cX9_at 105 = .ok (.ireturn, 1) := by decide +kernel
theorem dX9_of_0 : decode cX9_of 0 = .ok (.aload_n 0, 1) := by decide +kernel
theorem dX9_of_1 : decode cX9_of 1 = .ok (.getfield 21, 3) := by decide +kernel
theorem dX9_of_4 : decode cX9_of 4 = .ok (.iload_n 1, 1) := by decide +kernel
theorem dX9_of_5 : decode cX9_of 5 = .ok (.invokevirtual 82, 3) := by decide +kernel
theorem dX9_of_8 : decode cX9_of 8 = .ok (.ifCond .ne 10, 3) := by decide +kernel
theorem dX9_of_11 : decode cX9_of 11 = .ok (.aload_n 0, 1) := by decide +kernel
theorem dX9_of_12 : decode cX9_of 12 = .ok (.bipush (-2), 2) := by decide +kernel
theorem dX9_of_14 : decode cX9_of 14 = .ok (.invokevirtual 44, 3) := by decide +kernel
theorem dX9_of_17 : decode cX9_of 17 = .ok (.ireturn, 1) := by decide +kernel
theorem dX9_of_18 : decode cX9_of 18 = .ok (.aload_n 0, 1) := by decide +kernel
theorem dX9_of_19 : decode cX9_of 19 = .ok (.getfield 21, 3) := by decide +kernel
theorem dX9_of_22 : decode cX9_of 22 = .ok (.getfield 65, 3) := by decide +kernel
theorem dX9_of_25 : decode cX9_of 25 = .ok (.iload_n 1, 1) := by decide +kernel
theorem dX9_of_26 : decode cX9_of 26 = .ok (.aaload, 1) := by decide +kernel
theorem dX9_of_27 : decode cX9_of 27 = .ok (.astore_n 3, 1) := by decide +kernel
theorem dX9_of_28 : decode cX9_of 28 = .ok (.iload_n 2, 1) := by decide +kernel
theorem dX9_of_29 : decode cX9_of 29 = .ok (.tableswitch 84 0 5 #[39, 47, 52, 60, 68, 76], 39) := by decide +kernel
theorem dX9_of_68 : decode cX9_of 68 = .ok (.aload_n 3, 1) := by decide +kernel
theorem dX9_of_69 : decode cX9_of 69 = .ok (.getfield 69, 3) := by decide +kernel
end
section
theorem dX9_of_72 : decode cX9_of 72 = .ok (.getfield 48, 3) := by decide +kernel
theorem dX9_of_75 : decode cX9_of 75 = .ok (.ireturn, 1) := by decide +kernel
theorem dX9_of_76 : decode cX9_of 76 = .ok (.aload_n 3, 1) := by decide +kernel
theorem dX9_of_77 : decode cX9_of 77 = .ok (.invokevirtual 145, 3) := by decide +kernel
theorem dX9_of_80 : decode cX9_of 80 = .ok (.ireturn, 1) := by decide +kernel
theorem dX9_of_81 : decode cX9_of 81 = .ok (.aload_n 3, 1) := by decide +kernel
theorem dX9_of_82 : decode cX9_of 82 = .ok (.getfield 149, 3) := by decide +kernel
theorem dX9_of_85 : decode cX9_of 85 = .ok (.getfield 153, 3) := by decide +kernel
theorem dX9_of_88 : decode cX9_of 88 = .ok (.ireturn, 1) := by decide +kernel
theorem dX9_of_89 : decode cX9_of 89 = .ok (.aload_n 3, 1) := by decide +kernel
theorem dX9_of_90 : decode cX9_of 90 = .ok (.getfield 149, 3) := by decide +kernel
theorem dX9_of_93 : decode cX9_of 93 = .ok (.invokevirtual 158, 3) := by decide +kernel
theorem dX9_of_96 : decode cX9_of 96 = .ok (.ireturn, 1) := by decide +kernel
theorem dX9_of_97 : decode cX9_of 97 = .ok (.aload_n 3, 1) := by decide +kernel
theorem dX9_of_98 : decode cX9_of 98 = .ok (.getfield 149, 3) := by decide +kernel
theorem dX9_of_101 : decode cX9_of 101 = .ok (.invokevirtual 161, 3) := by decide +kernel
theorem dX9_of_104 : decode cX9_of 104 = .ok (.ireturn, 1) := by decide +kernel
theorem dX9_of_105 : decode cX9_of 105 = .ok (.aload_n 3, 1) := by decide +kernel
theorem dX9_of_106 : decode cX9_of 106 = .ok (.getfield 149, 3) := by decide +kernel
theorem dX9_of_109 : decode cX9_of 109 = .ok (.getfield 164, 3) := by decide +kernel
theorem dX9_of_112 : decode cX9_of 112 = .ok (.ireturn, 1) := by decide +kernel
theorem dX9_of_113 : decode cX9_of 113 = .ok (.aload_n 0, 1) := by decide +kernel
theorem dX9_of_114 : decode cX9_of 114 = .ok (.bipush (-2), 2) := by decide +kernel
theorem dX9_of_116 : decode cX9_of 116 = .ok (.invokevirtual 44, 3) := by decide +kernel
theorem dX9_of_119 : decode cX9_of 119 = .ok (.ireturn, 1) := by decide +kernel
theorem dX9_span_0 : decode cX9_span 0 = .ok (.aload_n 0, 1) := by decide +kernel
theorem dX9_span_1 : decode cX9_span 1 = .ok (.getfield 21, 3) := by decide +kernel
theorem dX9_span_4 : decode cX9_span 4 = .ok (.iload_n 1, 1) := by decide +kernel
theorem dX9_span_5 : decode cX9_span 5 = .ok (.invokevirtual 82, 3) := by decide +kernel
theorem dX9_span_8 : decode cX9_span 8 = .ok (.ifCond .eq 16, 3) := by decide +kernel
theorem dX9_span_11 : decode cX9_span 11 = .ok (.iload_n 2, 1) := by decide +kernel
theorem dX9_span_12 : decode cX9_span 12 = .ok (.ifCond .lt 12, 3) := by decide +kernel
theorem dX9_span_15 : decode cX9_span 15 = .ok (.iload_n 3, 1) := by decide +kernel
theorem dX9_span_16 : decode cX9_span 16 = .ok (.ifCond .lt 8, 3) := by decide +kernel
theorem dX9_span_19 : decode cX9_span 19 = .ok (.iload_n 3, 1) := by decide +kernel
theorem dX9_span_20 : decode cX9_span 20 = .ok (.iconst 2, 1) := by decide +kernel
theorem dX9_span_21 : decode cX9_span 21 = .ok (.if_icmp .le 10, 3) := by decide +kernel
theorem dX9_span_24 : decode cX9_span 24 = .ok (.aload_n 0, 1) := by decide +kernel
theorem dX9_span_25 : decode cX9_span 25 = .ok (.bipush (-2), 2) := by decide +kernel
theorem dX9_span_27 : decode cX9_span 27 = .ok (.invokevirtual 44, 3) := by decide +kernel
theorem dX9_span_30 : decode cX9_span 30 = .ok (.ireturn, 1) := by decide +kernel
theorem dX9_span_31 : decode cX9_span 31 = .ok (.aload_n 0, 1) := by decide +kernel
theorem dX9_span_32 : decode cX9_span 32 = .ok (.getfield 21, 3) := by decide +kernel
theorem dX9_span_35 : decode cX9_span 35 = .ok (.getfield 65, 3) := by decide +kernel
theorem dX9_span_38 : decode cX9_span 38 = .ok (.iload_n 1, 1) := by decide +kernel
theorem dX9_span_39 : decode cX9_span 39 = .ok (.aaload, 1) := by decide +kernel
theorem dX9_span_40 : decode cX9_span 40 = .ok (.astore 4, 2) := by decide +kernel
theorem dX9_span_42 : decode cX9_span 42 = .ok (.aload 4, 2) := by decide +kernel
theorem dX9_span_44 : decode cX9_span 44 = .ok (.iload_n 2, 1) := by decide +kernel
theorem dX9_span_45 : decode cX9_span 45 = .ok (.invokevirtual 167, 3) := by decide +kernel
theorem dX9_span_48 : decode cX9_span 48 = .ok (.istore 5, 2) := by decide +kernel
theorem dX9_span_50 : decode cX9_span 50 = .ok (.iload 5, 2) := by decide +kernel
theorem dX9_span_52 : decode cX9_span 52 = .ok (.iconst (-1), 1) := by decide +kernel
theorem dX9_span_53 : decode cX9_span 53 = .ok (.if_icmp .ne 5, 3) := by decide +kernel
theorem dX9_span_56 : decode cX9_span 56 = .ok (.iconst (-1), 1) := by decide +kernel
theorem dX9_span_57 : decode cX9_span 57 = .ok (.ireturn, 1) := by decide +kernel
theorem dX9_span_58 : decode cX9_span 58 = .ok (.iload_n 3, 1) := by decide +kernel
theorem dX9_span_59 : decode cX9_span 59 = .ok (.lookupswitch 39 #[(0, 25), (1, 28)], 25) := by decide +kernel
theorem dX9_span_84 : decode cX9_span 84 = .ok (.iload 5, 2) := by decide +kernel
theorem dX9_span_86 : decode cX9_span 86 = .ok (.ireturn, 1) := by decide +kernel
theorem dX9_span_87 : decode cX9_span 87 = .ok (.aload 4, 2) := by decide +kernel
theorem dX9_span_89 : decode cX9_span 89 = .ok (.iload 5, 2) := by decide +kernel
theorem dX9_span_91 : decode cX9_span 91 = .ok (.invokevirtual 170, 3) := by decide +kernel
theorem dX9_span_94 : decode cX9_span 94 = .ok (.iload 5, 2) := by decide +kernel
theorem dX9_span_96 : decode cX9_span 96 = .ok (.isub, 1) := by decide +kernel
theorem dX9_span_97 : decode cX9_span 97 = .ok (.ireturn, 1) := by decide +kernel
theorem dX9_span_98 : decode cX9_span 98 = .ok (.aload 4, 2) := by decide +kernel
theorem dX9_span_100 : decode cX9_span 100 = .ok (.getfield 136, 3) := by decide +kernel
theorem dX9_span_103 : decode cX9_span 103 = .ok (.iload 5, 2) := by decide +kernel
theorem dX9_span_105 : decode cX9_span 105 = .ok (.iaload, 1) := by decide +kernel
theorem dX9_span_106 : decode cX9_span 106 = .ok (.ireturn, 1) := by decide +kernel
theorem dX9_anew_0 : decode cX9_anew 0 = .ok (.aload_n 0, 1) := by decide +kernel
theorem dX9_anew_1 : decode cX9_anew 1 = .ok (.getfield 36, 3) := by decide +kernel
theorem dX9_anew_4 : decode cX9_anew 4 = .ok (.ireturn, 1) := by decide +kernel
theorem dX9_painted_0 : decode cX9_painted 0 = .ok (.iload_n 1, 1) := by decide +kernel
theorem dX9_painted_1 : decode cX9_painted 1 = .ok (.ifCond .lt 9, 3) := by decide +kernel
theorem dX9_painted_4 : decode cX9_painted 4 = .ok (.iload_n 1, 1) := by decide +kernel
theorem dX9_painted_5 : decode cX9_painted 5 = .ok (.bipush 8, 2) := by decide +kernel
theorem dX9_painted_7 : decode cX9_painted 7 = .ok (.if_icmp .lt 10, 3) := by decide +kernel
theorem dX9_painted_10 : decode cX9_painted 10 = .ok (.aload_n 0, 1) := by decide +kernel
theorem dX9_painted_11 : decode cX9_painted 11 = .ok (.bipush (-2), 2) := by decide +kernel
theorem dX9_painted_13 : decode cX9_painted 13 = .ok (.invokevirtual 44, 3) := by decide +kernel
theorem dX9_painted_16 : decode cX9_painted 16 = .ok (.ireturn, 1) := by decide +kernel
theorem dX9_painted_17 : decode cX9_painted 17 = .ok (.iconst 0, 1) := by decide +kernel
theorem dX9_painted_18 : decode cX9_painted 18 = .ok (.istore_n 2, 1) := by decide +kernel
theorem dX9_painted_19 : decode cX9_painted 19 = .ok (.iconst 0, 1) := by decide +kernel
theorem dX9_painted_20 : decode cX9_painted 20 = .ok (.istore_n 3, 1) := by decide +kernel
theorem dX9_painted_21 : decode cX9_painted 21 = .ok (.iload_n 3, 1) := by decide +kernel
theorem dX9_painted_22 : decode cX9_painted 22 = .ok (.aload_n 0, 1) := by decide +kernel
theorem dX9_painted_23 : decode cX9_painted 23 = .ok (.getfield 21, 3) := by decide +kernel
theorem dX9_painted_26 : decode cX9_painted 26 = .ok (.getfield 55, 3) := by decide +kernel
theorem dX9_painted_29 : decode cX9_painted 29 = .ok (.if_icmp .ge 25, 3) := by decide +kernel
theorem dX9_painted_32 : decode cX9_painted 32 = .ok (.iload_n 2, 1) := by decide +kernel
theorem dX9_painted_33 : decode cX9_painted 33 = .ok (.aload_n 0, 1) := by decide +kernel
theorem dX9_painted_34 : decode cX9_painted 34 = .ok (.getfield 21, 3) := by decide +kernel
theorem dX9_painted_37 : decode cX9_painted 37 = .ok (.getfield 65, 3) := by decide +kernel
theorem dX9_painted_40 : decode cX9_painted 40 = .ok (.iload_n 3, 1) := by decide +kernel
theorem dX9_painted_41 : decode cX9_painted 41 = .ok (.aaload, 1) := by decide +kernel
theorem dX9_painted_42 : decode cX9_painted 42 = .ok (.iload_n 1, 1) := by decide +kernel
theorem dX9_painted_43 : decode cX9_painted 43 = .ok (.invokevirtual 173, 3) := by decide +kernel
theorem dX9_painted_46 : decode cX9_painted 46 = .ok (.iadd, 1) := by decide +kernel
theorem dX9_painted_47 : decode cX9_painted 47 = .ok (.istore_n 2, 1) := by decide +kernel
theorem dX9_painted_48 : decode cX9_painted 48 = .ok (.iinc 3 1, 3) := by decide +kernel
theorem dX9_painted_51 : decode cX9_painted 51 = .ok (.goto (-30), 3) := by decide +kernel
theorem dX9_painted_54 : decode cX9_painted 54 = .ok (.iload_n 2, 1) := by decide +kernel
theorem dX9_painted_55 : decode cX9_painted 55 = .ok (.ireturn, 1) := by decide +kernel
theorem dX9_back_0 : decode cX9_back 0 = .ok (.aload_n 0, 1) := by decide +kernel
theorem dX9_back_1 : decode cX9_back 1 = .ok (.getfield 28, 3) := by decide +kernel
theorem dX9_back_4 : decode cX9_back 4 = .ok (.getfield 176, 3) := by decide +kernel
theorem dX9_back_7 : decode cX9_back 7 = .ok (.ifCond .ne 10, 3) := by decide +kernel
theorem dX9_back_10 : decode cX9_back 10 = .ok (.aload_n 0, 1) := by decide +kernel
theorem dX9_back_11 : decode cX9_back 11 = .ok (.bipush (-3), 2) := by decide +kernel
theorem dX9_back_13 : decode cX9_back 13 = .ok (.invokevirtual 44, 3) := by decide +kernel
theorem dX9_back_16 : decode cX9_back 16 = .ok (.ireturn, 1) := by decide +kernel
theorem dX9_back_17 : decode cX9_back 17 = .ok (.aload_n 0, 1) := by decide +kernel
theorem dX9_back_18 : decode cX9_back 18 = .ok (.getfield 28, 3) := by decide +kernel
theorem dX9_back_21 : decode cX9_back 21 = .ok (.aload_n 0, 1) := by decide +kernel
theorem dX9_back_22 : decode cX9_back 22 = .ok (.getfield 21, 3) := by decide +kernel
theorem dX9_back_25 : decode cX9_back 25 = .ok (.invokevirtual 177, 3) := by decide +kernel
theorem dX9_back_28 : decode cX9_back 28 = .ok (.aload_n 0, 1) := by decide +kernel
theorem dX9_back_29 : decode cX9_back 29 = .ok (.getfield 21, 3) := by decide +kernel
theorem dX9_back_32 : decode cX9_back 32 = .ok (.iconst 0, 1) := by decide +kernel
theorem dX9_back_33 : decode cX9_back 33 = .ok (.aload_n 0, 1) := by decide +kernel
theorem dX9_back_34 : decode cX9_back 34 = .ok (.getfield 21, 3) := by decide +kernel
theorem dX9_back_37 : decode cX9_back 37 = .ok (.getfield 55, 3) := by decide +kernel
theorem dX9_back_40 : decode cX9_back 40 = .ok (.invokevirtual 78, 3) := by decide +kernel
theorem dX9_back_43 : decode cX9_back 43 = .ok (.pop, 1) := by decide +kernel
theorem dX9_back_44 : decode cX9_back 44 = .ok (.aload_n 0, 1) := by decide +kernel
theorem dX9_back_45 : decode cX9_back 45 = .ok (.iconst 0, 1) := by decide +kernel
theorem dX9_back_46 : decode cX9_back 46 = .ok (.putfield 36, 3) := by decide +kernel
theorem dX9_back_49 : decode cX9_back 49 = .ok (.aload_n 0, 1) := by decide +kernel
theorem dX9_back_50 : decode cX9_back 50 = .ok (.getfield 28, 3) := by decide +kernel
theorem dX9_back_53 : decode cX9_back 53 = .ok (.getfield 176, 3) := by decide +kernel
theorem dX9_back_56 : decode cX9_back 56 = .ok (.ireturn, 1) := by decide +kernel
theorem dX9_told_0 : decode cX9_told 0 = .ok (.iload_n 1, 1) := by decide +kernel
theorem dX9_told_1 : decode cX9_told 1 = .ok (.tableswitch 100 0 7 #[47, 47, 47, 54, 62, 70, 81, 92], 47) := by decide +kernel
theorem dX9_told_48 : decode cX9_told 48 = .ok (.aload_n 0, 1) := by decide +kernel
theorem dX9_told_49 : decode cX9_told 49 = .ok (.getfield 32, 3) := by decide +kernel
theorem dX9_told_52 : decode cX9_told 52 = .ok (.iload_n 1, 1) := by decide +kernel
theorem dX9_told_53 : decode cX9_told 53 = .ok (.iaload, 1) := by decide +kernel
theorem dX9_told_54 : decode cX9_told 54 = .ok (.ireturn, 1) := by decide +kernel
theorem dX9_told_55 : decode cX9_told 55 = .ok (.aload_n 0, 1) := by decide +kernel
theorem dX9_told_56 : decode cX9_told 56 = .ok (.getfield 14, 3) := by decide +kernel
theorem dX9_told_59 : decode cX9_told 59 = .ok (.getfield 48, 3) := by decide +kernel
theorem dX9_told_62 : decode cX9_told 62 = .ok (.ireturn, 1) := by decide +kernel
theorem dX9_told_63 : decode cX9_told 63 = .ok (.aload_n 0, 1) := by decide +kernel
theorem dX9_told_64 : decode cX9_told 64 = .ok (.getfield 21, 3) := by decide +kernel
theorem dX9_told_67 : decode cX9_told 67 = .ok (.getfield 55, 3) := by decide +kernel
theorem dX9_told_70 : decode cX9_told 70 = .ok (.ireturn, 1) := by decide +kernel
theorem dX9_told_71 : decode cX9_told 71 = .ok (.aload_n 0, 1) := by decide +kernel
theorem dX9_told_72 : decode cX9_told 72 = .ok (.getfield 21, 3) := by decide +kernel
theorem dX9_told_75 : decode cX9_told 75 = .ok (.getfield 109, 3) := by decide +kernel
theorem dX9_told_78 : decode cX9_told 78 = .ok (.getfield 119, 3) := by decide +kernel
theorem dX9_told_81 : decode cX9_told 81 = .ok (.ireturn, 1) := by decide +kernel
theorem dX9_told_82 : decode cX9_told 82 = .ok (.aload_n 0, 1) := by decide +kernel
theorem dX9_told_83 : decode cX9_told 83 = .ok (.getfield 21, 3) := by decide +kernel
theorem dX9_told_86 : decode cX9_told 86 = .ok (.getfield 126, 3) := by decide +kernel
theorem dX9_told_89 : decode cX9_told 89 = .ok (.getfield 130, 3) := by decide +kernel
theorem dX9_told_92 : decode cX9_told 92 = .ok (.ireturn, 1) := by decide +kernel
theorem dX9_told_93 : decode cX9_told 93 = .ok (.aload_n 0, 1) := by decide +kernel
theorem dX9_told_94 : decode cX9_told 94 = .ok (.getfield 28, 3) := by decide +kernel
theorem dX9_told_97 : decode cX9_told 97 = .ok (.getfield 176, 3) := by decide +kernel
theorem dX9_told_100 : decode cX9_told 100 = .ok (.ireturn, 1) := by decide +kernel
theorem dX9_told_101 : decode cX9_told 101 = .ok (.aload_n 0, 1) := by decide +kernel
theorem dX9_told_102 : decode cX9_told 102 = .ok (.bipush (-2), 2) := by decide +kernel
theorem dX9_told_104 : decode cX9_told 104 = .ok (.invokevirtual 44, 3) := by decide +kernel
theorem dX9_told_107 : decode cX9_told 107 = .ok (.ireturn, 1) := by decide +kernel
theorem dX9_digest_0 : decode cX9_digest 0 = .ok (.ldc2_w 180, 3) := by decide +kernel
theorem dX9_digest_3 : decode cX9_digest 3 = .ok (.lstore_n 1, 1) := by decide +kernel
theorem dX9_digest_4 : decode cX9_digest 4 = .ok (.iconst 0, 1) := by decide +kernel
theorem dX9_digest_5 : decode cX9_digest 5 = .ok (.istore_n 3, 1) := by decide +kernel
theorem dX9_digest_6 : decode cX9_digest 6 = .ok (.iload_n 3, 1) := by decide +kernel
theorem dX9_digest_7 : decode cX9_digest 7 = .ok (.bipush 7, 2) := by decide +kernel
theorem dX9_digest_9 : decode cX9_digest 9 = .ok (.if_icmp .gt 22, 3) := by decide +kernel
theorem dX9_digest_12 : decode cX9_digest 12 = .ok (.ldc2_w 182, 3) := by decide +kernel
theorem dX9_digest_15 : decode cX9_digest 15 = .ok (.lload_n 1, 1) := by decide +kernel
theorem dX9_digest_16 : decode cX9_digest 16 = .ok (.lmul, 1) := by decide +kernel
theorem dX9_digest_17 : decode cX9_digest 17 = .ok (.aload_n 0, 1) := by decide +kernel
theorem dX9_digest_18 : decode cX9_digest 18 = .ok (.iload_n 3, 1) := by decide +kernel
theorem dX9_digest_19 : decode cX9_digest 19 = .ok (.invokevirtual 184, 3) := by decide +kernel
theorem dX9_digest_22 : decode cX9_digest 22 = .ok (.i2l, 1) := by decide +kernel
theorem dX9_digest_23 : decode cX9_digest 23 = .ok (.ladd, 1) := by decide +kernel
theorem dX9_digest_24 : decode cX9_digest 24 = .ok (.lstore_n 1, 1) := by decide +kernel
theorem dX9_digest_25 : decode cX9_digest 25 = .ok (.iinc 3 1, 3) := by decide +kernel
theorem dX9_digest_28 : decode cX9_digest 28 = .ok (.goto (-22), 3) := by decide +kernel
theorem dX9_digest_31 : decode cX9_digest 31 = .ok (.ldc2_w 182, 3) := by decide +kernel
theorem dX9_digest_34 : decode cX9_digest 34 = .ok (.lload_n 1, 1) := by decide +kernel
theorem dX9_digest_35 : decode cX9_digest 35 = .ok (.lmul, 1) := by decide +kernel
theorem dX9_digest_36 : decode cX9_digest 36 = .ok (.aload_n 0, 1) := by decide +kernel
theorem dX9_digest_37 : decode cX9_digest 37 = .ok (.getfield 36, 3) := by decide +kernel
theorem dX9_digest_40 : decode cX9_digest 40 = .ok (.i2l, 1) := by decide +kernel
theorem dX9_digest_41 : decode cX9_digest 41 = .ok (.ladd, 1) := by decide +kernel
theorem dX9_digest_42 : decode cX9_digest 42 = .ok (.lstore_n 1, 1) := by decide +kernel
theorem dX9_digest_43 : decode cX9_digest 43 = .ok (.iconst 0, 1) := by decide +kernel
theorem dX9_digest_44 : decode cX9_digest 44 = .ok (.istore_n 3, 1) := by decide +kernel
theorem dX9_digest_45 : decode cX9_digest 45 = .ok (.iload_n 3, 1) := by decide +kernel
theorem dX9_digest_46 : decode cX9_digest 46 = .ok (.aload_n 0, 1) := by decide +kernel
theorem dX9_digest_47 : decode cX9_digest 47 = .ok (.getfield 21, 3) := by decide +kernel
theorem dX9_digest_50 : decode cX9_digest 50 = .ok (.getfield 55, 3) := by decide +kernel
theorem dX9_digest_53 : decode cX9_digest 53 = .ok (.if_icmp .ge 16, 3) := by decide +kernel
theorem dX9_digest_56 : decode cX9_digest 56 = .ok (.aload_n 0, 1) := by decide +kernel
theorem dX9_digest_57 : decode cX9_digest 57 = .ok (.lload_n 1, 1) := by decide +kernel
theorem dX9_digest_58 : decode cX9_digest 58 = .ok (.iload_n 3, 1) := by decide +kernel
theorem dX9_digest_59 : decode cX9_digest 59 = .ok (.invokevirtual 187, 3) := by decide +kernel
theorem dX9_digest_62 : decode cX9_digest 62 = .ok (.lstore_n 1, 1) := by decide +kernel
theorem dX9_digest_63 : decode cX9_digest 63 = .ok (.iinc 3 1, 3) := by decide +kernel
theorem dX9_digest_66 : decode cX9_digest 66 = .ok (.goto (-21), 3) := by decide +kernel
theorem dX9_digest_69 : decode cX9_digest 69 = .ok (.lload_n 1, 1) := by decide +kernel
theorem dX9_digest_70 : decode cX9_digest 70 = .ok (.lreturn, 1) := by decide +kernel
theorem dX9_digestLine_0 : decode cX9_digestLine 0 = .ok (.lload_n 1, 1) := by decide +kernel
theorem dX9_digestLine_1 : decode cX9_digestLine 1 = .ok (.lstore 4, 2) := by decide +kernel
theorem dX9_digestLine_3 : decode cX9_digestLine 3 = .ok (.iconst 0, 1) := by decide +kernel
theorem dX9_digestLine_4 : decode cX9_digestLine 4 = .ok (.istore 6, 2) := by decide +kernel
theorem dX9_digestLine_6 : decode cX9_digestLine 6 = .ok (.iload 6, 2) := by decide +kernel
theorem dX9_digestLine_8 : decode cX9_digestLine 8 = .ok (.iconst 5, 1) := by decide +kernel
theorem dX9_digestLine_9 : decode cX9_digestLine 9 = .ok (.if_icmp .gt 26, 3) := by decide +kernel
theorem dX9_digestLine_12 : decode cX9_digestLine 12 = .ok (.ldc2_w 182, 3) := by decide +kernel
theorem dX9_digestLine_15 : decode cX9_digestLine 15 = .ok (.lload 4, 2) := by decide +kernel
theorem dX9_digestLine_17 : decode cX9_digestLine 17 = .ok (.lmul, 1) := by decide +kernel
theorem dX9_digestLine_18 : decode cX9_digestLine 18 = .ok (.aload_n 0, 1) := by decide +kernel
theorem dX9_digestLine_19 : decode cX9_digestLine 19 = .ok (.iload_n 3, 1) := by decide +kernel
theorem dX9_digestLine_20 : decode cX9_digestLine 20 = .ok (.iload 6, 2) := by decide +kernel
theorem dX9_digestLine_22 : decode cX9_digestLine 22 = .ok (.invokevirtual 191, 3) := by decide +kernel
theorem dX9_digestLine_25 : decode cX9_digestLine 25 = .ok (.i2l, 1) := by decide +kernel
theorem dX9_digestLine_26 : decode cX9_digestLine 26 = .ok (.ladd, 1) := by decide +kernel
theorem dX9_digestLine_27 : decode cX9_digestLine 27 = .ok (.lstore 4, 2) := by decide +kernel
theorem dX9_digestLine_29 : decode cX9_digestLine 29 = .ok (.iinc 6 1, 3) := by decide +kernel
theorem dX9_digestLine_32 : decode cX9_digestLine 32 = .ok (.goto (-26), 3) := by decide +kernel
theorem dX9_digestLine_35 : decode cX9_digestLine 35 = .ok (.iconst 0, 1) := by decide +kernel
theorem dX9_digestLine_36 : decode cX9_digestLine 36 = .ok (.istore 6, 2) := by decide +kernel
theorem dX9_digestLine_38 : decode cX9_digestLine 38 = .ok (.iload 6, 2) := by decide +kernel
theorem dX9_digestLine_40 : decode cX9_digestLine 40 = .ok (.aload_n 0, 1) := by decide +kernel
theorem dX9_digestLine_41 : decode cX9_digestLine 41 = .ok (.getfield 21, 3) := by decide +kernel
theorem dX9_digestLine_44 : decode cX9_digestLine 44 = .ok (.getfield 65, 3) := by decide +kernel
theorem dX9_digestLine_47 : decode cX9_digestLine 47 = .ok (.iload_n 3, 1) := by decide +kernel
theorem dX9_digestLine_48 : decode cX9_digestLine 48 = .ok (.aaload, 1) := by decide +kernel
theorem dX9_digestLine_49 : decode cX9_digestLine 49 = .ok (.getfield 69, 3) := by decide +kernel
theorem dX9_digestLine_52 : decode cX9_digestLine 52 = .ok (.getfield 48, 3) := by decide +kernel
theorem dX9_digestLine_55 : decode cX9_digestLine 55 = .ok (.if_icmp .ge 43, 3) := by decide +kernel
theorem dX9_digestLine_58 : decode cX9_digestLine 58 = .ok (.iconst 0, 1) := by decide +kernel
theorem dX9_digestLine_59 : decode cX9_digestLine 59 = .ok (.istore 7, 2) := by decide +kernel
theorem dX9_digestLine_61 : decode cX9_digestLine 61 = .ok (.iload 7, 2) := by decide +kernel
theorem dX9_digestLine_63 : decode cX9_digestLine 63 = .ok (.iconst 2, 1) := by decide +kernel
theorem dX9_digestLine_64 : decode cX9_digestLine 64 = .ok (.if_icmp .gt 28, 3) := by decide +kernel
theorem dX9_digestLine_67 : decode cX9_digestLine 67 = .ok (.ldc2_w 182, 3) := by decide +kernel
theorem dX9_digestLine_70 : decode cX9_digestLine 70 = .ok (.lload 4, 2) := by decide +kernel
theorem dX9_digestLine_72 : decode cX9_digestLine 72 = .ok (.lmul, 1) := by decide +kernel
theorem dX9_digestLine_73 : decode cX9_digestLine 73 = .ok (.aload_n 0, 1) := by decide +kernel
theorem dX9_digestLine_74 : decode cX9_digestLine 74 = .ok (.iload_n 3, 1) := by decide +kernel
theorem dX9_digestLine_75 : decode cX9_digestLine 75 = .ok (.iload 6, 2) := by decide +kernel
theorem dX9_digestLine_77 : decode cX9_digestLine 77 = .ok (.iload 7, 2) := by decide +kernel
theorem dX9_digestLine_79 : decode cX9_digestLine 79 = .ok (.invokevirtual 194, 3) := by decide +kernel
theorem dX9_digestLine_82 : decode cX9_digestLine 82 = .ok (.i2l, 1) := by decide +kernel
theorem dX9_digestLine_83 : decode cX9_digestLine 83 = .ok (.ladd, 1) := by decide +kernel
theorem dX9_digestLine_84 : decode cX9_digestLine 84 = .ok (.lstore 4, 2) := by decide +kernel
theorem dX9_digestLine_86 : decode cX9_digestLine 86 = .ok (.iinc 7 1, 3) := by decide +kernel
theorem dX9_digestLine_89 : decode cX9_digestLine 89 = .ok (.goto (-28), 3) := by decide +kernel
theorem dX9_digestLine_92 : decode cX9_digestLine 92 = .ok (.iinc 6 1, 3) := by decide +kernel
theorem dX9_digestLine_95 : decode cX9_digestLine 95 = .ok (.goto (-57), 3) := by decide +kernel
theorem dX9_digestLine_98 : decode cX9_digestLine 98 = .ok (.lload 4, 2) := by decide +kernel
theorem dX9_digestLine_100 : decode cX9_digestLine 100 = .ok (.lreturn, 1) := by decide +kernel
theorem dX9_refuse_0 : decode cX9_refuse 0 = .ok (.bipush (-2), 2) := by decide +kernel
theorem dX9_refuse_2 : decode cX9_refuse 2 = .ok (.iload_n 1, 1) := by decide +kernel
theorem dX9_refuse_3 : decode cX9_refuse 3 = .ok (.isub, 1) := by decide +kernel
theorem dX9_refuse_4 : decode cX9_refuse 4 = .ok (.istore_n 2, 1) := by decide +kernel
theorem dX9_refuse_5 : decode cX9_refuse 5 = .ok (.iload_n 2, 1) := by decide +kernel
theorem dX9_refuse_6 : decode cX9_refuse 6 = .ok (.ifCond .lt 22, 3) := by decide +kernel
theorem dX9_refuse_9 : decode cX9_refuse 9 = .ok (.iload_n 2, 1) := by decide +kernel
theorem dX9_refuse_10 : decode cX9_refuse 10 = .ok (.aload_n 0, 1) := by decide +kernel
theorem dX9_refuse_11 : decode cX9_refuse 11 = .ok (.getfield 32, 3) := by decide +kernel
theorem dX9_refuse_14 : decode cX9_refuse 14 = .ok (.arraylength, 1) := by decide +kernel
theorem dX9_refuse_15 : decode cX9_refuse 15 = .ok (.if_icmp .ge 13, 3) := by decide +kernel
theorem dX9_refuse_18 : decode cX9_refuse 18 = .ok (.aload_n 0, 1) := by decide +kernel
theorem dX9_refuse_19 : decode cX9_refuse 19 = .ok (.getfield 32, 3) := by decide +kernel
theorem dX9_refuse_22 : decode cX9_refuse 22 = .ok (.iload_n 2, 1) := by decide +kernel
theorem dX9_refuse_23 : decode cX9_refuse 23 = .ok (.dup2, 1) := by decide +kernel
theorem dX9_refuse_24 : decode cX9_refuse 24 = .ok (.iaload, 1) := by decide +kernel
theorem dX9_refuse_25 : decode cX9_refuse 25 = .ok (.iconst 1, 1) := by decide +kernel
theorem dX9_refuse_26 : decode cX9_refuse 26 = .ok (.iadd, 1) := by decide +kernel
theorem dX9_refuse_27 : decode cX9_refuse 27 = .ok (.iastore, 1) := by decide +kernel
theorem dX9_refuse_28 : decode cX9_refuse 28 = .ok (.iload_n 1, 1) := by decide +kernel
theorem dX9_refuse_29 : decode cX9_refuse 29 = .ok (.ireturn, 1) := by decide +kernel
theorem dX9_isByte_0 : decode cX9_isByte 0 = .ok (.iload_n 0, 1) := by decide +kernel
theorem dX9_isByte_1 : decode cX9_isByte 1 = .ok (.bipush 32, 2) := by decide +kernel
theorem dX9_isByte_3 : decode cX9_isByte 3 = .ok (.if_icmp .lt 13, 3) := by decide +kernel
theorem dX9_isByte_6 : decode cX9_isByte 6 = .ok (.iload_n 0, 1) := by decide +kernel
theorem dX9_isByte_7 : decode cX9_isByte 7 = .ok (.bipush 126, 2) := by decide +kernel
theorem dX9_isByte_9 : decode cX9_isByte 9 = .ok (.if_icmp .gt 7, 3) := by decide +kernel
theorem dX9_isByte_12 : decode cX9_isByte 12 = .ok (.iconst 1, 1) := by decide +kernel
theorem dX9_isByte_13 : decode cX9_isByte 13 = .ok (.goto 4, 3) := by decide +kernel
theorem dX9_isByte_16 : decode cX9_isByte 16 = .ok (.iconst 0, 1) := by decide +kernel
theorem dX9_isByte_17 : decode cX9_isByte 17 = .ok (.ireturn, 1) := by decide +kernel
theorem dX9_isLetter_0 : decode cX9_isLetter 0 = .ok (.iload_n 0, 1) := by decide +kernel
theorem dX9_isLetter_1 : decode cX9_isLetter 1 = .ok (.bipush 97, 2) := by decide +kernel
theorem dX9_isLetter_3 : decode cX9_isLetter 3 = .ok (.if_icmp .lt 13, 3) := by decide +kernel
theorem dX9_isLetter_6 : decode cX9_isLetter 6 = .ok (.iload_n 0, 1) := by decide +kernel
theorem dX9_isLetter_7 : decode cX9_isLetter 7 = .ok (.bipush 122, 2) := by decide +kernel
theorem dX9_isLetter_9 : decode cX9_isLetter 9 = .ok (.if_icmp .gt 7, 3) := by decide +kernel
theorem dX9_isLetter_12 : decode cX9_isLetter 12 = .ok (.iconst 1, 1) := by decide +kernel
theorem dX9_isLetter_13 : decode cX9_isLetter 13 = .ok (.goto 4, 3) := by decide +kernel
theorem dX9_isLetter_16 : decode cX9_isLetter 16 = .ok (.iconst 0, 1) := by decide +kernel
theorem dX9_isLetter_17 : decode cX9_isLetter 17 = .ok (.ireturn, 1) := by decide +kernel
theorem dX9_isFigure_0 : decode cX9_isFigure 0 = .ok (.iload_n 0, 1) := by decide +kernel
theorem dX9_isFigure_1 : decode cX9_isFigure 1 = .ok (.bipush 48, 2) := by decide +kernel
theorem dX9_isFigure_3 : decode cX9_isFigure 3 = .ok (.if_icmp .lt 13, 3) := by decide +kernel
theorem dX9_isFigure_6 : decode cX9_isFigure 6 = .ok (.iload_n 0, 1) := by decide +kernel
theorem dX9_isFigure_7 : decode cX9_isFigure 7 = .ok (.bipush 57, 2) := by decide +kernel
theorem dX9_isFigure_9 : decode cX9_isFigure 9 = .ok (.if_icmp .gt 7, 3) := by decide +kernel
theorem dX9_isFigure_12 : decode cX9_isFigure 12 = .ok (.iconst 1, 1) := by decide +kernel
theorem dX9_isFigure_13 : decode cX9_isFigure 13 = .ok (.goto 4, 3) := by decide +kernel
theorem dX9_isFigure_16 : decode cX9_isFigure 16 = .ok (.iconst 0, 1) := by decide +kernel
theorem dX9_isFigure_17 : decode cX9_isFigure 17 = .ok (.ireturn, 1) := by decide +kernel
theorem dX9_isCapital_0 : decode cX9_isCapital 0 = .ok (.iload_n 0, 1) := by decide +kernel
theorem dX9_isCapital_1 : decode cX9_isCapital 1 = .ok (.bipush 65, 2) := by decide +kernel
theorem dX9_isCapital_3 : decode cX9_isCapital 3 = .ok (.if_icmp .lt 13, 3) := by decide +kernel
theorem dX9_isCapital_6 : decode cX9_isCapital 6 = .ok (.iload_n 0, 1) := by decide +kernel
theorem dX9_isCapital_7 : decode cX9_isCapital 7 = .ok (.bipush 90, 2) := by decide +kernel
theorem dX9_isCapital_9 : decode cX9_isCapital 9 = .ok (.if_icmp .gt 7, 3) := by decide +kernel
theorem dX9_isCapital_12 : decode cX9_isCapital 12 = .ok (.iconst 1, 1) := by decide +kernel
theorem dX9_isCapital_13 : decode cX9_isCapital 13 = .ok (.goto 4, 3) := by decide +kernel
theorem dX9_isCapital_16 : decode cX9_isCapital 16 = .ok (.iconst 0, 1) := by decide +kernel
theorem dX9_isCapital_17 : decode cX9_isCapital 17 = .ok (.ireturn, 1) := by decide +kernel
theorem dX9_isQuote_0 : decode cX9_isQuote 0 = .ok (.iload_n 0, 1) := by decide +kernel
theorem dX9_isQuote_1 : decode cX9_isQuote 1 = .ok (.bipush 34, 2) := by decide +kernel
theorem dX9_isQuote_3 : decode cX9_isQuote 3 = .ok (.if_icmp .eq 9, 3) := by decide +kernel
theorem dX9_isQuote_6 : decode cX9_isQuote 6 = .ok (.iload_n 0, 1) := by decide +kernel
theorem dX9_isQuote_7 : decode cX9_isQuote 7 = .ok (.bipush 39, 2) := by decide +kernel
theorem dX9_isQuote_9 : decode cX9_isQuote 9 = .ok (.if_icmp .ne 7, 3) := by decide +kernel
theorem dX9_isQuote_12 : decode cX9_isQuote 12 = .ok (.iconst 1, 1) := by decide +kernel
theorem dX9_isQuote_13 : decode cX9_isQuote 13 = .ok (.goto 4, 3) := by decide +kernel
theorem dX9_isQuote_16 : decode cX9_isQuote 16 = .ok (.iconst 0, 1) := by decide +kernel
theorem dX9_isQuote_17 : decode cX9_isQuote 17 = .ok (.ireturn, 1) := by decide +kernel
theorem dX9_isWordLike_0 : decode cX9_isWordLike 0 = .ok (.aload_n 0, 1) := by decide +kernel
theorem dX9_isWordLike_1 : decode cX9_isWordLike 1 = .ok (.getfield 48, 3) := by decide +kernel
theorem dX9_isWordLike_4 : decode cX9_isWordLike 4 = .ok (.iconst 1, 1) := by decide +kernel
theorem dX9_isWordLike_5 : decode cX9_isWordLike 5 = .ok (.if_icmp .lt 11, 3) := by decide +kernel
theorem dX9_isWordLike_8 : decode cX9_isWordLike 8 = .ok (.aload_n 0, 1) := by decide +kernel
theorem dX9_isWordLike_9 : decode cX9_isWordLike 9 = .ok (.getfield 48, 3) := by decide +kernel
theorem dX9_isWordLike_12 : decode cX9_isWordLike 12 = .ok (.iconst 5, 1) := by decide +kernel
theorem dX9_isWordLike_13 : decode cX9_isWordLike 13 = .ok (.if_icmp .le 5, 3) := by decide +kernel
theorem dX9_isWordLike_16 : decode cX9_isWordLike 16 = .ok (.iconst 0, 1) := by decide +kernel
theorem dX9_isWordLike_17 : decode cX9_isWordLike 17 = .ok (.ireturn, 1) := by decide +kernel
theorem dX9_isWordLike_18 : decode cX9_isWordLike 18 = .ok (.iconst 0, 1) := by decide +kernel
theorem dX9_isWordLike_19 : decode cX9_isWordLike 19 = .ok (.istore_n 1, 1) := by decide +kernel
theorem dX9_isWordLike_20 : decode cX9_isWordLike 20 = .ok (.iload_n 1, 1) := by decide +kernel
theorem dX9_isWordLike_21 : decode cX9_isWordLike 21 = .ok (.aload_n 0, 1) := by decide +kernel
theorem dX9_isWordLike_22 : decode cX9_isWordLike 22 = .ok (.getfield 48, 3) := by decide +kernel
theorem dX9_isWordLike_25 : decode cX9_isWordLike 25 = .ok (.if_icmp .ge 22, 3) := by decide +kernel
theorem dX9_isWordLike_28 : decode cX9_isWordLike 28 = .ok (.aload_n 0, 1) := by decide +kernel
theorem dX9_isWordLike_29 : decode cX9_isWordLike 29 = .ok (.iload_n 1, 1) := by decide +kernel
theorem dX9_isWordLike_30 : decode cX9_isWordLike 30 = .ok (.invokevirtual 96, 3) := by decide +kernel
theorem dX9_isWordLike_33 : decode cX9_isWordLike 33 = .ok (.invokestatic 198, 3) := by decide +kernel
theorem dX9_isWordLike_36 : decode cX9_isWordLike 36 = .ok (.ifCond .ne 5, 3) := by decide +kernel
theorem dX9_isWordLike_39 : decode cX9_isWordLike 39 = .ok (.iconst 0, 1) := by decide +kernel
theorem dX9_isWordLike_40 : decode cX9_isWordLike 40 = .ok (.ireturn, 1) := by decide +kernel
theorem dX9_isWordLike_41 : decode cX9_isWordLike 41 = .ok (.iinc 1 1, 3) := by decide +kernel
theorem dX9_isWordLike_44 : decode cX9_isWordLike 44 = .ok (.goto (-24), 3) := by decide +kernel
theorem dX9_isWordLike_47 : decode cX9_isWordLike 47 = .ok (.iconst 1, 1) := by decide +kernel
theorem dX9_isWordLike_48 : decode cX9_isWordLike 48 = .ok (.ireturn, 1) := by decide +kernel
theorem dX10_init_0 : decode cX10_init 0 = .ok (.aload_n 0, 1) := by decide +kernel
theorem dX10_init_1 : decode cX10_init 1 = .ok (.invokespecial 1, 3) := by decide +kernel
theorem dX10_init_4 : decode cX10_init 4 = .ok (.aload_n 0, 1) := by decide +kernel
theorem dX10_init_5 : decode cX10_init 5 = .ok (.sipush 373, 3) := by decide +kernel
theorem dX10_init_8 : decode cX10_init 8 = .ok (.newarray .int, 2) := by decide +kernel
theorem dX10_init_10 : decode cX10_init 10 = .ok (.putfield 7, 3) := by decide +kernel
theorem dX10_init_13 : decode cX10_init 13 = .ok (.aload_n 0, 1) := by decide +kernel
theorem dX10_init_14 : decode cX10_init 14 = .ok (.sipush 1865, 3) := by decide +kernel
theorem dX10_init_17 : decode cX10_init 17 = .ok (.newarray .int, 2) := by decide +kernel
theorem dX10_init_19 : decode cX10_init 19 = .ok (.putfield 13, 3) := by decide +kernel
theorem dX10_init_22 : decode cX10_init 22 = .ok (.aload_n 0, 1) := by decide +kernel
theorem dX10_init_23 : decode cX10_init 23 = .ok (.iconst 3, 1) := by decide +kernel
theorem dX10_init_24 : decode cX10_init 24 = .ok (.newarray .int, 2) := by decide +kernel
theorem dX10_init_26 : decode cX10_init 26 = .ok (.putfield 16, 3) := by decide +kernel
theorem dX10_init_29 : decode cX10_init 29 = .ok (.aload_n 0, 1) := by decide +kernel
theorem dX10_init_30 : decode cX10_init 30 = .ok (.bipush 30, 2) := by decide +kernel
theorem dX10_init_32 : decode cX10_init 32 = .ok (.newarray .int, 2) := by decide +kernel
theorem dX10_init_34 : decode cX10_init 34 = .ok (.putfield 19, 3) := by decide +kernel
theorem dX10_init_37 : decode cX10_init 37 = .ok (.aload_n 0, 1) := by decide +kernel
theorem dX10_init_38 : decode cX10_init 38 = .ok (.sipush 300, 3) := by decide +kernel
theorem dX10_init_41 : decode cX10_init 41 = .ok (.newarray .int, 2) := by decide +kernel
theorem dX10_init_43 : decode cX10_init 43 = .ok (.putfield 22, 3) := by decide +kernel
theorem dX10_init_46 : decode cX10_init 46 = .ok (.aload_n 0, 1) := by decide +kernel
theorem dX10_init_47 : decode cX10_init 47 = .ok (.sipush 300, 3) := by decide +kernel
theorem dX10_init_50 : decode cX10_init 50 = .ok (.newarray .int, 2) := by decide +kernel
theorem dX10_init_52 : decode cX10_init 52 = .ok (.putfield 25, 3) := by decide +kernel
theorem dX10_init_55 : decode cX10_init 55 = .ok (.aload_n 0, 1) := by decide +kernel
theorem dX10_init_56 : decode cX10_init 56 = .ok (.bipush 10, 2) := by decide +kernel
theorem dX10_init_58 : decode cX10_init 58 = .ok (.newarray .int, 2) := by decide +kernel
theorem dX10_init_60 : decode cX10_init 60 = .ok (.putfield 28, 3) := by decide +kernel
theorem dX10_init_63 : decode cX10_init 63 = .ok (.aload_n 0, 1) := by decide +kernel
theorem dX10_init_64 : decode cX10_init 64 = .ok (.bipush 10, 2) := by decide +kernel
theorem dX10_init_66 : decode cX10_init 66 = .ok (.newarray .int, 2) := by decide +kernel
theorem dX10_init_68 : decode cX10_init 68 = .ok (.putfield 31, 3) := by decide +kernel
theorem dX10_init_71 : decode cX10_init 71 = .ok (.aload_n 0, 1) := by decide +kernel
theorem dX10_init_72 : decode cX10_init 72 = .ok (.bipush 10, 2) := by decide +kernel
theorem dX10_init_74 : decode cX10_init 74 = .ok (.newarray .int, 2) := by decide +kernel
theorem dX10_init_76 : decode cX10_init 76 = .ok (.putfield 34, 3) := by decide +kernel
theorem dX10_init_79 : decode cX10_init 79 = .ok (.return_, 1) := by decide +kernel
theorem dX10_in_0 : decode cX10_in 0 = .ok (.iload_n 0, 1) := by decide +kernel
theorem dX10_in_1 : decode cX10_in 1 = .ok (.iload_n 1, 1) := by decide +kernel
theorem dX10_in_2 : decode cX10_in 2 = .ok (.if_icmp .lt 12, 3) := by decide +kernel
theorem dX10_in_5 : decode cX10_in 5 = .ok (.iload_n 0, 1) := by decide +kernel
theorem dX10_in_6 : decode cX10_in 6 = .ok (.iload_n 2, 1) := by decide +kernel
theorem dX10_in_7 : decode cX10_in 7 = .ok (.if_icmp .gt 7, 3) := by decide +kernel
theorem dX10_in_10 : decode cX10_in 10 = .ok (.iconst 1, 1) := by decide +kernel
theorem dX10_in_11 : decode cX10_in 11 = .ok (.goto 4, 3) := by decide +kernel
theorem dX10_in_14 : decode cX10_in 14 = .ok (.iconst 0, 1) := by decide +kernel
theorem dX10_in_15 : decode cX10_in 15 = .ok (.ireturn, 1) := by decide +kernel
theorem dX10_refuses_0 : decode cX10_refuses 0 = .ok (.aload_n 0, 1) := by decide +kernel
theorem dX10_refuses_1 : decode cX10_refuses 1 = .ok (.getfield 16, 3) := by decide +kernel
theorem dX10_refuses_4 : decode cX10_refuses 4 = .ok (.bipush (-2), 2) := by decide +kernel
theorem dX10_refuses_6 : decode cX10_refuses 6 = .ok (.iload_n 1, 1) := by decide +kernel
theorem dX10_refuses_7 : decode cX10_refuses 7 = .ok (.isub, 1) := by decide +kernel
theorem dX10_refuses_8 : decode cX10_refuses 8 = .ok (.dup2, 1) := by decide +kernel
theorem dX10_refuses_9 : decode cX10_refuses 9 = .ok (.iaload, 1) := by decide +kernel
theorem dX10_refuses_10 : decode cX10_refuses 10 = .ok (.iconst 1, 1) := by decide +kernel
theorem dX10_refuses_11 : decode cX10_refuses 11 = .ok (.iadd, 1) := by decide +kernel
theorem dX10_refuses_12 : decode cX10_refuses 12 = .ok (.iastore, 1) := by decide +kernel
theorem dX10_refuses_13 : decode cX10_refuses 13 = .ok (.iload_n 1, 1) := by decide +kernel
theorem dX10_refuses_14 : decode cX10_refuses 14 = .ok (.ireturn, 1) := by decide +kernel
theorem dX10_remembers_0 : decode cX10_remembers 0 = .ok (.aload_n 0, 1) := by decide +kernel
theorem dX10_remembers_1 : decode cX10_remembers 1 = .ok (.getfield 37, 3) := by decide +kernel
theorem dX10_remembers_4 : decode cX10_remembers 4 = .ok (.iconst 5, 1) := by decide +kernel
theorem dX10_remembers_5 : decode cX10_remembers 5 = .ok (.if_icmp .ne 44, 3) := by decide +kernel
theorem dX10_remembers_8 : decode cX10_remembers 8 = .ok (.iconst 0, 1) := by decide +kernel
theorem dX10_remembers_9 : decode cX10_remembers 9 = .ok (.istore_n 1, 1) := by decide +kernel
theorem dX10_remembers_10 : decode cX10_remembers 10 = .ok (.iload_n 1, 1) := by decide +kernel
theorem dX10_remembers_11 : decode cX10_remembers 11 = .ok (.sipush 1492, 3) := by decide +kernel
theorem dX10_remembers_14 : decode cX10_remembers 14 = .ok (.if_icmp .ge 25, 3) := by decide +kernel
theorem dX10_remembers_17 : decode cX10_remembers 17 = .ok (.aload_n 0, 1) := by decide +kernel
theorem dX10_remembers_18 : decode cX10_remembers 18 = .ok (.getfield 13, 3) := by decide +kernel
theorem dX10_remembers_21 : decode cX10_remembers 21 = .ok (.iload_n 1, 1) := by decide +kernel
theorem dX10_remembers_22 : decode cX10_remembers 22 = .ok (.aload_n 0, 1) := by decide +kernel
theorem dX10_remembers_23 : decode cX10_remembers 23 = .ok (.getfield 13, 3) := by decide +kernel
theorem dX10_remembers_26 : decode cX10_remembers 26 = .ok (.iload_n 1, 1) := by decide +kernel
theorem dX10_remembers_27 : decode cX10_remembers 27 = .ok (.sipush 373, 3) := by decide +kernel
theorem dX10_remembers_30 : decode cX10_remembers 30 = .ok (.iadd, 1) := by decide +kernel
theorem dX10_remembers_31 : decode cX10_remembers 31 = .ok (.iaload, 1) := by decide +kernel
theorem dX10_remembers_32 : decode cX10_remembers 32 = .ok (.iastore, 1) := by decide +kernel
theorem dX10_remembers_33 : decode cX10_remembers 33 = .ok (.iinc 1 1, 3) := by decide +kernel
theorem dX10_remembers_36 : decode cX10_remembers 36 = .ok (.goto (-26), 3) := by decide +kernel
theorem dX10_remembers_39 : decode cX10_remembers 39 = .ok (.aload_n 0, 1) := by decide +kernel
theorem dX10_remembers_40 : decode cX10_remembers 40 = .ok (.dup, 1) := by decide +kernel
theorem dX10_remembers_41 : decode cX10_remembers 41 = .ok (.getfield 37, 3) := by decide +kernel
theorem dX10_remembers_44 : decode cX10_remembers 44 = .ok (.iconst 1, 1) := by decide +kernel
theorem dX10_remembers_45 : decode cX10_remembers 45 = .ok (.isub, 1) := by decide +kernel
theorem dX10_remembers_46 : decode cX10_remembers 46 = .ok (.putfield 37, 3) := by decide +kernel
theorem dX10_remembers_49 : decode cX10_remembers 49 = .ok (.iconst 0, 1) := by decide +kernel
theorem dX10_remembers_50 : decode cX10_remembers 50 = .ok (.istore_n 1, 1) := by decide +kernel
theorem dX10_remembers_51 : decode cX10_remembers 51 = .ok (.iload_n 1, 1) := by decide +kernel
theorem dX10_remembers_52 : decode cX10_remembers 52 = .ok (.sipush 373, 3) := by decide +kernel
theorem dX10_remembers_55 : decode cX10_remembers 55 = .ok (.if_icmp .ge 30, 3) := by decide +kernel
theorem dX10_remembers_58 : decode cX10_remembers 58 = .ok (.aload_n 0, 1) := by decide +kernel
theorem dX10_remembers_59 : decode cX10_remembers 59 = .ok (.getfield 13, 3) := by decide +kernel
theorem dX10_remembers_62 : decode cX10_remembers 62 = .ok (.sipush 373, 3) := by decide +kernel
theorem dX10_remembers_65 : decode cX10_remembers 65 = .ok (.aload_n 0, 1) := by decide +kernel
theorem dX10_remembers_66 : decode cX10_remembers 66 = .ok (.getfield 37, 3) := by decide +kernel
theorem dX10_remembers_69 : decode cX10_remembers 69 = .ok (.imul, 1) := by decide +kernel
theorem dX10_remembers_70 : decode cX10_remembers 70 = .ok (.iload_n 1, 1) := by decide +kernel
theorem dX10_remembers_71 : decode cX10_remembers 71 = .ok (.iadd, 1) := by decide +kernel
theorem dX10_remembers_72 : decode cX10_remembers 72 = .ok (.aload_n 0, 1) := by decide +kernel
theorem dX10_remembers_73 : decode cX10_remembers 73 = .ok (.getfield 7, 3) := by decide +kernel
theorem dX10_remembers_76 : decode cX10_remembers 76 = .ok (.iload_n 1, 1) := by decide +kernel
theorem dX10_remembers_77 : decode cX10_remembers 77 = .ok (.iaload, 1) := by decide +kernel
theorem dX10_remembers_78 : decode cX10_remembers 78 = .ok (.iastore, 1) := by decide +kernel
theorem dX10_remembers_79 : decode cX10_remembers 79 = .ok (.iinc 1 1, 3) := by decide +kernel
theorem dX10_remembers_82 : decode cX10_remembers 82 = .ok (.goto (-31), 3) := by decide +kernel
theorem dX10_remembers_85 : decode cX10_remembers 85 = .ok (.aload_n 0, 1) := by decide +kernel
theorem dX10_remembers_86 : decode cX10_remembers 86 = .ok (.dup, 1) := by decide +kernel
theorem dX10_remembers_87 : decode cX10_remembers 87 = .ok (.getfield 37, 3) := by decide +kernel
theorem dX10_remembers_90 : decode cX10_remembers 90 = .ok (.iconst 1, 1) := by decide +kernel
theorem dX10_remembers_91 : decode cX10_remembers 91 = .ok (.iadd, 1) := by decide +kernel
theorem dX10_remembers_92 : decode cX10_remembers 92 = .ok (.putfield 37, 3) := by decide +kernel
theorem dX10_remembers_95 : decode cX10_remembers 95 = .ok (.iconst 0, 1) := by decide +kernel
theorem dX10_remembers_96 : decode cX10_remembers 96 = .ok (.istore_n 1, 1) := by decide +kernel
theorem dX10_remembers_97 : decode cX10_remembers 97 = .ok (.iload_n 1, 1) := by decide +kernel
theorem dX10_remembers_98 : decode cX10_remembers 98 = .ok (.bipush 10, 2) := by decide +kernel
theorem dX10_remembers_100 : decode cX10_remembers 100 = .ok (.if_icmp .ge 28, 3) := by decide +kernel
theorem dX10_remembers_103 : decode cX10_remembers 103 = .ok (.aload_n 0, 1) := by decide +kernel
theorem dX10_remembers_104 : decode cX10_remembers 104 = .ok (.getfield 31, 3) := by decide +kernel
theorem dX10_remembers_107 : decode cX10_remembers 107 = .ok (.iload_n 1, 1) := by decide +kernel
theorem dX10_remembers_108 : decode cX10_remembers 108 = .ok (.aload_n 0, 1) := by decide +kernel
theorem dX10_remembers_109 : decode cX10_remembers 109 = .ok (.getfield 28, 3) := by decide +kernel
theorem dX10_remembers_112 : decode cX10_remembers 112 = .ok (.iload_n 1, 1) := by decide +kernel
theorem dX10_remembers_113 : decode cX10_remembers 113 = .ok (.iaload, 1) := by decide +kernel
theorem dX10_remembers_114 : decode cX10_remembers 114 = .ok (.iastore, 1) := by decide +kernel
theorem dX10_remembers_115 : decode cX10_remembers 115 = .ok (.aload_n 0, 1) := by decide +kernel
theorem dX10_remembers_116 : decode cX10_remembers 116 = .ok (.getfield 34, 3) := by decide +kernel
theorem dX10_remembers_119 : decode cX10_remembers 119 = .ok (.iload_n 1, 1) := by decide +kernel
theorem dX10_remembers_120 : decode cX10_remembers 120 = .ok (.iload_n 1, 1) := by decide +kernel
theorem dX10_remembers_121 : decode cX10_remembers 121 = .ok (.iastore, 1) := by decide +kernel
theorem dX10_remembers_122 : decode cX10_remembers 122 = .ok (.iinc 1 1, 3) := by decide +kernel
theorem dX10_remembers_125 : decode cX10_remembers 125 = .ok (.goto (-28), 3) := by decide +kernel
theorem dX10_remembers_128 : decode cX10_remembers 128 = .ok (.return_, 1) := by decide +kernel
theorem dX10_top_0 : decode cX10_top 0 = .ok (.aload_n 0, 1) := by decide +kernel
theorem dX10_top_1 : decode cX10_top 1 = .ok (.getfield 41, 3) := by decide +kernel
theorem dX10_top_4 : decode cX10_top 4 = .ok (.iconst 2, 1) := by decide +kernel
theorem dX10_top_5 : decode cX10_top 5 = .ok (.aload_n 0, 1) := by decide +kernel
theorem dX10_top_6 : decode cX10_top 6 = .ok (.getfield 44, 3) := by decide +kernel
theorem dX10_top_9 : decode cX10_top 9 = .ok (.iconst 1, 1) := by decide +kernel
theorem dX10_top_10 : decode cX10_top 10 = .ok (.isub, 1) := by decide +kernel
theorem dX10_top_11 : decode cX10_top 11 = .ok (.imul, 1) := by decide +kernel
theorem dX10_top_12 : decode cX10_top 12 = .ok (.ishr, 1) := by decide +kernel
theorem dX10_top_13 : decode cX10_top 13 = .ok (.iconst 3, 1) := by decide +kernel
theorem dX10_top_14 : decode cX10_top 14 = .ok (.iand, 1) := by decide +kernel
theorem dX10_top_15 : decode cX10_top 15 = .ok (.ireturn, 1) := by decide +kernel
theorem dX10_comesOn_0 : decode cX10_comesOn 0 = .ok (.aload_n 0, 1) := by decide +kernel
theorem dX10_comesOn_1 : decode cX10_comesOn 1 = .ok (.getfield 44, 3) := by decide +kernel
theorem dX10_comesOn_4 : decode cX10_comesOn 4 = .ok (.bipush 6, 2) := by decide +kernel
theorem dX10_comesOn_6 : decode cX10_comesOn 6 = .ok (.if_icmp .ne 5, 3) := by decide +kernel
theorem dX10_comesOn_9 : decode cX10_comesOn 9 = .ok (.iconst 0, 1) := by decide +kernel
theorem dX10_comesOn_10 : decode cX10_comesOn 10 = .ok (.ireturn, 1) := by decide +kernel
theorem dX10_comesOn_11 : decode cX10_comesOn 11 = .ok (.aload_n 0, 1) := by decide +kernel
theorem dX10_comesOn_12 : decode cX10_comesOn 12 = .ok (.dup, 1) := by decide +kernel
theorem dX10_comesOn_13 : decode cX10_comesOn 13 = .ok (.getfield 41, 3) := by decide +kernel
theorem dX10_comesOn_16 : decode cX10_comesOn 16 = .ok (.iload_n 1, 1) := by decide +kernel
theorem dX10_comesOn_17 : decode cX10_comesOn 17 = .ok (.iconst 2, 1) := by decide +kernel
theorem dX10_comesOn_18 : decode cX10_comesOn 18 = .ok (.aload_n 0, 1) := by decide +kernel
theorem dX10_comesOn_19 : decode cX10_comesOn 19 = .ok (.getfield 44, 3) := by decide +kernel
theorem dX10_comesOn_22 : decode cX10_comesOn 22 = .ok (.imul, 1) := by decide +kernel
theorem dX10_comesOn_23 : decode cX10_comesOn 23 = .ok (.ishl, 1) := by decide +kernel
theorem dX10_comesOn_24 : decode cX10_comesOn 24 = .ok (.ior, 1) := by decide +kernel
theorem dX10_comesOn_25 : decode cX10_comesOn 25 = .ok (.putfield 41, 3) := by decide +kernel
theorem dX10_comesOn_28 : decode cX10_comesOn 28 = .ok (.aload_n 0, 1) := by decide +kernel
theorem dX10_comesOn_29 : decode cX10_comesOn 29 = .ok (.dup, 1) := by decide +kernel
theorem dX10_comesOn_30 : decode cX10_comesOn 30 = .ok (.getfield 44, 3) := by decide +kernel
theorem dX10_comesOn_33 : decode cX10_comesOn 33 = .ok (.iconst 1, 1) := by decide +kernel
theorem dX10_comesOn_34 : decode cX10_comesOn 34 = .ok (.iadd, 1) := by decide +kernel
theorem dX10_comesOn_35 : decode cX10_comesOn 35 = .ok (.putfield 44, 3) := by decide +kernel
theorem dX10_comesOn_38 : decode cX10_comesOn 38 = .ok (.iconst 1, 1) := by decide +kernel
theorem dX10_comesOn_39 : decode cX10_comesOn 39 = .ok (.ireturn, 1) := by decide +kernel
theorem dX10_goesOff_0 : decode cX10_goesOff 0 = .ok (.aload_n 0, 1) := by decide +kernel
theorem dX10_goesOff_1 : decode cX10_goesOff 1 = .ok (.dup, 1) := by decide +kernel
theorem dX10_goesOff_2 : decode cX10_goesOff 2 = .ok (.getfield 44, 3) := by decide +kernel
theorem dX10_goesOff_5 : decode cX10_goesOff 5 = .ok (.iconst 1, 1) := by decide +kernel
theorem dX10_goesOff_6 : decode cX10_goesOff 6 = .ok (.isub, 1) := by decide +kernel
theorem dX10_goesOff_7 : decode cX10_goesOff 7 = .ok (.putfield 44, 3) := by decide +kernel
theorem dX10_goesOff_10 : decode cX10_goesOff 10 = .ok (.aload_n 0, 1) := by decide +kernel
theorem dX10_goesOff_11 : decode cX10_goesOff 11 = .ok (.dup, 1) := by decide +kernel
theorem dX10_goesOff_12 : decode cX10_goesOff 12 = .ok (.getfield 41, 3) := by decide +kernel
theorem dX10_goesOff_15 : decode cX10_goesOff 15 = .ok (.iconst 1, 1) := by decide +kernel
theorem dX10_goesOff_16 : decode cX10_goesOff 16 = .ok (.iconst 2, 1) := by decide +kernel
theorem dX10_goesOff_17 : decode cX10_goesOff 17 = .ok (.aload_n 0, 1) := by decide +kernel
theorem dX10_goesOff_18 : decode cX10_goesOff 18 = .ok (.getfield 44, 3) := by decide +kernel
theorem dX10_goesOff_21 : decode cX10_goesOff 21 = .ok (.imul, 1) := by decide +kernel
theorem dX10_goesOff_22 : decode cX10_goesOff 22 = .ok (.ishl, 1) := by decide +kernel
theorem dX10_goesOff_23 : decode cX10_goesOff 23 = .ok (.iconst 1, 1) := by decide +kernel
theorem dX10_goesOff_24 : decode cX10_goesOff 24 = .ok (.isub, 1) := by decide +kernel
theorem dX10_goesOff_25 : decode cX10_goesOff 25 = .ok (.iand, 1) := by decide +kernel
theorem dX10_goesOff_26 : decode cX10_goesOff 26 = .ok (.putfield 41, 3) := by decide +kernel
theorem dX10_goesOff_29 : decode cX10_goesOff 29 = .ok (.return_, 1) := by decide +kernel
theorem dX10_standing_0 : decode cX10_standing 0 = .ok (.aload_n 0, 1) := by decide +kernel
theorem dX10_standing_1 : decode cX10_standing 1 = .ok (.getfield 47, 3) := by decide +kernel
theorem dX10_standing_4 : decode cX10_standing 4 = .ok (.bipush 16, 2) := by decide +kernel
theorem dX10_standing_6 : decode cX10_standing 6 = .ok (.ishl, 1) := by decide +kernel
theorem dX10_standing_7 : decode cX10_standing 7 = .ok (.aload_n 0, 1) := by decide +kernel
theorem dX10_standing_8 : decode cX10_standing 8 = .ok (.getfield 44, 3) := by decide +kernel
theorem dX10_standing_11 : decode cX10_standing 11 = .ok (.bipush 12, 2) := by decide +kernel
theorem dX10_standing_13 : decode cX10_standing 13 = .ok (.ishl, 1) := by decide +kernel
theorem dX10_standing_14 : decode cX10_standing 14 = .ok (.ior, 1) := by decide +kernel
theorem dX10_standing_15 : decode cX10_standing 15 = .ok (.aload_n 0, 1) := by decide +kernel
theorem dX10_standing_16 : decode cX10_standing 16 = .ok (.getfield 41, 3) := by decide +kernel
theorem dX10_standing_19 : decode cX10_standing 19 = .ok (.ior, 1) := by decide +kernel
theorem dX10_standing_20 : decode cX10_standing 20 = .ok (.ireturn, 1) := by decide +kernel
theorem dX10_manyOf_0 : decode cX10_manyOf 0 = .ok (.iload_n 0, 1) := by decide +kernel
theorem dX10_manyOf_1 : decode cX10_manyOf 1 = .ok (.bipush 12, 2) := by decide +kernel
theorem dX10_manyOf_3 : decode cX10_manyOf 3 = .ok (.ishr, 1) := by decide +kernel
theorem dX10_manyOf_4 : decode cX10_manyOf 4 = .ok (.bipush 15, 2) := by decide +kernel
theorem dX10_manyOf_6 : decode cX10_manyOf 6 = .ok (.iand, 1) := by decide +kernel
theorem dX10_manyOf_7 : decode cX10_manyOf 7 = .ok (.ireturn, 1) := by decide +kernel
theorem dX10_topOf_0 : decode cX10_topOf 0 = .ok (.iload_n 0, 1) := by decide +kernel
theorem dX10_topOf_1 : decode cX10_topOf 1 = .ok (.sipush 4095, 3) := by decide +kernel
theorem dX10_topOf_4 : decode cX10_topOf 4 = .ok (.iand, 1) := by decide +kernel
theorem dX10_topOf_5 : decode cX10_topOf 5 = .ok (.iconst 2, 1) := by decide +kernel
theorem dX10_topOf_6 : decode cX10_topOf 6 = .ok (.iload_n 0, 1) := by decide +kernel
theorem dX10_topOf_7 : decode cX10_topOf 7 = .ok (.invokestatic 50, 3) := by decide +kernel
theorem dX10_topOf_10 : decode cX10_topOf 10 = .ok (.iconst 1, 1) := by decide +kernel
theorem dX10_topOf_11 : decode cX10_topOf 11 = .ok (.isub, 1) := by decide +kernel
theorem dX10_topOf_12 : decode cX10_topOf 12 = .ok (.imul, 1) := by decide +kernel
theorem dX10_topOf_13 : decode cX10_topOf 13 = .ok (.ishr, 1) := by decide +kernel
theorem dX10_topOf_14 : decode cX10_topOf 14 = .ok (.iconst 3, 1) := by decide +kernel
theorem dX10_topOf_15 : decode cX10_topOf 15 = .ok (.iand, 1) := by decide +kernel
theorem dX10_topOf_16 : decode cX10_topOf 16 = .ok (.ireturn, 1) := by decide +kernel
theorem dX10_modeOf_0 : decode cX10_modeOf 0 = .ok (.iload_n 0, 1) := by decide +kernel
theorem dX10_modeOf_1 : decode cX10_modeOf 1 = .ok (.ifCond .ne 7, 3) := by decide +kernel
theorem dX10_modeOf_4 : decode cX10_modeOf 4 = .ok (.iconst 0, 1) := by decide +kernel
theorem dX10_modeOf_5 : decode cX10_modeOf 5 = .ok (.goto 13, 3) := by decide +kernel
theorem dX10_modeOf_8 : decode cX10_modeOf 8 = .ok (.iload_n 0, 1) := by decide +kernel
theorem dX10_modeOf_9 : decode cX10_modeOf 9 = .ok (.iconst 3, 1) := by decide +kernel
theorem dX10_modeOf_10 : decode cX10_modeOf 10 = .ok (.if_icmp .ne 7, 3) := by decide +kernel
theorem dX10_modeOf_13 : decode cX10_modeOf 13 = .ok (.iconst 2, 1) := by decide +kernel
theorem dX10_modeOf_14 : decode cX10_modeOf 14 = .ok (.goto 4, 3) := by decide +kernel
theorem dX10_modeOf_17 : decode cX10_modeOf 17 = .ok (.iconst 1, 1) := by decide +kernel
theorem dX10_modeOf_18 : decode cX10_modeOf 18 = .ok (.ireturn, 1) := by decide +kernel
theorem dX10_byteAt_0 : decode cX10_byteAt 0 = .ok (.iload_n 1, 1) := by decide +kernel
theorem dX10_byteAt_1 : decode cX10_byteAt 1 = .ok (.aload_n 0, 1) := by decide +kernel
theorem dX10_byteAt_2 : decode cX10_byteAt 2 = .ok (.getfield 7, 3) := by decide +kernel
theorem dX10_byteAt_5 : decode cX10_byteAt 5 = .ok (.iconst 3, 1) := by decide +kernel
theorem dX10_byteAt_6 : decode cX10_byteAt 6 = .ok (.aload_n 0, 1) := by decide +kernel
theorem dX10_byteAt_7 : decode cX10_byteAt 7 = .ok (.getfield 54, 3) := by decide +kernel
theorem dX10_byteAt_10 : decode cX10_byteAt 10 = .ok (.iadd, 1) := by decide +kernel
theorem dX10_byteAt_11 : decode cX10_byteAt 11 = .ok (.iaload, 1) := by decide +kernel
theorem dX10_byteAt_12 : decode cX10_byteAt 12 = .ok (.if_icmp .ge 23, 3) := by decide +kernel
theorem dX10_byteAt_15 : decode cX10_byteAt 15 = .ok (.aload_n 0, 1) := by decide +kernel
theorem dX10_byteAt_16 : decode cX10_byteAt 16 = .ok (.getfield 7, 3) := by decide +kernel
theorem dX10_byteAt_19 : decode cX10_byteAt 19 = .ok (.bipush 13, 2) := by decide +kernel
theorem dX10_byteAt_21 : decode cX10_byteAt 21 = .ok (.bipush 30, 2) := by decide +kernel
theorem dX10_byteAt_23 : decode cX10_byteAt 23 = .ok (.aload_n 0, 1) := by decide +kernel
theorem dX10_byteAt_24 : decode cX10_byteAt 24 = .ok (.getfield 54, 3) := by decide +kernel
theorem dX10_byteAt_27 : decode cX10_byteAt 27 = .ok (.imul, 1) := by decide +kernel
theorem dX10_byteAt_28 : decode cX10_byteAt 28 = .ok (.iadd, 1) := by decide +kernel
theorem dX10_byteAt_29 : decode cX10_byteAt 29 = .ok (.iload_n 1, 1) := by decide +kernel
theorem dX10_byteAt_30 : decode cX10_byteAt 30 = .ok (.iadd, 1) := by decide +kernel
theorem dX10_byteAt_31 : decode cX10_byteAt 31 = .ok (.iaload, 1) := by decide +kernel
theorem dX10_byteAt_32 : decode cX10_byteAt 32 = .ok (.goto 4, 3) := by decide +kernel
theorem dX10_byteAt_35 : decode cX10_byteAt 35 = .ok (.iconst 0, 1) := by decide +kernel
theorem dX10_byteAt_36 : decode cX10_byteAt 36 = .ok (.ireturn, 1) := by decide +kernel
theorem dX10_isLetter_0 : decode cX10_isLetter 0 = .ok (.iload_n 0, 1) := by decide +kernel
theorem dX10_isLetter_1 : decode cX10_isLetter 1 = .ok (.bipush 97, 2) := by decide +kernel
theorem dX10_isLetter_3 : decode cX10_isLetter 3 = .ok (.bipush 122, 2) := by decide +kernel
theorem dX10_isLetter_5 : decode cX10_isLetter 5 = .ok (.invokestatic 57, 3) := by decide +kernel
theorem dX10_isLetter_8 : decode cX10_isLetter 8 = .ok (.ireturn, 1) := by decide +kernel
theorem dX10_isFigure_0 : decode cX10_isFigure 0 = .ok (.iload_n 0, 1) := by decide +kernel
theorem dX10_isFigure_1 : decode cX10_isFigure 1 = .ok (.bipush 48, 2) := by decide +kernel
theorem dX10_isFigure_3 : decode cX10_isFigure 3 = .ok (.bipush 57, 2) := by decide +kernel
theorem dX10_isFigure_5 : decode cX10_isFigure 5 = .ok (.invokestatic 57, 3) := by decide +kernel
theorem dX10_isFigure_8 : decode cX10_isFigure 8 = .ok (.ireturn, 1) := by decide +kernel
theorem dX10_colour_0 : decode cX10_colour 0 = .ok (.iconst 0, 1) := by decide +kernel
theorem dX10_colour_1 : decode cX10_colour 1 = .ok (.istore_n 3, 1) := by decide +kernel
theorem dX10_colour_2 : decode cX10_colour 2 = .ok (.iload_n 3, 1) := by decide +kernel
theorem dX10_colour_3 : decode cX10_colour 3 = .ok (.iload_n 1, 1) := by decide +kernel
theorem dX10_colour_4 : decode cX10_colour 4 = .ok (.if_icmp .ge 61, 3) := by decide +kernel
theorem dX10_colour_7 : decode cX10_colour 7 = .ok (.aload_n 0, 1) := by decide +kernel
theorem dX10_colour_8 : decode cX10_colour 8 = .ok (.getfield 22, 3) := by decide +kernel
theorem dX10_colour_11 : decode cX10_colour 11 = .ok (.bipush 30, 2) := by decide +kernel
theorem dX10_colour_13 : decode cX10_colour 13 = .ok (.aload_n 0, 1) := by decide +kernel
theorem dX10_colour_14 : decode cX10_colour 14 = .ok (.getfield 54, 3) := by decide +kernel
theorem dX10_colour_17 : decode cX10_colour 17 = .ok (.imul, 1) := by decide +kernel
theorem dX10_colour_18 : decode cX10_colour 18 = .ok (.aload_n 0, 1) := by decide +kernel
theorem dX10_colour_19 : decode cX10_colour 19 = .ok (.getfield 61, 3) := by decide +kernel
theorem dX10_colour_22 : decode cX10_colour 22 = .ok (.iadd, 1) := by decide +kernel
theorem dX10_colour_23 : decode cX10_colour 23 = .ok (.iload_n 2, 1) := by decide +kernel
theorem dX10_colour_24 : decode cX10_colour 24 = .ok (.iastore, 1) := by decide +kernel
theorem dX10_colour_25 : decode cX10_colour 25 = .ok (.aload_n 0, 1) := by decide +kernel
theorem dX10_colour_26 : decode cX10_colour 26 = .ok (.getfield 25, 3) := by decide +kernel
theorem dX10_colour_29 : decode cX10_colour 29 = .ok (.bipush 30, 2) := by decide +kernel
theorem dX10_colour_31 : decode cX10_colour 31 = .ok (.aload_n 0, 1) := by decide +kernel
theorem dX10_colour_32 : decode cX10_colour 32 = .ok (.getfield 54, 3) := by decide +kernel
theorem dX10_colour_35 : decode cX10_colour 35 = .ok (.imul, 1) := by decide +kernel
theorem dX10_colour_36 : decode cX10_colour 36 = .ok (.aload_n 0, 1) := by decide +kernel
theorem dX10_colour_37 : decode cX10_colour 37 = .ok (.getfield 61, 3) := by decide +kernel
theorem dX10_colour_40 : decode cX10_colour 40 = .ok (.iadd, 1) := by decide +kernel
theorem dX10_colour_41 : decode cX10_colour 41 = .ok (.aload_n 0, 1) := by decide +kernel
theorem dX10_colour_42 : decode cX10_colour 42 = .ok (.invokevirtual 64, 3) := by decide +kernel
theorem dX10_colour_45 : decode cX10_colour 45 = .ok (.invokestatic 68, 3) := by decide +kernel
theorem dX10_colour_48 : decode cX10_colour 48 = .ok (.iastore, 1) := by decide +kernel
theorem dX10_colour_49 : decode cX10_colour 49 = .ok (.aload_n 0, 1) := by decide +kernel
theorem dX10_colour_50 : decode cX10_colour 50 = .ok (.dup, 1) := by decide +kernel
theorem dX10_colour_51 : decode cX10_colour 51 = .ok (.getfield 61, 3) := by decide +kernel
theorem dX10_colour_54 : decode cX10_colour 54 = .ok (.iconst 1, 1) := by decide +kernel
theorem dX10_colour_55 : decode cX10_colour 55 = .ok (.iadd, 1) := by decide +kernel
theorem dX10_colour_56 : decode cX10_colour 56 = .ok (.putfield 61, 3) := by decide +kernel
theorem dX10_colour_59 : decode cX10_colour 59 = .ok (.iinc 3 1, 3) := by decide +kernel
theorem dX10_colour_62 : decode cX10_colour 62 = .ok (.goto (-60), 3) := by decide +kernel
theorem dX10_colour_65 : decode cX10_colour 65 = .ok (.return_, 1) := by decide +kernel
theorem dX10_pushes_0 : decode cX10_pushes 0 = .ok (.aload_n 0, 1) := by decide +kernel
theorem dX10_pushes_1 : decode cX10_pushes 1 = .ok (.getfield 44, 3) := by decide +kernel
theorem dX10_pushes_4 : decode cX10_pushes 4 = .ok (.bipush 6, 2) := by decide +kernel
theorem dX10_pushes_6 : decode cX10_pushes 6 = .ok (.if_icmp .ge 7, 3) := by decide +kernel
theorem dX10_pushes_9 : decode cX10_pushes 9 = .ok (.iconst 1, 1) := by decide +kernel
theorem dX10_pushes_10 : decode cX10_pushes 10 = .ok (.goto 4, 3) := by decide +kernel
theorem dX10_pushes_13 : decode cX10_pushes 13 = .ok (.iconst 0, 1) := by decide +kernel
theorem dX10_pushes_14 : decode cX10_pushes 14 = .ok (.istore_n 3, 1) := by decide +kernel
theorem dX10_pushes_15 : decode cX10_pushes 15 = .ok (.aload_n 0, 1) := by decide +kernel
theorem dX10_pushes_16 : decode cX10_pushes 16 = .ok (.iconst 1, 1) := by decide +kernel
theorem dX10_pushes_17 : decode cX10_pushes 17 = .ok (.iload_n 3, 1) := by decide +kernel
theorem dX10_pushes_18 : decode cX10_pushes 18 = .ok (.ifCond .eq 7, 3) := by decide +kernel
theorem dX10_pushes_21 : decode cX10_pushes 21 = .ok (.iload_n 2, 1) := by decide +kernel
theorem dX10_pushes_22 : decode cX10_pushes 22 = .ok (.goto 5, 3) := by decide +kernel
theorem dX10_pushes_25 : decode cX10_pushes 25 = .ok (.bipush 6, 2) := by decide +kernel
theorem dX10_pushes_27 : decode cX10_pushes 27 = .ok (.invokevirtual 71, 3) := by decide +kernel
theorem dX10_pushes_30 : decode cX10_pushes 30 = .ok (.iload_n 3, 1) := by decide +kernel
theorem dX10_pushes_31 : decode cX10_pushes 31 = .ok (.ifCond .eq 15, 3) := by decide +kernel
theorem dX10_pushes_34 : decode cX10_pushes 34 = .ok (.aload_n 0, 1) := by decide +kernel
theorem dX10_pushes_35 : decode cX10_pushes 35 = .ok (.iload_n 1, 1) := by decide +kernel
theorem dX10_pushes_36 : decode cX10_pushes 36 = .ok (.invokevirtual 75, 3) := by decide +kernel
theorem dX10_pushes_39 : decode cX10_pushes 39 = .ok (.ifCond .eq 7, 3) := by decide +kernel
theorem dX10_pushes_42 : decode cX10_pushes 42 = .ok (.iconst 1, 1) := by decide +kernel
theorem dX10_pushes_43 : decode cX10_pushes 43 = .ok (.goto 4, 3) := by decide +kernel
theorem dX10_pushes_46 : decode cX10_pushes 46 = .ok (.iconst 0, 1) := by decide +kernel
theorem dX10_pushes_47 : decode cX10_pushes 47 = .ok (.istore 4, 2) := by decide +kernel
theorem dX10_pushes_49 : decode cX10_pushes 49 = .ok (.return_, 1) := by decide +kernel
theorem dX10_isWord_0 : decode cX10_isWord 0 = .ok (.iconst 0, 1) := by decide +kernel
theorem dX10_isWord_1 : decode cX10_isWord 1 = .ok (.istore_n 3, 1) := by decide +kernel
theorem dX10_isWord_2 : decode cX10_isWord 2 = .ok (.iconst 0, 1) := by decide +kernel
theorem dX10_isWord_3 : decode cX10_isWord 3 = .ok (.istore 4, 2) := by decide +kernel
theorem dX10_isWord_5 : decode cX10_isWord 5 = .ok (.iload 4, 2) := by decide +kernel
theorem dX10_isWord_7 : decode cX10_isWord 7 = .ok (.aload_n 0, 1) := by decide +kernel
theorem dX10_isWord_8 : decode cX10_isWord 8 = .ok (.getfield 7, 3) := by decide +kernel
theorem dX10_isWord_11 : decode cX10_isWord 11 = .ok (.iconst 1, 1) := by decide +kernel
theorem dX10_isWord_12 : decode cX10_isWord 12 = .ok (.iaload, 1) := by decide +kernel
theorem dX10_isWord_13 : decode cX10_isWord 13 = .ok (.if_icmp .ge 100, 3) := by decide +kernel
theorem dX10_isWord_16 : decode cX10_isWord 16 = .ok (.aload_n 0, 1) := by decide +kernel
theorem dX10_isWord_17 : decode cX10_isWord 17 = .ok (.getfield 7, 3) := by decide +kernel
theorem dX10_isWord_20 : decode cX10_isWord 20 = .ok (.sipush 313, 3) := by decide +kernel
theorem dX10_isWord_23 : decode cX10_isWord 23 = .ok (.iload 4, 2) := by decide +kernel
theorem dX10_isWord_25 : decode cX10_isWord 25 = .ok (.iadd, 1) := by decide +kernel
theorem dX10_isWord_26 : decode cX10_isWord 26 = .ok (.iaload, 1) := by decide +kernel
theorem dX10_isWord_27 : decode cX10_isWord 27 = .ok (.iload_n 2, 1) := by decide +kernel
theorem dX10_isWord_28 : decode cX10_isWord 28 = .ok (.if_icmp .ne 7, 3) := by decide +kernel
theorem dX10_isWord_31 : decode cX10_isWord 31 = .ok (.iconst 1, 1) := by decide +kernel
theorem dX10_isWord_32 : decode cX10_isWord 32 = .ok (.goto 4, 3) := by decide +kernel
theorem dX10_isWord_35 : decode cX10_isWord 35 = .ok (.iconst 0, 1) := by decide +kernel
theorem dX10_isWord_36 : decode cX10_isWord 36 = .ok (.istore 5, 2) := by decide +kernel
theorem dX10_isWord_38 : decode cX10_isWord 38 = .ok (.iconst 0, 1) := by decide +kernel
theorem dX10_isWord_39 : decode cX10_isWord 39 = .ok (.istore 6, 2) := by decide +kernel
theorem dX10_isWord_41 : decode cX10_isWord 41 = .ok (.iload 6, 2) := by decide +kernel
theorem dX10_isWord_43 : decode cX10_isWord 43 = .ok (.iload_n 2, 1) := by decide +kernel
theorem dX10_isWord_44 : decode cX10_isWord 44 = .ok (.if_icmp .ge 48, 3) := by decide +kernel
theorem dX10_isWord_47 : decode cX10_isWord 47 = .ok (.iload 5, 2) := by decide +kernel
theorem dX10_isWord_49 : decode cX10_isWord 49 = .ok (.ifCond .eq 43, 3) := by decide +kernel
theorem dX10_isWord_52 : decode cX10_isWord 52 = .ok (.aload_n 0, 1) := by decide +kernel
theorem dX10_isWord_53 : decode cX10_isWord 53 = .ok (.getfield 7, 3) := by decide +kernel
theorem dX10_isWord_56 : decode cX10_isWord 56 = .ok (.sipush 317, 3) := by decide +kernel
theorem dX10_isWord_59 : decode cX10_isWord 59 = .ok (.iconst 5, 1) := by decide +kernel
theorem dX10_isWord_60 : decode cX10_isWord 60 = .ok (.iload 4, 2) := by decide +kernel
theorem dX10_isWord_62 : decode cX10_isWord 62 = .ok (.imul, 1) := by decide +kernel
theorem dX10_isWord_63 : decode cX10_isWord 63 = .ok (.iadd, 1) := by decide +kernel
theorem dX10_isWord_64 : decode cX10_isWord 64 = .ok (.iload 6, 2) := by decide +kernel
theorem dX10_isWord_66 : decode cX10_isWord 66 = .ok (.iadd, 1) := by decide +kernel
theorem dX10_isWord_67 : decode cX10_isWord 67 = .ok (.iaload, 1) := by decide +kernel
theorem dX10_isWord_68 : decode cX10_isWord 68 = .ok (.aload_n 0, 1) := by decide +kernel
theorem dX10_isWord_69 : decode cX10_isWord 69 = .ok (.iload_n 1, 1) := by decide +kernel
theorem dX10_isWord_70 : decode cX10_isWord 70 = .ok (.iload 6, 2) := by decide +kernel
theorem dX10_isWord_72 : decode cX10_isWord 72 = .ok (.iadd, 1) := by decide +kernel
theorem dX10_isWord_73 : decode cX10_isWord 73 = .ok (.invokevirtual 79, 3) := by decide +kernel
theorem dX10_isWord_76 : decode cX10_isWord 76 = .ok (.if_icmp .ne 7, 3) := by decide +kernel
theorem dX10_isWord_79 : decode cX10_isWord 79 = .ok (.iconst 1, 1) := by decide +kernel
theorem dX10_isWord_80 : decode cX10_isWord 80 = .ok (.goto 4, 3) := by decide +kernel
theorem dX10_isWord_83 : decode cX10_isWord 83 = .ok (.iconst 0, 1) := by decide +kernel
theorem dX10_isWord_84 : decode cX10_isWord 84 = .ok (.istore 5, 2) := by decide +kernel
theorem dX10_isWord_86 : decode cX10_isWord 86 = .ok (.iinc 6 1, 3) := by decide +kernel
theorem dX10_isWord_89 : decode cX10_isWord 89 = .ok (.goto (-48), 3) := by decide +kernel
theorem dX10_isWord_92 : decode cX10_isWord 92 = .ok (.iload_n 3, 1) := by decide +kernel
theorem dX10_isWord_93 : decode cX10_isWord 93 = .ok (.ifCond .ne 8, 3) := by decide +kernel
theorem dX10_isWord_96 : decode cX10_isWord 96 = .ok (.iload 5, 2) := by decide +kernel
theorem dX10_isWord_98 : decode cX10_isWord 98 = .ok (.ifCond .eq 7, 3) := by decide +kernel
theorem dX10_isWord_101 : decode cX10_isWord 101 = .ok (.iconst 1, 1) := by decide +kernel
theorem dX10_isWord_102 : decode cX10_isWord 102 = .ok (.goto 4, 3) := by decide +kernel
theorem dX10_isWord_105 : decode cX10_isWord 105 = .ok (.iconst 0, 1) := by decide +kernel
theorem dX10_isWord_106 : decode cX10_isWord 106 = .ok (.istore_n 3, 1) := by decide +kernel
theorem dX10_isWord_107 : decode cX10_isWord 107 = .ok (.iinc 4 1, 3) := by decide +kernel
theorem dX10_isWord_110 : decode cX10_isWord 110 = .ok (.goto (-105), 3) := by decide +kernel
theorem dX10_isWord_113 : decode cX10_isWord 113 = .ok (.iload_n 3, 1) := by decide +kernel
theorem dX10_isWord_114 : decode cX10_isWord 114 = .ok (.ireturn, 1) := by decide +kernel
theorem dX10_letters_0 : decode cX10_letters 0 = .ok (.iconst 0, 1) := by decide +kernel
theorem dX10_letters_1 : decode cX10_letters 1 = .ok (.istore_n 1, 1) := by decide +kernel
theorem dX10_letters_2 : decode cX10_letters 2 = .ok (.aload_n 0, 1) := by decide +kernel
theorem dX10_letters_3 : decode cX10_letters 3 = .ok (.aload_n 0, 1) := by decide +kernel
theorem dX10_letters_4 : decode cX10_letters 4 = .ok (.getfield 61, 3) := by decide +kernel
theorem dX10_letters_7 : decode cX10_letters 7 = .ok (.iload_n 1, 1) := by decide +kernel
theorem dX10_letters_8 : decode cX10_letters 8 = .ok (.iadd, 1) := by decide +kernel
theorem dX10_letters_9 : decode cX10_letters 9 = .ok (.invokevirtual 79, 3) := by decide +kernel
theorem dX10_letters_12 : decode cX10_letters 12 = .ok (.invokestatic 82, 3) := by decide +kernel
theorem dX10_letters_15 : decode cX10_letters 15 = .ok (.ifCond .eq 9, 3) := by decide +kernel
theorem dX10_letters_18 : decode cX10_letters 18 = .ok (.iinc 1 1, 3) := by decide +kernel
theorem dX10_letters_21 : decode cX10_letters 21 = .ok (.goto (-19), 3) := by decide +kernel
theorem dX10_letters_24 : decode cX10_letters 24 = .ok (.iload_n 1, 1) := by decide +kernel
theorem dX10_letters_25 : decode cX10_letters 25 = .ok (.ireturn, 1) := by decide +kernel
theorem dX10_figures_0 : decode cX10_figures 0 = .ok (.iconst 0, 1) := by decide +kernel
theorem dX10_figures_1 : decode cX10_figures 1 = .ok (.istore_n 1, 1) := by decide +kernel
theorem dX10_figures_2 : decode cX10_figures 2 = .ok (.aload_n 0, 1) := by decide +kernel
theorem dX10_figures_3 : decode cX10_figures 3 = .ok (.aload_n 0, 1) := by decide +kernel
theorem dX10_figures_4 : decode cX10_figures 4 = .ok (.getfield 61, 3) := by decide +kernel
theorem dX10_figures_7 : decode cX10_figures 7 = .ok (.iload_n 1, 1) := by decide +kernel
theorem dX10_figures_8 : decode cX10_figures 8 = .ok (.iadd, 1) := by decide +kernel
theorem dX10_figures_9 : decode cX10_figures 9 = .ok (.invokevirtual 79, 3) := by decide +kernel
theorem dX10_figures_12 : decode cX10_figures 12 = .ok (.invokestatic 85, 3) := by decide +kernel
theorem dX10_figures_15 : decode cX10_figures 15 = .ok (.ifCond .eq 9, 3) := by decide +kernel
theorem dX10_figures_18 : decode cX10_figures 18 = .ok (.iinc 1 1, 3) := by decide +kernel
theorem dX10_figures_21 : decode cX10_figures 21 = .ok (.goto (-19), 3) := by decide +kernel
theorem dX10_figures_24 : decode cX10_figures 24 = .ok (.iload_n 1, 1) := by decide +kernel
theorem dX10_figures_25 : decode cX10_figures 25 = .ok (.ireturn, 1) := by decide +kernel
theorem dX10_paintsCode_0 : decode cX10_paintsCode 0 = .ok (.aload_n 0, 1) := by decide +kernel
theorem dX10_paintsCode_1 : decode cX10_paintsCode 1 = .ok (.aload_n 0, 1) := by decide +kernel
theorem dX10_paintsCode_2 : decode cX10_paintsCode 2 = .ok (.getfield 61, 3) := by decide +kernel
theorem dX10_paintsCode_5 : decode cX10_paintsCode 5 = .ok (.invokevirtual 79, 3) := by decide +kernel
theorem dX10_paintsCode_8 : decode cX10_paintsCode 8 = .ok (.istore_n 2, 1) := by decide +kernel
theorem dX10_paintsCode_9 : decode cX10_paintsCode 9 = .ok (.iload_n 2, 1) := by decide +kernel
theorem dX10_paintsCode_10 : decode cX10_paintsCode 10 = .ok (.invokestatic 82, 3) := by decide +kernel
theorem dX10_paintsCode_13 : decode cX10_paintsCode 13 = .ok (.ifCond .eq 33, 3) := by decide +kernel
theorem dX10_paintsCode_16 : decode cX10_paintsCode 16 = .ok (.aload_n 0, 1) := by decide +kernel
theorem dX10_paintsCode_17 : decode cX10_paintsCode 17 = .ok (.invokevirtual 88, 3) := by decide +kernel
theorem dX10_paintsCode_20 : decode cX10_paintsCode 20 = .ok (.istore_n 3, 1) := by decide +kernel
theorem dX10_paintsCode_21 : decode cX10_paintsCode 21 = .ok (.aload_n 0, 1) := by decide +kernel
theorem dX10_paintsCode_22 : decode cX10_paintsCode 22 = .ok (.iload_n 3, 1) := by decide +kernel
theorem dX10_paintsCode_23 : decode cX10_paintsCode 23 = .ok (.aload_n 0, 1) := by decide +kernel
theorem dX10_paintsCode_24 : decode cX10_paintsCode 24 = .ok (.aload_n 0, 1) := by decide +kernel
theorem dX10_paintsCode_25 : decode cX10_paintsCode 25 = .ok (.getfield 61, 3) := by decide +kernel
theorem dX10_paintsCode_28 : decode cX10_paintsCode 28 = .ok (.iload_n 3, 1) := by decide +kernel
theorem dX10_paintsCode_29 : decode cX10_paintsCode 29 = .ok (.invokevirtual 91, 3) := by decide +kernel
theorem dX10_paintsCode_32 : decode cX10_paintsCode 32 = .ok (.ifCond .eq 7, 3) := by decide +kernel
theorem dX10_paintsCode_35 : decode cX10_paintsCode 35 = .ok (.iconst 2, 1) := by decide +kernel
theorem dX10_paintsCode_36 : decode cX10_paintsCode 36 = .ok (.goto 4, 3) := by decide +kernel
theorem dX10_paintsCode_39 : decode cX10_paintsCode 39 = .ok (.iconst 1, 1) := by decide +kernel
theorem dX10_paintsCode_40 : decode cX10_paintsCode 40 = .ok (.invokevirtual 71, 3) := by decide +kernel
theorem dX10_paintsCode_43 : decode cX10_paintsCode 43 = .ok (.goto 247, 3) := by decide +kernel
theorem dX10_paintsCode_46 : decode cX10_paintsCode 46 = .ok (.iload_n 2, 1) := by decide +kernel
theorem dX10_paintsCode_47 : decode cX10_paintsCode 47 = .ok (.invokestatic 85, 3) := by decide +kernel
theorem dX10_paintsCode_50 : decode cX10_paintsCode 50 = .ok (.ifCond .eq 15, 3) := by decide +kernel
theorem dX10_paintsCode_53 : decode cX10_paintsCode 53 = .ok (.aload_n 0, 1) := by decide +kernel
theorem dX10_paintsCode_54 : decode cX10_paintsCode 54 = .ok (.aload_n 0, 1) := by decide +kernel
theorem dX10_paintsCode_55 : decode cX10_paintsCode 55 = .ok (.invokevirtual 95, 3) := by decide +kernel
theorem dX10_paintsCode_58 : decode cX10_paintsCode 58 = .ok (.iconst 3, 1) := by decide +kernel
theorem dX10_paintsCode_59 : decode cX10_paintsCode 59 = .ok (.invokevirtual 71, 3) := by decide +kernel
theorem dX10_paintsCode_62 : decode cX10_paintsCode 62 = .ok (.goto 228, 3) := by decide +kernel
theorem dX10_paintsCode_65 : decode cX10_paintsCode 65 = .ok (.iload_n 2, 1) := by decide +kernel
theorem dX10_paintsCode_66 : decode cX10_paintsCode 66 = .ok (.bipush 34, 2) := by decide +kernel
theorem dX10_paintsCode_68 : decode cX10_paintsCode 68 = .ok (.if_icmp .eq 9, 3) := by decide +kernel
theorem dX10_paintsCode_71 : decode cX10_paintsCode 71 = .ok (.iload_n 2, 1) := by decide +kernel
theorem dX10_paintsCode_72 : decode cX10_paintsCode 72 = .ok (.bipush 39, 2) := by decide +kernel
theorem dX10_paintsCode_74 : decode cX10_paintsCode 74 = .ok (.if_icmp .ne 22, 3) := by decide +kernel
theorem dX10_paintsCode_77 : decode cX10_paintsCode 77 = .ok (.aload_n 0, 1) := by decide +kernel
theorem dX10_paintsCode_78 : decode cX10_paintsCode 78 = .ok (.iload_n 2, 1) := by decide +kernel
theorem dX10_paintsCode_79 : decode cX10_paintsCode 79 = .ok (.bipush 34, 2) := by decide +kernel
theorem dX10_paintsCode_81 : decode cX10_paintsCode 81 = .ok (.if_icmp .ne 7, 3) := by decide +kernel
theorem dX10_paintsCode_84 : decode cX10_paintsCode 84 = .ok (.iconst 1, 1) := by decide +kernel
theorem dX10_paintsCode_85 : decode cX10_paintsCode 85 = .ok (.goto 4, 3) := by decide +kernel
theorem dX10_paintsCode_88 : decode cX10_paintsCode 88 = .ok (.iconst 2, 1) := by decide +kernel
theorem dX10_paintsCode_89 : decode cX10_paintsCode 89 = .ok (.iconst 4, 1) := by decide +kernel
theorem dX10_paintsCode_90 : decode cX10_paintsCode 90 = .ok (.invokevirtual 98, 3) := by decide +kernel
theorem dX10_paintsCode_93 : decode cX10_paintsCode 93 = .ok (.goto 197, 3) := by decide +kernel
theorem dX10_paintsCode_96 : decode cX10_paintsCode 96 = .ok (.iload_n 2, 1) := by decide +kernel
theorem dX10_paintsCode_97 : decode cX10_paintsCode 97 = .ok (.bipush 91, 2) := by decide +kernel
theorem dX10_paintsCode_99 : decode cX10_paintsCode 99 = .ok (.if_icmp .ne 12, 3) := by decide +kernel
theorem dX10_paintsCode_102 : decode cX10_paintsCode 102 = .ok (.aload_n 0, 1) := by decide +kernel
theorem dX10_paintsCode_103 : decode cX10_paintsCode 103 = .ok (.iconst 3, 1) := by decide +kernel
theorem dX10_paintsCode_104 : decode cX10_paintsCode 104 = .ok (.iconst 5, 1) := by decide +kernel
theorem dX10_paintsCode_105 : decode cX10_paintsCode 105 = .ok (.invokevirtual 98, 3) := by decide +kernel
theorem dX10_paintsCode_108 : decode cX10_paintsCode 108 = .ok (.goto 182, 3) := by decide +kernel
theorem dX10_paintsCode_111 : decode cX10_paintsCode 111 = .ok (.iload_n 2, 1) := by decide +kernel
theorem dX10_paintsCode_112 : decode cX10_paintsCode 112 = .ok (.bipush 35, 2) := by decide +kernel
theorem dX10_paintsCode_114 : decode cX10_paintsCode 114 = .ok (.if_icmp .ne 27, 3) := by decide +kernel
theorem dX10_paintsCode_117 : decode cX10_paintsCode 117 = .ok (.aload_n 0, 1) := by decide +kernel
theorem dX10_paintsCode_118 : decode cX10_paintsCode 118 = .ok (.aload_n 0, 1) := by decide +kernel
theorem dX10_paintsCode_119 : decode cX10_paintsCode 119 = .ok (.getfield 7, 3) := by decide +kernel
theorem dX10_paintsCode_122 : decode cX10_paintsCode 122 = .ok (.iconst 3, 1) := by decide +kernel
theorem dX10_paintsCode_123 : decode cX10_paintsCode 123 = .ok (.aload_n 0, 1) := by decide +kernel
theorem dX10_paintsCode_124 : decode cX10_paintsCode 124 = .ok (.getfield 54, 3) := by decide +kernel
theorem dX10_paintsCode_127 : decode cX10_paintsCode 127 = .ok (.iadd, 1) := by decide +kernel
theorem dX10_paintsCode_128 : decode cX10_paintsCode 128 = .ok (.iaload, 1) := by decide +kernel
theorem dX10_paintsCode_129 : decode cX10_paintsCode 129 = .ok (.aload_n 0, 1) := by decide +kernel
theorem dX10_paintsCode_130 : decode cX10_paintsCode 130 = .ok (.getfield 61, 3) := by decide +kernel
theorem dX10_paintsCode_133 : decode cX10_paintsCode 133 = .ok (.isub, 1) := by decide +kernel
theorem dX10_paintsCode_134 : decode cX10_paintsCode 134 = .ok (.iconst 5, 1) := by decide +kernel
theorem dX10_paintsCode_135 : decode cX10_paintsCode 135 = .ok (.invokevirtual 71, 3) := by decide +kernel
theorem dX10_paintsCode_138 : decode cX10_paintsCode 138 = .ok (.goto 152, 3) := by decide +kernel
theorem dX10_paintsCode_141 : decode cX10_paintsCode 141 = .ok (.iload_n 2, 1) := by decide +kernel
theorem dX10_paintsCode_142 : decode cX10_paintsCode 142 = .ok (.bipush 125, 2) := by decide +kernel
theorem dX10_paintsCode_144 : decode cX10_paintsCode 144 = .ok (.if_icmp .ne 77, 3) := by decide +kernel
theorem dX10_paintsCode_147 : decode cX10_paintsCode 147 = .ok (.aload_n 0, 1) := by decide +kernel
theorem dX10_paintsCode_148 : decode cX10_paintsCode 148 = .ok (.getfield 44, 3) := by decide +kernel
theorem dX10_paintsCode_151 : decode cX10_paintsCode 151 = .ok (.iconst 1, 1) := by decide +kernel
theorem dX10_paintsCode_152 : decode cX10_paintsCode 152 = .ok (.if_icmp .le 21, 3) := by decide +kernel
theorem dX10_paintsCode_155 : decode cX10_paintsCode 155 = .ok (.aload_n 0, 1) := by decide +kernel
theorem dX10_paintsCode_156 : decode cX10_paintsCode 156 = .ok (.getfield 41, 3) := by decide +kernel
theorem dX10_paintsCode_159 : decode cX10_paintsCode 159 = .ok (.iconst 2, 1) := by decide +kernel
theorem dX10_paintsCode_160 : decode cX10_paintsCode 160 = .ok (.aload_n 0, 1) := by decide +kernel
theorem dX10_paintsCode_161 : decode cX10_paintsCode 161 = .ok (.getfield 44, 3) := by decide +kernel
theorem dX10_paintsCode_164 : decode cX10_paintsCode 164 = .ok (.iconst 2, 1) := by decide +kernel
theorem dX10_paintsCode_165 : decode cX10_paintsCode 165 = .ok (.isub, 1) := by decide +kernel
theorem dX10_paintsCode_166 : decode cX10_paintsCode 166 = .ok (.imul, 1) := by decide +kernel
theorem dX10_paintsCode_167 : decode cX10_paintsCode 167 = .ok (.ishr, 1) := by decide +kernel
theorem dX10_paintsCode_168 : decode cX10_paintsCode 168 = .ok (.iconst 3, 1) := by decide +kernel
theorem dX10_paintsCode_169 : decode cX10_paintsCode 169 = .ok (.iand, 1) := by decide +kernel
theorem dX10_paintsCode_170 : decode cX10_paintsCode 170 = .ok (.goto 4, 3) := by decide +kernel
theorem dX10_paintsCode_173 : decode cX10_paintsCode 173 = .ok (.iconst 0, 1) := by decide +kernel
theorem dX10_paintsCode_174 : decode cX10_paintsCode 174 = .ok (.istore_n 3, 1) := by decide +kernel
theorem dX10_paintsCode_175 : decode cX10_paintsCode 175 = .ok (.iload_n 3, 1) := by decide +kernel
theorem dX10_paintsCode_176 : decode cX10_paintsCode 176 = .ok (.iconst 2, 1) := by decide +kernel
theorem dX10_paintsCode_177 : decode cX10_paintsCode 177 = .ok (.if_icmp .eq 8, 3) := by decide +kernel
theorem dX10_paintsCode_180 : decode cX10_paintsCode 180 = .ok (.iload_n 3, 1) := by decide +kernel
theorem dX10_paintsCode_181 : decode cX10_paintsCode 181 = .ok (.iconst 1, 1) := by decide +kernel
theorem dX10_paintsCode_182 : decode cX10_paintsCode 182 = .ok (.if_icmp .ne 7, 3) := by decide +kernel
theorem dX10_paintsCode_185 : decode cX10_paintsCode 185 = .ok (.iconst 1, 1) := by decide +kernel
theorem dX10_paintsCode_186 : decode cX10_paintsCode 186 = .ok (.goto 4, 3) := by decide +kernel
theorem dX10_paintsCode_189 : decode cX10_paintsCode 189 = .ok (.iconst 0, 1) := by decide +kernel
theorem dX10_paintsCode_190 : decode cX10_paintsCode 190 = .ok (.istore 4, 2) := by decide +kernel
theorem dX10_paintsCode_192 : decode cX10_paintsCode 192 = .ok (.aload_n 0, 1) := by decide +kernel
theorem dX10_paintsCode_193 : decode cX10_paintsCode 193 = .ok (.iconst 1, 1) := by decide +kernel
theorem dX10_paintsCode_194 : decode cX10_paintsCode 194 = .ok (.iload 4, 2) := by decide +kernel
theorem dX10_paintsCode_196 : decode cX10_paintsCode 196 = .ok (.ifCond .eq 8, 3) := by decide +kernel
theorem dX10_paintsCode_199 : decode cX10_paintsCode 199 = .ok (.bipush 7, 2) := by decide +kernel
theorem dX10_paintsCode_201 : decode cX10_paintsCode 201 = .ok (.goto 5, 3) := by decide +kernel
theorem dX10_paintsCode_204 : decode cX10_paintsCode 204 = .ok (.bipush 6, 2) := by decide +kernel
theorem dX10_paintsCode_206 : decode cX10_paintsCode 206 = .ok (.invokevirtual 71, 3) := by decide +kernel
theorem dX10_paintsCode_209 : decode cX10_paintsCode 209 = .ok (.iload 4, 2) := by decide +kernel
theorem dX10_paintsCode_211 : decode cX10_paintsCode 211 = .ok (.ifCond .eq 7, 3) := by decide +kernel
theorem dX10_paintsCode_214 : decode cX10_paintsCode 214 = .ok (.aload_n 0, 1) := by decide +kernel
theorem dX10_paintsCode_215 : decode cX10_paintsCode 215 = .ok (.invokevirtual 101, 3) := by decide +kernel
theorem dX10_paintsCode_218 : decode cX10_paintsCode 218 = .ok (.goto 72, 3) := by decide +kernel
theorem dX10_paintsCode_221 : decode cX10_paintsCode 221 = .ok (.iload_n 2, 1) := by decide +kernel
theorem dX10_paintsCode_222 : decode cX10_paintsCode 222 = .ok (.bipush 60, 2) := by decide +kernel
theorem dX10_paintsCode_224 : decode cX10_paintsCode 224 = .ok (.if_icmp .ne 60, 3) := by decide +kernel
theorem dX10_paintsCode_227 : decode cX10_paintsCode 227 = .ok (.aload_n 0, 1) := by decide +kernel
theorem dX10_paintsCode_228 : decode cX10_paintsCode 228 = .ok (.aload_n 0, 1) := by decide +kernel
theorem dX10_paintsCode_229 : decode cX10_paintsCode 229 = .ok (.getfield 61, 3) := by decide +kernel
theorem dX10_paintsCode_232 : decode cX10_paintsCode 232 = .ok (.iconst 1, 1) := by decide +kernel
theorem dX10_paintsCode_233 : decode cX10_paintsCode 233 = .ok (.iadd, 1) := by decide +kernel
theorem dX10_paintsCode_234 : decode cX10_paintsCode 234 = .ok (.invokevirtual 79, 3) := by decide +kernel
theorem dX10_paintsCode_237 : decode cX10_paintsCode 237 = .ok (.bipush 65, 2) := by decide +kernel
theorem dX10_paintsCode_239 : decode cX10_paintsCode 239 = .ok (.bipush 90, 2) := by decide +kernel
theorem dX10_paintsCode_241 : decode cX10_paintsCode 241 = .ok (.invokestatic 57, 3) := by decide +kernel
theorem dX10_paintsCode_244 : decode cX10_paintsCode 244 = .ok (.ifCond .eq 40, 3) := by decide +kernel
theorem dX10_paintsCode_247 : decode cX10_paintsCode 247 = .ok (.aload_n 0, 1) := by decide +kernel
theorem dX10_paintsCode_248 : decode cX10_paintsCode 248 = .ok (.getfield 44, 3) := by decide +kernel
theorem dX10_paintsCode_251 : decode cX10_paintsCode 251 = .ok (.iconst 1, 1) := by decide +kernel
theorem dX10_paintsCode_252 : decode cX10_paintsCode 252 = .ok (.if_icmp .ne 32, 3) := by decide +kernel
theorem dX10_paintsCode_255 : decode cX10_paintsCode 255 = .ok (.iload_n 1, 1) := by decide +kernel
theorem dX10_paintsCode_256 : decode cX10_paintsCode 256 = .ok (.ifCond .ne 28, 3) := by decide +kernel
theorem dX10_paintsCode_259 : decode cX10_paintsCode 259 = .ok (.aload_n 0, 1) := by decide +kernel
theorem dX10_paintsCode_260 : decode cX10_paintsCode 260 = .ok (.aload_n 0, 1) := by decide +kernel
theorem dX10_paintsCode_261 : decode cX10_paintsCode 261 = .ok (.getfield 61, 3) := by decide +kernel
theorem dX10_paintsCode_264 : decode cX10_paintsCode 264 = .ok (.iconst 1, 1) := by decide +kernel
theorem dX10_paintsCode_265 : decode cX10_paintsCode 265 = .ok (.iadd, 1) := by decide +kernel
theorem dX10_paintsCode_266 : decode cX10_paintsCode 266 = .ok (.invokevirtual 79, 3) := by decide +kernel
theorem dX10_paintsCode_269 : decode cX10_paintsCode 269 = .ok (.bipush 65, 2) := by decide +kernel
theorem dX10_paintsCode_271 : decode cX10_paintsCode 271 = .ok (.isub, 1) := by decide +kernel
theorem dX10_paintsCode_272 : decode cX10_paintsCode 272 = .ok (.iconst 1, 1) := by decide +kernel
theorem dX10_paintsCode_273 : decode cX10_paintsCode 273 = .ok (.iadd, 1) := by decide +kernel
theorem dX10_paintsCode_274 : decode cX10_paintsCode 274 = .ok (.istore_n 3, 1) := by decide +kernel
theorem dX10_paintsCode_275 : decode cX10_paintsCode 275 = .ok (.aload_n 0, 1) := by decide +kernel
theorem dX10_paintsCode_276 : decode cX10_paintsCode 276 = .ok (.iconst 2, 1) := by decide +kernel
theorem dX10_paintsCode_277 : decode cX10_paintsCode 277 = .ok (.bipush 7, 2) := by decide +kernel
theorem dX10_paintsCode_279 : decode cX10_paintsCode 279 = .ok (.invokevirtual 71, 3) := by decide +kernel
theorem dX10_paintsCode_282 : decode cX10_paintsCode 282 = .ok (.iload_n 3, 1) := by decide +kernel
theorem dX10_paintsCode_283 : decode cX10_paintsCode 283 = .ok (.ireturn, 1) := by decide +kernel
theorem dX10_paintsCode_284 : decode cX10_paintsCode 284 = .ok (.aload_n 0, 1) := by decide +kernel
theorem dX10_paintsCode_285 : decode cX10_paintsCode 285 = .ok (.iconst 1, 1) := by decide +kernel
theorem dX10_paintsCode_286 : decode cX10_paintsCode 286 = .ok (.iconst 0, 1) := by decide +kernel
theorem dX10_paintsCode_287 : decode cX10_paintsCode 287 = .ok (.invokevirtual 71, 3) := by decide +kernel
theorem dX10_paintsCode_290 : decode cX10_paintsCode 290 = .ok (.iload_n 1, 1) := by decide +kernel
theorem dX10_paintsCode_291 : decode cX10_paintsCode 291 = .ok (.ireturn, 1) := by decide +kernel
theorem dX10_paintsString_0 : decode cX10_paintsString 0 = .ok (.aload_n 0, 1) := by decide +kernel
theorem dX10_paintsString_1 : decode cX10_paintsString 1 = .ok (.aload_n 0, 1) := by decide +kernel
theorem dX10_paintsString_2 : decode cX10_paintsString 2 = .ok (.getfield 61, 3) := by decide +kernel
theorem dX10_paintsString_5 : decode cX10_paintsString 5 = .ok (.invokevirtual 79, 3) := by decide +kernel
theorem dX10_paintsString_8 : decode cX10_paintsString 8 = .ok (.istore_n 1, 1) := by decide +kernel
theorem dX10_paintsString_9 : decode cX10_paintsString 9 = .ok (.iload_n 1, 1) := by decide +kernel
theorem dX10_paintsString_10 : decode cX10_paintsString 10 = .ok (.bipush 92, 2) := by decide +kernel
theorem dX10_paintsString_12 : decode cX10_paintsString 12 = .ok (.if_icmp .ne 33, 3) := by decide +kernel
theorem dX10_paintsString_15 : decode cX10_paintsString 15 = .ok (.aload_n 0, 1) := by decide +kernel
theorem dX10_paintsString_16 : decode cX10_paintsString 16 = .ok (.getfield 61, 3) := by decide +kernel
theorem dX10_paintsString_19 : decode cX10_paintsString 19 = .ok (.iconst 1, 1) := by decide +kernel
theorem dX10_paintsString_20 : decode cX10_paintsString 20 = .ok (.iadd, 1) := by decide +kernel
theorem dX10_paintsString_21 : decode cX10_paintsString 21 = .ok (.aload_n 0, 1) := by decide +kernel
theorem dX10_paintsString_22 : decode cX10_paintsString 22 = .ok (.getfield 7, 3) := by decide +kernel
theorem dX10_paintsString_25 : decode cX10_paintsString 25 = .ok (.iconst 3, 1) := by decide +kernel
theorem dX10_paintsString_26 : decode cX10_paintsString 26 = .ok (.aload_n 0, 1) := by decide +kernel
theorem dX10_paintsString_27 : decode cX10_paintsString 27 = .ok (.getfield 54, 3) := by decide +kernel
theorem dX10_paintsString_30 : decode cX10_paintsString 30 = .ok (.iadd, 1) := by decide +kernel
theorem dX10_paintsString_31 : decode cX10_paintsString 31 = .ok (.iaload, 1) := by decide +kernel
theorem dX10_paintsString_32 : decode cX10_paintsString 32 = .ok (.if_icmp .ge 13, 3) := by decide +kernel
theorem dX10_paintsString_35 : decode cX10_paintsString 35 = .ok (.aload_n 0, 1) := by decide +kernel
theorem dX10_paintsString_36 : decode cX10_paintsString 36 = .ok (.iconst 2, 1) := by decide +kernel
theorem dX10_paintsString_37 : decode cX10_paintsString 37 = .ok (.bipush 7, 2) := by decide +kernel
theorem dX10_paintsString_39 : decode cX10_paintsString 39 = .ok (.invokevirtual 71, 3) := by decide +kernel
theorem dX10_paintsString_42 : decode cX10_paintsString 42 = .ok (.goto 58, 3) := by decide +kernel
theorem dX10_paintsString_45 : decode cX10_paintsString 45 = .ok (.iload_n 1, 1) := by decide +kernel
theorem dX10_paintsString_46 : decode cX10_paintsString 46 = .ok (.bipush 123, 2) := by decide +kernel
theorem dX10_paintsString_48 : decode cX10_paintsString 48 = .ok (.if_icmp .ne 13, 3) := by decide +kernel
theorem dX10_paintsString_51 : decode cX10_paintsString 51 = .ok (.aload_n 0, 1) := by decide +kernel
theorem dX10_paintsString_52 : decode cX10_paintsString 52 = .ok (.iconst 0, 1) := by decide +kernel
theorem dX10_paintsString_53 : decode cX10_paintsString 53 = .ok (.bipush 7, 2) := by decide +kernel
theorem dX10_paintsString_55 : decode cX10_paintsString 55 = .ok (.invokevirtual 98, 3) := by decide +kernel
theorem dX10_paintsString_58 : decode cX10_paintsString 58 = .ok (.goto 42, 3) := by decide +kernel
theorem dX10_paintsString_61 : decode cX10_paintsString 61 = .ok (.iload_n 1, 1) := by decide +kernel
theorem dX10_paintsString_62 : decode cX10_paintsString 62 = .ok (.aload_n 0, 1) := by decide +kernel
theorem dX10_paintsString_63 : decode cX10_paintsString 63 = .ok (.invokevirtual 64, 3) := by decide +kernel
theorem dX10_paintsString_66 : decode cX10_paintsString 66 = .ok (.iconst 1, 1) := by decide +kernel
theorem dX10_paintsString_67 : decode cX10_paintsString 67 = .ok (.if_icmp .ne 8, 3) := by decide +kernel
theorem dX10_paintsString_70 : decode cX10_paintsString 70 = .ok (.bipush 34, 2) := by decide +kernel
theorem dX10_paintsString_72 : decode cX10_paintsString 72 = .ok (.goto 5, 3) := by decide +kernel
theorem dX10_paintsString_75 : decode cX10_paintsString 75 = .ok (.bipush 39, 2) := by decide +kernel
theorem dX10_paintsString_77 : decode cX10_paintsString 77 = .ok (.if_icmp .ne 7, 3) := by decide +kernel
theorem dX10_paintsString_80 : decode cX10_paintsString 80 = .ok (.iconst 1, 1) := by decide +kernel
theorem dX10_paintsString_81 : decode cX10_paintsString 81 = .ok (.goto 4, 3) := by decide +kernel
theorem dX10_paintsString_84 : decode cX10_paintsString 84 = .ok (.iconst 0, 1) := by decide +kernel
theorem dX10_paintsString_85 : decode cX10_paintsString 85 = .ok (.istore_n 2, 1) := by decide +kernel
theorem dX10_paintsString_86 : decode cX10_paintsString 86 = .ok (.aload_n 0, 1) := by decide +kernel
theorem dX10_paintsString_87 : decode cX10_paintsString 87 = .ok (.iconst 1, 1) := by decide +kernel
theorem dX10_paintsString_88 : decode cX10_paintsString 88 = .ok (.iconst 4, 1) := by decide +kernel
theorem dX10_paintsString_89 : decode cX10_paintsString 89 = .ok (.invokevirtual 71, 3) := by decide +kernel
theorem dX10_paintsString_92 : decode cX10_paintsString 92 = .ok (.iload_n 2, 1) := by decide +kernel
theorem dX10_paintsString_93 : decode cX10_paintsString 93 = .ok (.ifCond .eq 7, 3) := by decide +kernel
theorem dX10_paintsString_96 : decode cX10_paintsString 96 = .ok (.aload_n 0, 1) := by decide +kernel
theorem dX10_paintsString_97 : decode cX10_paintsString 97 = .ok (.invokevirtual 101, 3) := by decide +kernel
theorem dX10_paintsString_100 : decode cX10_paintsString 100 = .ok (.return_, 1) := by decide +kernel
theorem dX10_paintsRemark_0 : decode cX10_paintsRemark 0 = .ok (.aload_n 0, 1) := by decide +kernel
theorem dX10_paintsRemark_1 : decode cX10_paintsRemark 1 = .ok (.aload_n 0, 1) := by decide +kernel
theorem dX10_paintsRemark_2 : decode cX10_paintsRemark 2 = .ok (.getfield 61, 3) := by decide +kernel
theorem dX10_paintsRemark_5 : decode cX10_paintsRemark 5 = .ok (.invokevirtual 79, 3) := by decide +kernel
theorem dX10_paintsRemark_8 : decode cX10_paintsRemark 8 = .ok (.istore_n 1, 1) := by decide +kernel
theorem dX10_paintsRemark_9 : decode cX10_paintsRemark 9 = .ok (.iload_n 1, 1) := by decide +kernel
theorem dX10_paintsRemark_10 : decode cX10_paintsRemark 10 = .ok (.bipush 91, 2) := by decide +kernel
theorem dX10_paintsRemark_12 : decode cX10_paintsRemark 12 = .ok (.if_icmp .ne 10, 3) := by decide +kernel
theorem dX10_paintsRemark_15 : decode cX10_paintsRemark 15 = .ok (.aload_n 0, 1) := by decide +kernel
theorem dX10_paintsRemark_16 : decode cX10_paintsRemark 16 = .ok (.iconst 3, 1) := by decide +kernel
theorem dX10_paintsRemark_17 : decode cX10_paintsRemark 17 = .ok (.iconst 5, 1) := by decide +kernel
theorem dX10_paintsRemark_18 : decode cX10_paintsRemark 18 = .ok (.invokevirtual 98, 3) := by decide +kernel
theorem dX10_paintsRemark_21 : decode cX10_paintsRemark 21 = .ok (.return_, 1) := by decide +kernel
theorem dX10_paintsRemark_22 : decode cX10_paintsRemark 22 = .ok (.aload_n 0, 1) := by decide +kernel
theorem dX10_paintsRemark_23 : decode cX10_paintsRemark 23 = .ok (.iconst 1, 1) := by decide +kernel
theorem dX10_paintsRemark_24 : decode cX10_paintsRemark 24 = .ok (.iconst 5, 1) := by decide +kernel
theorem dX10_paintsRemark_25 : decode cX10_paintsRemark 25 = .ok (.invokevirtual 71, 3) := by decide +kernel
theorem dX10_paintsRemark_28 : decode cX10_paintsRemark 28 = .ok (.iload_n 1, 1) := by decide +kernel
theorem dX10_paintsRemark_29 : decode cX10_paintsRemark 29 = .ok (.bipush 93, 2) := by decide +kernel
theorem dX10_paintsRemark_31 : decode cX10_paintsRemark 31 = .ok (.if_icmp .ne 7, 3) := by decide +kernel
theorem dX10_paintsRemark_34 : decode cX10_paintsRemark 34 = .ok (.aload_n 0, 1) := by decide +kernel
theorem dX10_paintsRemark_35 : decode cX10_paintsRemark 35 = .ok (.invokevirtual 101, 3) := by decide +kernel
theorem dX10_paintsRemark_38 : decode cX10_paintsRemark 38 = .ok (.return_, 1) := by decide +kernel
theorem dX10_paintsMarked_0 : decode cX10_paintsMarked 0 = .ok (.aload_n 0, 1) := by decide +kernel
theorem dX10_paintsMarked_1 : decode cX10_paintsMarked 1 = .ok (.getfield 7, 3) := by decide +kernel
theorem dX10_paintsMarked_4 : decode cX10_paintsMarked 4 = .ok (.iconst 3, 1) := by decide +kernel
theorem dX10_paintsMarked_5 : decode cX10_paintsMarked 5 = .ok (.aload_n 0, 1) := by decide +kernel
theorem dX10_paintsMarked_6 : decode cX10_paintsMarked 6 = .ok (.getfield 54, 3) := by decide +kernel
theorem dX10_paintsMarked_9 : decode cX10_paintsMarked 9 = .ok (.iadd, 1) := by decide +kernel
theorem dX10_paintsMarked_10 : decode cX10_paintsMarked 10 = .ok (.iaload, 1) := by decide +kernel
theorem dX10_paintsMarked_11 : decode cX10_paintsMarked 11 = .ok (.iconst 1, 1) := by decide +kernel
theorem dX10_paintsMarked_12 : decode cX10_paintsMarked 12 = .ok (.if_icmp .ne 24, 3) := by decide +kernel
theorem dX10_paintsMarked_15 : decode cX10_paintsMarked 15 = .ok (.aload_n 0, 1) := by decide +kernel
theorem dX10_paintsMarked_16 : decode cX10_paintsMarked 16 = .ok (.iconst 0, 1) := by decide +kernel
theorem dX10_paintsMarked_17 : decode cX10_paintsMarked 17 = .ok (.invokevirtual 79, 3) := by decide +kernel
theorem dX10_paintsMarked_20 : decode cX10_paintsMarked 20 = .ok (.bipush 65, 2) := by decide +kernel
theorem dX10_paintsMarked_22 : decode cX10_paintsMarked 22 = .ok (.aload_n 0, 1) := by decide +kernel
theorem dX10_paintsMarked_23 : decode cX10_paintsMarked 23 = .ok (.getfield 47, 3) := by decide +kernel
theorem dX10_paintsMarked_26 : decode cX10_paintsMarked 26 = .ok (.iadd, 1) := by decide +kernel
theorem dX10_paintsMarked_27 : decode cX10_paintsMarked 27 = .ok (.iconst 1, 1) := by decide +kernel
theorem dX10_paintsMarked_28 : decode cX10_paintsMarked 28 = .ok (.isub, 1) := by decide +kernel
theorem dX10_paintsMarked_29 : decode cX10_paintsMarked 29 = .ok (.if_icmp .ne 7, 3) := by decide +kernel
theorem dX10_paintsMarked_32 : decode cX10_paintsMarked 32 = .ok (.iconst 1, 1) := by decide +kernel
theorem dX10_paintsMarked_33 : decode cX10_paintsMarked 33 = .ok (.goto 4, 3) := by decide +kernel
theorem dX10_paintsMarked_36 : decode cX10_paintsMarked 36 = .ok (.iconst 0, 1) := by decide +kernel
theorem dX10_paintsMarked_37 : decode cX10_paintsMarked 37 = .ok (.istore_n 1, 1) := by decide +kernel
theorem dX10_paintsMarked_38 : decode cX10_paintsMarked 38 = .ok (.iconst 0, 1) := by decide +kernel
theorem dX10_paintsMarked_39 : decode cX10_paintsMarked 39 = .ok (.istore_n 2, 1) := by decide +kernel
theorem dX10_paintsMarked_40 : decode cX10_paintsMarked 40 = .ok (.iload_n 2, 1) := by decide +kernel
theorem dX10_paintsMarked_41 : decode cX10_paintsMarked 41 = .ok (.aload_n 0, 1) := by decide +kernel
theorem dX10_paintsMarked_42 : decode cX10_paintsMarked 42 = .ok (.getfield 7, 3) := by decide +kernel
theorem dX10_paintsMarked_45 : decode cX10_paintsMarked 45 = .ok (.iconst 3, 1) := by decide +kernel
theorem dX10_paintsMarked_46 : decode cX10_paintsMarked 46 = .ok (.aload_n 0, 1) := by decide +kernel
theorem dX10_paintsMarked_47 : decode cX10_paintsMarked 47 = .ok (.getfield 54, 3) := by decide +kernel
theorem dX10_paintsMarked_50 : decode cX10_paintsMarked 50 = .ok (.iadd, 1) := by decide +kernel
theorem dX10_paintsMarked_51 : decode cX10_paintsMarked 51 = .ok (.iaload, 1) := by decide +kernel
theorem dX10_paintsMarked_52 : decode cX10_paintsMarked 52 = .ok (.if_icmp .ge 48, 3) := by decide +kernel
theorem dX10_paintsMarked_55 : decode cX10_paintsMarked 55 = .ok (.aload_n 0, 1) := by decide +kernel
theorem dX10_paintsMarked_56 : decode cX10_paintsMarked 56 = .ok (.getfield 22, 3) := by decide +kernel
theorem dX10_paintsMarked_59 : decode cX10_paintsMarked 59 = .ok (.bipush 30, 2) := by decide +kernel
theorem dX10_paintsMarked_61 : decode cX10_paintsMarked 61 = .ok (.aload_n 0, 1) := by decide +kernel
theorem dX10_paintsMarked_62 : decode cX10_paintsMarked 62 = .ok (.getfield 54, 3) := by decide +kernel
theorem dX10_paintsMarked_65 : decode cX10_paintsMarked 65 = .ok (.imul, 1) := by decide +kernel
theorem dX10_paintsMarked_66 : decode cX10_paintsMarked 66 = .ok (.iload_n 2, 1) := by decide +kernel
theorem dX10_paintsMarked_67 : decode cX10_paintsMarked 67 = .ok (.iadd, 1) := by decide +kernel
theorem dX10_paintsMarked_68 : decode cX10_paintsMarked 68 = .ok (.iload_n 1, 1) := by decide +kernel
theorem dX10_paintsMarked_69 : decode cX10_paintsMarked 69 = .ok (.ifCond .eq 8, 3) := by decide +kernel
theorem dX10_paintsMarked_72 : decode cX10_paintsMarked 72 = .ok (.bipush 7, 2) := by decide +kernel
theorem dX10_paintsMarked_74 : decode cX10_paintsMarked 74 = .ok (.goto 4, 3) := by decide +kernel
theorem dX10_paintsMarked_77 : decode cX10_paintsMarked 77 = .ok (.iconst 4, 1) := by decide +kernel
theorem dX10_paintsMarked_78 : decode cX10_paintsMarked 78 = .ok (.iastore, 1) := by decide +kernel
theorem dX10_paintsMarked_79 : decode cX10_paintsMarked 79 = .ok (.aload_n 0, 1) := by decide +kernel
theorem dX10_paintsMarked_80 : decode cX10_paintsMarked 80 = .ok (.getfield 25, 3) := by decide +kernel
theorem dX10_paintsMarked_83 : decode cX10_paintsMarked 83 = .ok (.bipush 30, 2) := by decide +kernel
theorem dX10_paintsMarked_85 : decode cX10_paintsMarked 85 = .ok (.aload_n 0, 1) := by decide +kernel
end
section
theorem dX10_paintsMarked_86 : decode cX10_paintsMarked 86 = .ok (.getfield 54, 3) := by decide +kernel
theorem dX10_paintsMarked_89 : decode cX10_paintsMarked 89 = .ok (.imul, 1) := by decide +kernel
theorem dX10_paintsMarked_90 : decode cX10_paintsMarked 90 = .ok (.iload_n 2, 1) := by decide +kernel
theorem dX10_paintsMarked_91 : decode cX10_paintsMarked 91 = .ok (.iadd, 1) := by decide +kernel
theorem dX10_paintsMarked_92 : decode cX10_paintsMarked 92 = .ok (.iconst 1, 1) := by decide +kernel
theorem dX10_paintsMarked_93 : decode cX10_paintsMarked 93 = .ok (.iastore, 1) := by decide +kernel
theorem dX10_paintsMarked_94 : decode cX10_paintsMarked 94 = .ok (.iinc 2 1, 3) := by decide +kernel
theorem dX10_paintsMarked_97 : decode cX10_paintsMarked 97 = .ok (.goto (-57), 3) := by decide +kernel
theorem dX10_paintsMarked_100 : decode cX10_paintsMarked 100 = .ok (.aload_n 0, 1) := by decide +kernel
theorem dX10_paintsMarked_101 : decode cX10_paintsMarked 101 = .ok (.iload_n 1, 1) := by decide +kernel
theorem dX10_paintsMarked_102 : decode cX10_paintsMarked 102 = .ok (.ifCond .eq 7, 3) := by decide +kernel
theorem dX10_paintsMarked_105 : decode cX10_paintsMarked 105 = .ok (.iconst 0, 1) := by decide +kernel
theorem dX10_paintsMarked_106 : decode cX10_paintsMarked 106 = .ok (.goto 7, 3) := by decide +kernel
theorem dX10_paintsMarked_109 : decode cX10_paintsMarked 109 = .ok (.aload_n 0, 1) := by decide +kernel
theorem dX10_paintsMarked_110 : decode cX10_paintsMarked 110 = .ok (.getfield 47, 3) := by decide +kernel
theorem dX10_paintsMarked_113 : decode cX10_paintsMarked 113 = .ok (.putfield 47, 3) := by decide +kernel
theorem dX10_paintsMarked_116 : decode cX10_paintsMarked 116 = .ok (.return_, 1) := by decide +kernel
theorem dX10_paintsLine_0 : decode cX10_paintsLine 0 = .ok (.aload_n 0, 1) := by decide +kernel
theorem dX10_paintsLine_1 : decode cX10_paintsLine 1 = .ok (.getfield 47, 3) := by decide +kernel
theorem dX10_paintsLine_4 : decode cX10_paintsLine 4 = .ok (.ifCond .eq 8, 3) := by decide +kernel
theorem dX10_paintsLine_7 : decode cX10_paintsLine 7 = .ok (.aload_n 0, 1) := by decide +kernel
theorem dX10_paintsLine_8 : decode cX10_paintsLine 8 = .ok (.invokevirtual 104, 3) := by decide +kernel
theorem dX10_paintsLine_11 : decode cX10_paintsLine 11 = .ok (.return_, 1) := by decide +kernel
theorem dX10_paintsLine_12 : decode cX10_paintsLine 12 = .ok (.iconst 0, 1) := by decide +kernel
theorem dX10_paintsLine_13 : decode cX10_paintsLine 13 = .ok (.istore_n 1, 1) := by decide +kernel
theorem dX10_paintsLine_14 : decode cX10_paintsLine 14 = .ok (.aload_n 0, 1) := by decide +kernel
theorem dX10_paintsLine_15 : decode cX10_paintsLine 15 = .ok (.iconst 0, 1) := by decide +kernel
theorem dX10_paintsLine_16 : decode cX10_paintsLine 16 = .ok (.putfield 61, 3) := by decide +kernel
theorem dX10_paintsLine_19 : decode cX10_paintsLine 19 = .ok (.aload_n 0, 1) := by decide +kernel
theorem dX10_paintsLine_20 : decode cX10_paintsLine 20 = .ok (.getfield 61, 3) := by decide +kernel
theorem dX10_paintsLine_23 : decode cX10_paintsLine 23 = .ok (.aload_n 0, 1) := by decide +kernel
theorem dX10_paintsLine_24 : decode cX10_paintsLine 24 = .ok (.getfield 7, 3) := by decide +kernel
theorem dX10_paintsLine_27 : decode cX10_paintsLine 27 = .ok (.iconst 3, 1) := by decide +kernel
theorem dX10_paintsLine_28 : decode cX10_paintsLine 28 = .ok (.aload_n 0, 1) := by decide +kernel
theorem dX10_paintsLine_29 : decode cX10_paintsLine 29 = .ok (.getfield 54, 3) := by decide +kernel
theorem dX10_paintsLine_32 : decode cX10_paintsLine 32 = .ok (.iadd, 1) := by decide +kernel
theorem dX10_paintsLine_33 : decode cX10_paintsLine 33 = .ok (.iaload, 1) := by decide +kernel
theorem dX10_paintsLine_34 : decode cX10_paintsLine 34 = .ok (.if_icmp .ge 57, 3) := by decide +kernel
theorem dX10_paintsLine_37 : decode cX10_paintsLine 37 = .ok (.aload_n 0, 1) := by decide +kernel
theorem dX10_paintsLine_38 : decode cX10_paintsLine 38 = .ok (.invokevirtual 64, 3) := by decide +kernel
theorem dX10_paintsLine_41 : decode cX10_paintsLine 41 = .ok (.lookupswitch 43 #[(0, 27), (3, 36)], 27) := by decide +kernel
theorem dX10_paintsLine_68 : decode cX10_paintsLine 68 = .ok (.aload_n 0, 1) := by decide +kernel
theorem dX10_paintsLine_69 : decode cX10_paintsLine 69 = .ok (.iload_n 1, 1) := by decide +kernel
theorem dX10_paintsLine_70 : decode cX10_paintsLine 70 = .ok (.invokevirtual 107, 3) := by decide +kernel
theorem dX10_paintsLine_73 : decode cX10_paintsLine 73 = .ok (.istore_n 1, 1) := by decide +kernel
theorem dX10_paintsLine_74 : decode cX10_paintsLine 74 = .ok (.goto (-55), 3) := by decide +kernel
theorem dX10_paintsLine_77 : decode cX10_paintsLine 77 = .ok (.aload_n 0, 1) := by decide +kernel
theorem dX10_paintsLine_78 : decode cX10_paintsLine 78 = .ok (.invokevirtual 110, 3) := by decide +kernel
theorem dX10_paintsLine_81 : decode cX10_paintsLine 81 = .ok (.goto (-62), 3) := by decide +kernel
theorem dX10_paintsLine_84 : decode cX10_paintsLine 84 = .ok (.aload_n 0, 1) := by decide +kernel
theorem dX10_paintsLine_85 : decode cX10_paintsLine 85 = .ok (.invokevirtual 113, 3) := by decide +kernel
theorem dX10_paintsLine_88 : decode cX10_paintsLine 88 = .ok (.goto (-69), 3) := by decide +kernel
theorem dX10_paintsLine_91 : decode cX10_paintsLine 91 = .ok (.aload_n 0, 1) := by decide +kernel
theorem dX10_paintsLine_92 : decode cX10_paintsLine 92 = .ok (.iload_n 1, 1) := by decide +kernel
theorem dX10_paintsLine_93 : decode cX10_paintsLine 93 = .ok (.putfield 47, 3) := by decide +kernel
theorem dX10_paintsLine_96 : decode cX10_paintsLine 96 = .ok (.iconst 1, 1) := by decide +kernel
theorem dX10_paintsLine_97 : decode cX10_paintsLine 97 = .ok (.istore_n 2, 1) := by decide +kernel
theorem dX10_paintsLine_98 : decode cX10_paintsLine 98 = .ok (.iload_n 2, 1) := by decide +kernel
theorem dX10_paintsLine_99 : decode cX10_paintsLine 99 = .ok (.aload_n 0, 1) := by decide +kernel
theorem dX10_paintsLine_100 : decode cX10_paintsLine 100 = .ok (.getfield 44, 3) := by decide +kernel
theorem dX10_paintsLine_103 : decode cX10_paintsLine 103 = .ok (.if_icmp .ge 23, 3) := by decide +kernel
theorem dX10_paintsLine_106 : decode cX10_paintsLine 106 = .ok (.aload_n 0, 1) := by decide +kernel
theorem dX10_paintsLine_107 : decode cX10_paintsLine 107 = .ok (.getfield 41, 3) := by decide +kernel
theorem dX10_paintsLine_110 : decode cX10_paintsLine 110 = .ok (.iconst 2, 1) := by decide +kernel
theorem dX10_paintsLine_111 : decode cX10_paintsLine 111 = .ok (.iload_n 2, 1) := by decide +kernel
theorem dX10_paintsLine_112 : decode cX10_paintsLine 112 = .ok (.imul, 1) := by decide +kernel
theorem dX10_paintsLine_113 : decode cX10_paintsLine 113 = .ok (.ishr, 1) := by decide +kernel
theorem dX10_paintsLine_114 : decode cX10_paintsLine 114 = .ok (.iconst 3, 1) := by decide +kernel
theorem dX10_paintsLine_115 : decode cX10_paintsLine 115 = .ok (.iand, 1) := by decide +kernel
theorem dX10_paintsLine_116 : decode cX10_paintsLine 116 = .ok (.iconst 2, 1) := by decide +kernel
theorem dX10_paintsLine_117 : decode cX10_paintsLine 117 = .ok (.if_icmp .eq 9, 3) := by decide +kernel
theorem dX10_paintsLine_120 : decode cX10_paintsLine 120 = .ok (.iinc 2 1, 3) := by decide +kernel
theorem dX10_paintsLine_123 : decode cX10_paintsLine 123 = .ok (.goto (-25), 3) := by decide +kernel
theorem dX10_paintsLine_126 : decode cX10_paintsLine 126 = .ok (.aload_n 0, 1) := by decide +kernel
theorem dX10_paintsLine_127 : decode cX10_paintsLine 127 = .ok (.getfield 44, 3) := by decide +kernel
theorem dX10_paintsLine_130 : decode cX10_paintsLine 130 = .ok (.iload_n 2, 1) := by decide +kernel
theorem dX10_paintsLine_131 : decode cX10_paintsLine 131 = .ok (.if_icmp .le 10, 3) := by decide +kernel
theorem dX10_paintsLine_134 : decode cX10_paintsLine 134 = .ok (.aload_n 0, 1) := by decide +kernel
theorem dX10_paintsLine_135 : decode cX10_paintsLine 135 = .ok (.invokevirtual 101, 3) := by decide +kernel
theorem dX10_paintsLine_138 : decode cX10_paintsLine 138 = .ok (.goto (-12), 3) := by decide +kernel
theorem dX10_paintsLine_141 : decode cX10_paintsLine 141 = .ok (.return_, 1) := by decide +kernel
theorem dX10_paints_0 : decode cX10_paints 0 = .ok (.aload_n 0, 1) := by decide +kernel
theorem dX10_paints_1 : decode cX10_paints 1 = .ok (.iconst 0, 1) := by decide +kernel
theorem dX10_paints_2 : decode cX10_paints 2 = .ok (.putfield 41, 3) := by decide +kernel
theorem dX10_paints_5 : decode cX10_paints 5 = .ok (.aload_n 0, 1) := by decide +kernel
theorem dX10_paints_6 : decode cX10_paints 6 = .ok (.iconst 1, 1) := by decide +kernel
theorem dX10_paints_7 : decode cX10_paints 7 = .ok (.putfield 44, 3) := by decide +kernel
theorem dX10_paints_10 : decode cX10_paints 10 = .ok (.aload_n 0, 1) := by decide +kernel
theorem dX10_paints_11 : decode cX10_paints 11 = .ok (.iconst 0, 1) := by decide +kernel
theorem dX10_paints_12 : decode cX10_paints 12 = .ok (.putfield 47, 3) := by decide +kernel
theorem dX10_paints_15 : decode cX10_paints 15 = .ok (.aload_n 0, 1) := by decide +kernel
theorem dX10_paints_16 : decode cX10_paints 16 = .ok (.iconst 0, 1) := by decide +kernel
theorem dX10_paints_17 : decode cX10_paints 17 = .ok (.putfield 54, 3) := by decide +kernel
theorem dX10_paints_20 : decode cX10_paints 20 = .ok (.aload_n 0, 1) := by decide +kernel
theorem dX10_paints_21 : decode cX10_paints 21 = .ok (.getfield 54, 3) := by decide +kernel
theorem dX10_paints_24 : decode cX10_paints 24 = .ok (.aload_n 0, 1) := by decide +kernel
theorem dX10_paints_25 : decode cX10_paints 25 = .ok (.getfield 7, 3) := by decide +kernel
theorem dX10_paints_28 : decode cX10_paints 28 = .ok (.iconst 0, 1) := by decide +kernel
theorem dX10_paints_29 : decode cX10_paints 29 = .ok (.iaload, 1) := by decide +kernel
theorem dX10_paints_30 : decode cX10_paints 30 = .ok (.if_icmp .ge 33, 3) := by decide +kernel
theorem dX10_paints_33 : decode cX10_paints 33 = .ok (.aload_n 0, 1) := by decide +kernel
theorem dX10_paints_34 : decode cX10_paints 34 = .ok (.invokevirtual 116, 3) := by decide +kernel
theorem dX10_paints_37 : decode cX10_paints 37 = .ok (.aload_n 0, 1) := by decide +kernel
theorem dX10_paints_38 : decode cX10_paints 38 = .ok (.getfield 28, 3) := by decide +kernel
theorem dX10_paints_41 : decode cX10_paints 41 = .ok (.aload_n 0, 1) := by decide +kernel
theorem dX10_paints_42 : decode cX10_paints 42 = .ok (.getfield 54, 3) := by decide +kernel
theorem dX10_paints_45 : decode cX10_paints 45 = .ok (.aload_n 0, 1) := by decide +kernel
theorem dX10_paints_46 : decode cX10_paints 46 = .ok (.invokevirtual 119, 3) := by decide +kernel
theorem dX10_paints_49 : decode cX10_paints 49 = .ok (.iastore, 1) := by decide +kernel
theorem dX10_paints_50 : decode cX10_paints 50 = .ok (.aload_n 0, 1) := by decide +kernel
theorem dX10_paints_51 : decode cX10_paints 51 = .ok (.dup, 1) := by decide +kernel
theorem dX10_paints_52 : decode cX10_paints 52 = .ok (.getfield 54, 3) := by decide +kernel
theorem dX10_paints_55 : decode cX10_paints 55 = .ok (.iconst 1, 1) := by decide +kernel
theorem dX10_paints_56 : decode cX10_paints 56 = .ok (.iadd, 1) := by decide +kernel
theorem dX10_paints_57 : decode cX10_paints 57 = .ok (.putfield 54, 3) := by decide +kernel
theorem dX10_paints_60 : decode cX10_paints 60 = .ok (.goto (-40), 3) := by decide +kernel
theorem dX10_paints_63 : decode cX10_paints 63 = .ok (.return_, 1) := by decide +kernel
theorem dX10_changes_0 : decode cX10_changes 0 = .ok (.aload_n 0, 1) := by decide +kernel
theorem dX10_changes_1 : decode cX10_changes 1 = .ok (.invokevirtual 122, 3) := by decide +kernel
theorem dX10_changes_4 : decode cX10_changes 4 = .ok (.aload_n 0, 1) := by decide +kernel
theorem dX10_changes_5 : decode cX10_changes 5 = .ok (.iconst 0, 1) := by decide +kernel
theorem dX10_changes_6 : decode cX10_changes 6 = .ok (.putfield 125, 3) := by decide +kernel
theorem dX10_changes_9 : decode cX10_changes 9 = .ok (.iconst 1, 1) := by decide +kernel
theorem dX10_changes_10 : decode cX10_changes 10 = .ok (.istore_n 3, 1) := by decide +kernel
theorem dX10_changes_11 : decode cX10_changes 11 = .ok (.iload_n 1, 1) := by decide +kernel
theorem dX10_changes_12 : decode cX10_changes 12 = .ok (.istore 4, 2) := by decide +kernel
theorem dX10_changes_14 : decode cX10_changes 14 = .ok (.iload 4, 2) := by decide +kernel
theorem dX10_changes_16 : decode cX10_changes 16 = .ok (.aload_n 0, 1) := by decide +kernel
theorem dX10_changes_17 : decode cX10_changes 17 = .ok (.getfield 7, 3) := by decide +kernel
theorem dX10_changes_20 : decode cX10_changes 20 = .ok (.iconst 0, 1) := by decide +kernel
theorem dX10_changes_21 : decode cX10_changes 21 = .ok (.iaload, 1) := by decide +kernel
theorem dX10_changes_22 : decode cX10_changes 22 = .ok (.if_icmp .ge 68, 3) := by decide +kernel
theorem dX10_changes_25 : decode cX10_changes 25 = .ok (.iload_n 3, 1) := by decide +kernel
theorem dX10_changes_26 : decode cX10_changes 26 = .ok (.ifCond .eq 64, 3) := by decide +kernel
theorem dX10_changes_29 : decode cX10_changes 29 = .ok (.aload_n 0, 1) := by decide +kernel
theorem dX10_changes_30 : decode cX10_changes 30 = .ok (.dup, 1) := by decide +kernel
theorem dX10_changes_31 : decode cX10_changes 31 = .ok (.getfield 125, 3) := by decide +kernel
theorem dX10_changes_34 : decode cX10_changes 34 = .ok (.iconst 1, 1) := by decide +kernel
theorem dX10_changes_35 : decode cX10_changes 35 = .ok (.iadd, 1) := by decide +kernel
theorem dX10_changes_36 : decode cX10_changes 36 = .ok (.putfield 125, 3) := by decide +kernel
theorem dX10_changes_39 : decode cX10_changes 39 = .ok (.iload 4, 2) := by decide +kernel
theorem dX10_changes_41 : decode cX10_changes 41 = .ok (.iload_n 2, 1) := by decide +kernel
theorem dX10_changes_42 : decode cX10_changes 42 = .ok (.if_icmp .lt 36, 3) := by decide +kernel
theorem dX10_changes_45 : decode cX10_changes 45 = .ok (.aload_n 0, 1) := by decide +kernel
theorem dX10_changes_46 : decode cX10_changes 46 = .ok (.getfield 34, 3) := by decide +kernel
theorem dX10_changes_49 : decode cX10_changes 49 = .ok (.iload 4, 2) := by decide +kernel
theorem dX10_changes_51 : decode cX10_changes 51 = .ok (.iaload, 1) := by decide +kernel
theorem dX10_changes_52 : decode cX10_changes 52 = .ok (.iconst (-1), 1) := by decide +kernel
theorem dX10_changes_53 : decode cX10_changes 53 = .ok (.if_icmp .eq 25, 3) := by decide +kernel
theorem dX10_changes_56 : decode cX10_changes 56 = .ok (.aload_n 0, 1) := by decide +kernel
theorem dX10_changes_57 : decode cX10_changes 57 = .ok (.getfield 28, 3) := by decide +kernel
theorem dX10_changes_60 : decode cX10_changes 60 = .ok (.iload 4, 2) := by decide +kernel
theorem dX10_changes_62 : decode cX10_changes 62 = .ok (.iaload, 1) := by decide +kernel
theorem dX10_changes_63 : decode cX10_changes 63 = .ok (.aload_n 0, 1) := by decide +kernel
theorem dX10_changes_64 : decode cX10_changes 64 = .ok (.getfield 31, 3) := by decide +kernel
theorem dX10_changes_67 : decode cX10_changes 67 = .ok (.aload_n 0, 1) := by decide +kernel
theorem dX10_changes_68 : decode cX10_changes 68 = .ok (.getfield 34, 3) := by decide +kernel
theorem dX10_changes_71 : decode cX10_changes 71 = .ok (.iload 4, 2) := by decide +kernel
theorem dX10_changes_73 : decode cX10_changes 73 = .ok (.iaload, 1) := by decide +kernel
theorem dX10_changes_74 : decode cX10_changes 74 = .ok (.iaload, 1) := by decide +kernel
theorem dX10_changes_75 : decode cX10_changes 75 = .ok (.if_icmp .eq 7, 3) := by decide +kernel
theorem dX10_changes_78 : decode cX10_changes 78 = .ok (.iconst 1, 1) := by decide +kernel
theorem dX10_changes_79 : decode cX10_changes 79 = .ok (.goto 4, 3) := by decide +kernel
theorem dX10_changes_82 : decode cX10_changes 82 = .ok (.iconst 0, 1) := by decide +kernel
theorem dX10_changes_83 : decode cX10_changes 83 = .ok (.istore_n 3, 1) := by decide +kernel
theorem dX10_changes_84 : decode cX10_changes 84 = .ok (.iinc 4 1, 3) := by decide +kernel
theorem dX10_changes_87 : decode cX10_changes 87 = .ok (.goto (-73), 3) := by decide +kernel
theorem dX10_changes_90 : decode cX10_changes 90 = .ok (.return_, 1) := by decide +kernel
theorem dX10_type_0 : decode cX10_type 0 = .ok (.iload_n 1, 1) := by decide +kernel
theorem dX10_type_1 : decode cX10_type 1 = .ok (.bipush 32, 2) := by decide +kernel
theorem dX10_type_3 : decode cX10_type 3 = .ok (.bipush 126, 2) := by decide +kernel
theorem dX10_type_5 : decode cX10_type 5 = .ok (.invokestatic 57, 3) := by decide +kernel
theorem dX10_type_8 : decode cX10_type 8 = .ok (.ifCond .ne 10, 3) := by decide +kernel
theorem dX10_type_11 : decode cX10_type 11 = .ok (.aload_n 0, 1) := by decide +kernel
theorem dX10_type_12 : decode cX10_type 12 = .ok (.bipush (-2), 2) := by decide +kernel
theorem dX10_type_14 : decode cX10_type 14 = .ok (.invokevirtual 128, 3) := by decide +kernel
theorem dX10_type_17 : decode cX10_type 17 = .ok (.ireturn, 1) := by decide +kernel
theorem dX10_type_18 : decode cX10_type 18 = .ok (.aload_n 0, 1) := by decide +kernel
theorem dX10_type_19 : decode cX10_type 19 = .ok (.getfield 131, 3) := by decide +kernel
theorem dX10_type_22 : decode cX10_type 22 = .ok (.bipush 30, 2) := by decide +kernel
theorem dX10_type_24 : decode cX10_type 24 = .ok (.if_icmp .ne 10, 3) := by decide +kernel
theorem dX10_type_27 : decode cX10_type 27 = .ok (.aload_n 0, 1) := by decide +kernel
theorem dX10_type_28 : decode cX10_type 28 = .ok (.bipush (-4), 2) := by decide +kernel
theorem dX10_type_30 : decode cX10_type 30 = .ok (.invokevirtual 128, 3) := by decide +kernel
theorem dX10_type_33 : decode cX10_type 33 = .ok (.ireturn, 1) := by decide +kernel
theorem dX10_type_34 : decode cX10_type 34 = .ok (.aload_n 0, 1) := by decide +kernel
theorem dX10_type_35 : decode cX10_type 35 = .ok (.getfield 19, 3) := by decide +kernel
theorem dX10_type_38 : decode cX10_type 38 = .ok (.aload_n 0, 1) := by decide +kernel
theorem dX10_type_39 : decode cX10_type 39 = .ok (.getfield 131, 3) := by decide +kernel
theorem dX10_type_42 : decode cX10_type 42 = .ok (.iload_n 1, 1) := by decide +kernel
theorem dX10_type_43 : decode cX10_type 43 = .ok (.iastore, 1) := by decide +kernel
theorem dX10_type_44 : decode cX10_type 44 = .ok (.aload_n 0, 1) := by decide +kernel
theorem dX10_type_45 : decode cX10_type 45 = .ok (.dup, 1) := by decide +kernel
theorem dX10_type_46 : decode cX10_type 46 = .ok (.getfield 131, 3) := by decide +kernel
theorem dX10_type_49 : decode cX10_type 49 = .ok (.iconst 1, 1) := by decide +kernel
theorem dX10_type_50 : decode cX10_type 50 = .ok (.iadd, 1) := by decide +kernel
theorem dX10_type_51 : decode cX10_type 51 = .ok (.putfield 131, 3) := by decide +kernel
theorem dX10_type_54 : decode cX10_type 54 = .ok (.aload_n 0, 1) := by decide +kernel
theorem dX10_type_55 : decode cX10_type 55 = .ok (.getfield 131, 3) := by decide +kernel
theorem dX10_type_58 : decode cX10_type 58 = .ok (.ireturn, 1) := by decide +kernel
theorem dX10_clear_0 : decode cX10_clear 0 = .ok (.aload_n 0, 1) := by decide +kernel
theorem dX10_clear_1 : decode cX10_clear 1 = .ok (.getfield 131, 3) := by decide +kernel
theorem dX10_clear_4 : decode cX10_clear 4 = .ok (.istore_n 1, 1) := by decide +kernel
theorem dX10_clear_5 : decode cX10_clear 5 = .ok (.aload_n 0, 1) := by decide +kernel
theorem dX10_clear_6 : decode cX10_clear 6 = .ok (.iconst 0, 1) := by decide +kernel
theorem dX10_clear_7 : decode cX10_clear 7 = .ok (.putfield 131, 3) := by decide +kernel
theorem dX10_clear_10 : decode cX10_clear 10 = .ok (.iload_n 1, 1) := by decide +kernel
theorem dX10_clear_11 : decode cX10_clear 11 = .ok (.ireturn, 1) := by decide +kernel
theorem dX10_isLine_0 : decode cX10_isLine 0 = .ok (.iload_n 1, 1) := by decide +kernel
theorem dX10_isLine_1 : decode cX10_isLine 1 = .ok (.iconst 0, 1) := by decide +kernel
theorem dX10_isLine_2 : decode cX10_isLine 2 = .ok (.aload_n 0, 1) := by decide +kernel
theorem dX10_isLine_3 : decode cX10_isLine 3 = .ok (.getfield 7, 3) := by decide +kernel
theorem dX10_isLine_6 : decode cX10_isLine 6 = .ok (.iconst 0, 1) := by decide +kernel
theorem dX10_isLine_7 : decode cX10_isLine 7 = .ok (.iaload, 1) := by decide +kernel
theorem dX10_isLine_8 : decode cX10_isLine 8 = .ok (.iconst 1, 1) := by decide +kernel
theorem dX10_isLine_9 : decode cX10_isLine 9 = .ok (.isub, 1) := by decide +kernel
theorem dX10_isLine_10 : decode cX10_isLine 10 = .ok (.invokestatic 57, 3) := by decide +kernel
theorem dX10_isLine_13 : decode cX10_isLine 13 = .ok (.ireturn, 1) := by decide +kernel
theorem dX10_takesText_0 : decode cX10_takesText 0 = .ok (.aload_n 0, 1) := by decide +kernel
theorem dX10_takesText_1 : decode cX10_takesText 1 = .ok (.getfield 7, 3) := by decide +kernel
theorem dX10_takesText_4 : decode cX10_takesText 4 = .ok (.iconst 3, 1) := by decide +kernel
theorem dX10_takesText_5 : decode cX10_takesText 5 = .ok (.iload_n 1, 1) := by decide +kernel
theorem dX10_takesText_6 : decode cX10_takesText 6 = .ok (.iadd, 1) := by decide +kernel
theorem dX10_takesText_7 : decode cX10_takesText 7 = .ok (.aload_n 0, 1) := by decide +kernel
theorem dX10_takesText_8 : decode cX10_takesText 8 = .ok (.getfield 131, 3) := by decide +kernel
theorem dX10_takesText_11 : decode cX10_takesText 11 = .ok (.iastore, 1) := by decide +kernel
theorem dX10_takesText_12 : decode cX10_takesText 12 = .ok (.iconst 0, 1) := by decide +kernel
theorem dX10_takesText_13 : decode cX10_takesText 13 = .ok (.istore_n 2, 1) := by decide +kernel
theorem dX10_takesText_14 : decode cX10_takesText 14 = .ok (.iload_n 2, 1) := by decide +kernel
theorem dX10_takesText_15 : decode cX10_takesText 15 = .ok (.bipush 30, 2) := by decide +kernel
theorem dX10_takesText_17 : decode cX10_takesText 17 = .ok (.if_icmp .ge 41, 3) := by decide +kernel
theorem dX10_takesText_20 : decode cX10_takesText 20 = .ok (.aload_n 0, 1) := by decide +kernel
theorem dX10_takesText_21 : decode cX10_takesText 21 = .ok (.getfield 7, 3) := by decide +kernel
theorem dX10_takesText_24 : decode cX10_takesText 24 = .ok (.bipush 13, 2) := by decide +kernel
theorem dX10_takesText_26 : decode cX10_takesText 26 = .ok (.bipush 30, 2) := by decide +kernel
theorem dX10_takesText_28 : decode cX10_takesText 28 = .ok (.iload_n 1, 1) := by decide +kernel
theorem dX10_takesText_29 : decode cX10_takesText 29 = .ok (.imul, 1) := by decide +kernel
theorem dX10_takesText_30 : decode cX10_takesText 30 = .ok (.iadd, 1) := by decide +kernel
theorem dX10_takesText_31 : decode cX10_takesText 31 = .ok (.iload_n 2, 1) := by decide +kernel
theorem dX10_takesText_32 : decode cX10_takesText 32 = .ok (.iadd, 1) := by decide +kernel
theorem dX10_takesText_33 : decode cX10_takesText 33 = .ok (.iload_n 2, 1) := by decide +kernel
theorem dX10_takesText_34 : decode cX10_takesText 34 = .ok (.aload_n 0, 1) := by decide +kernel
theorem dX10_takesText_35 : decode cX10_takesText 35 = .ok (.getfield 131, 3) := by decide +kernel
theorem dX10_takesText_38 : decode cX10_takesText 38 = .ok (.if_icmp .ge 12, 3) := by decide +kernel
theorem dX10_takesText_41 : decode cX10_takesText 41 = .ok (.aload_n 0, 1) := by decide +kernel
theorem dX10_takesText_42 : decode cX10_takesText 42 = .ok (.getfield 19, 3) := by decide +kernel
theorem dX10_takesText_45 : decode cX10_takesText 45 = .ok (.iload_n 2, 1) := by decide +kernel
theorem dX10_takesText_46 : decode cX10_takesText 46 = .ok (.iaload, 1) := by decide +kernel
theorem dX10_takesText_47 : decode cX10_takesText 47 = .ok (.goto 4, 3) := by decide +kernel
theorem dX10_takesText_50 : decode cX10_takesText 50 = .ok (.iconst 0, 1) := by decide +kernel
theorem dX10_takesText_51 : decode cX10_takesText 51 = .ok (.iastore, 1) := by decide +kernel
theorem dX10_takesText_52 : decode cX10_takesText 52 = .ok (.iinc 2 1, 3) := by decide +kernel
theorem dX10_takesText_55 : decode cX10_takesText 55 = .ok (.goto (-41), 3) := by decide +kernel
theorem dX10_takesText_58 : decode cX10_takesText 58 = .ok (.return_, 1) := by decide +kernel
theorem dX10_moves_0 : decode cX10_moves 0 = .ok (.aload_n 0, 1) := by decide +kernel
theorem dX10_moves_1 : decode cX10_moves 1 = .ok (.getfield 7, 3) := by decide +kernel
theorem dX10_moves_4 : decode cX10_moves 4 = .ok (.iconst 3, 1) := by decide +kernel
theorem dX10_moves_5 : decode cX10_moves 5 = .ok (.iload_n 2, 1) := by decide +kernel
theorem dX10_moves_6 : decode cX10_moves 6 = .ok (.iadd, 1) := by decide +kernel
theorem dX10_moves_7 : decode cX10_moves 7 = .ok (.aload_n 0, 1) := by decide +kernel
theorem dX10_moves_8 : decode cX10_moves 8 = .ok (.getfield 7, 3) := by decide +kernel
theorem dX10_moves_11 : decode cX10_moves 11 = .ok (.iconst 3, 1) := by decide +kernel
theorem dX10_moves_12 : decode cX10_moves 12 = .ok (.iload_n 1, 1) := by decide +kernel
theorem dX10_moves_13 : decode cX10_moves 13 = .ok (.iadd, 1) := by decide +kernel
theorem dX10_moves_14 : decode cX10_moves 14 = .ok (.iaload, 1) := by decide +kernel
theorem dX10_moves_15 : decode cX10_moves 15 = .ok (.iastore, 1) := by decide +kernel
theorem dX10_moves_16 : decode cX10_moves 16 = .ok (.iconst 0, 1) := by decide +kernel
theorem dX10_moves_17 : decode cX10_moves 17 = .ok (.istore_n 3, 1) := by decide +kernel
theorem dX10_moves_18 : decode cX10_moves 18 = .ok (.iload_n 3, 1) := by decide +kernel
theorem dX10_moves_19 : decode cX10_moves 19 = .ok (.bipush 30, 2) := by decide +kernel
theorem dX10_moves_21 : decode cX10_moves 21 = .ok (.if_icmp .ge 37, 3) := by decide +kernel
theorem dX10_moves_24 : decode cX10_moves 24 = .ok (.aload_n 0, 1) := by decide +kernel
theorem dX10_moves_25 : decode cX10_moves 25 = .ok (.getfield 7, 3) := by decide +kernel
theorem dX10_moves_28 : decode cX10_moves 28 = .ok (.bipush 13, 2) := by decide +kernel
theorem dX10_moves_30 : decode cX10_moves 30 = .ok (.bipush 30, 2) := by decide +kernel
theorem dX10_moves_32 : decode cX10_moves 32 = .ok (.iload_n 2, 1) := by decide +kernel
theorem dX10_moves_33 : decode cX10_moves 33 = .ok (.imul, 1) := by decide +kernel
theorem dX10_moves_34 : decode cX10_moves 34 = .ok (.iadd, 1) := by decide +kernel
theorem dX10_moves_35 : decode cX10_moves 35 = .ok (.iload_n 3, 1) := by decide +kernel
theorem dX10_moves_36 : decode cX10_moves 36 = .ok (.iadd, 1) := by decide +kernel
theorem dX10_moves_37 : decode cX10_moves 37 = .ok (.aload_n 0, 1) := by decide +kernel
theorem dX10_moves_38 : decode cX10_moves 38 = .ok (.getfield 7, 3) := by decide +kernel
theorem dX10_moves_41 : decode cX10_moves 41 = .ok (.bipush 13, 2) := by decide +kernel
theorem dX10_moves_43 : decode cX10_moves 43 = .ok (.bipush 30, 2) := by decide +kernel
theorem dX10_moves_45 : decode cX10_moves 45 = .ok (.iload_n 1, 1) := by decide +kernel
theorem dX10_moves_46 : decode cX10_moves 46 = .ok (.imul, 1) := by decide +kernel
theorem dX10_moves_47 : decode cX10_moves 47 = .ok (.iadd, 1) := by decide +kernel
theorem dX10_moves_48 : decode cX10_moves 48 = .ok (.iload_n 3, 1) := by decide +kernel
theorem dX10_moves_49 : decode cX10_moves 49 = .ok (.iadd, 1) := by decide +kernel
theorem dX10_moves_50 : decode cX10_moves 50 = .ok (.iaload, 1) := by decide +kernel
theorem dX10_moves_51 : decode cX10_moves 51 = .ok (.iastore, 1) := by decide +kernel
theorem dX10_moves_52 : decode cX10_moves 52 = .ok (.iinc 3 1, 3) := by decide +kernel
theorem dX10_moves_55 : decode cX10_moves 55 = .ok (.goto (-37), 3) := by decide +kernel
theorem dX10_moves_58 : decode cX10_moves 58 = .ok (.aload_n 0, 1) := by decide +kernel
theorem dX10_moves_59 : decode cX10_moves 59 = .ok (.getfield 34, 3) := by decide +kernel
theorem dX10_moves_62 : decode cX10_moves 62 = .ok (.iload_n 2, 1) := by decide +kernel
theorem dX10_moves_63 : decode cX10_moves 63 = .ok (.aload_n 0, 1) := by decide +kernel
theorem dX10_moves_64 : decode cX10_moves 64 = .ok (.getfield 34, 3) := by decide +kernel
theorem dX10_moves_67 : decode cX10_moves 67 = .ok (.iload_n 1, 1) := by decide +kernel
theorem dX10_moves_68 : decode cX10_moves 68 = .ok (.iaload, 1) := by decide +kernel
theorem dX10_moves_69 : decode cX10_moves 69 = .ok (.iastore, 1) := by decide +kernel
theorem dX10_moves_70 : decode cX10_moves 70 = .ok (.return_, 1) := by decide +kernel
theorem dX10_opens_0 : decode cX10_opens 0 = .ok (.aload_n 0, 1) := by decide +kernel
theorem dX10_opens_1 : decode cX10_opens 1 = .ok (.getfield 7, 3) := by decide +kernel
theorem dX10_opens_4 : decode cX10_opens 4 = .ok (.iconst 0, 1) := by decide +kernel
theorem dX10_opens_5 : decode cX10_opens 5 = .ok (.iaload, 1) := by decide +kernel
theorem dX10_opens_6 : decode cX10_opens 6 = .ok (.istore_n 2, 1) := by decide +kernel
theorem dX10_opens_7 : decode cX10_opens 7 = .ok (.iload_n 2, 1) := by decide +kernel
theorem dX10_opens_8 : decode cX10_opens 8 = .ok (.iload_n 1, 1) := by decide +kernel
theorem dX10_opens_9 : decode cX10_opens 9 = .ok (.if_icmp .le 17, 3) := by decide +kernel
theorem dX10_opens_12 : decode cX10_opens 12 = .ok (.aload_n 0, 1) := by decide +kernel
theorem dX10_opens_13 : decode cX10_opens 13 = .ok (.iload_n 2, 1) := by decide +kernel
theorem dX10_opens_14 : decode cX10_opens 14 = .ok (.iconst 1, 1) := by decide +kernel
theorem dX10_opens_15 : decode cX10_opens 15 = .ok (.isub, 1) := by decide +kernel
theorem dX10_opens_16 : decode cX10_opens 16 = .ok (.iload_n 2, 1) := by decide +kernel
theorem dX10_opens_17 : decode cX10_opens 17 = .ok (.invokevirtual 134, 3) := by decide +kernel
theorem dX10_opens_20 : decode cX10_opens 20 = .ok (.iinc 2 (-1), 3) := by decide +kernel
theorem dX10_opens_23 : decode cX10_opens 23 = .ok (.goto (-16), 3) := by decide +kernel
theorem dX10_opens_26 : decode cX10_opens 26 = .ok (.aload_n 0, 1) := by decide +kernel
theorem dX10_opens_27 : decode cX10_opens 27 = .ok (.getfield 7, 3) := by decide +kernel
theorem dX10_opens_30 : decode cX10_opens 30 = .ok (.iconst 0, 1) := by decide +kernel
theorem dX10_opens_31 : decode cX10_opens 31 = .ok (.dup2, 1) := by decide +kernel
theorem dX10_opens_32 : decode cX10_opens 32 = .ok (.iaload, 1) := by decide +kernel
theorem dX10_opens_33 : decode cX10_opens 33 = .ok (.iconst 1, 1) := by decide +kernel
theorem dX10_opens_34 : decode cX10_opens 34 = .ok (.iadd, 1) := by decide +kernel
theorem dX10_opens_35 : decode cX10_opens 35 = .ok (.iastore, 1) := by decide +kernel
theorem dX10_opens_36 : decode cX10_opens 36 = .ok (.aload_n 0, 1) := by decide +kernel
theorem dX10_opens_37 : decode cX10_opens 37 = .ok (.getfield 34, 3) := by decide +kernel
theorem dX10_opens_40 : decode cX10_opens 40 = .ok (.iload_n 1, 1) := by decide +kernel
theorem dX10_opens_41 : decode cX10_opens 41 = .ok (.iconst (-1), 1) := by decide +kernel
theorem dX10_opens_42 : decode cX10_opens 42 = .ok (.iastore, 1) := by decide +kernel
theorem dX10_opens_43 : decode cX10_opens 43 = .ok (.aload_n 0, 1) := by decide +kernel
theorem dX10_opens_44 : decode cX10_opens 44 = .ok (.getfield 7, 3) := by decide +kernel
theorem dX10_opens_47 : decode cX10_opens 47 = .ok (.iconst 3, 1) := by decide +kernel
theorem dX10_opens_48 : decode cX10_opens 48 = .ok (.iload_n 1, 1) := by decide +kernel
theorem dX10_opens_49 : decode cX10_opens 49 = .ok (.iadd, 1) := by decide +kernel
theorem dX10_opens_50 : decode cX10_opens 50 = .ok (.iconst 0, 1) := by decide +kernel
theorem dX10_opens_51 : decode cX10_opens 51 = .ok (.iastore, 1) := by decide +kernel
theorem dX10_opens_52 : decode cX10_opens 52 = .ok (.iconst 0, 1) := by decide +kernel
theorem dX10_opens_53 : decode cX10_opens 53 = .ok (.istore_n 2, 1) := by decide +kernel
theorem dX10_opens_54 : decode cX10_opens 54 = .ok (.iload_n 2, 1) := by decide +kernel
theorem dX10_opens_55 : decode cX10_opens 55 = .ok (.bipush 30, 2) := by decide +kernel
theorem dX10_opens_57 : decode cX10_opens 57 = .ok (.if_icmp .ge 24, 3) := by decide +kernel
theorem dX10_opens_60 : decode cX10_opens 60 = .ok (.aload_n 0, 1) := by decide +kernel
theorem dX10_opens_61 : decode cX10_opens 61 = .ok (.getfield 7, 3) := by decide +kernel
theorem dX10_opens_64 : decode cX10_opens 64 = .ok (.bipush 13, 2) := by decide +kernel
theorem dX10_opens_66 : decode cX10_opens 66 = .ok (.bipush 30, 2) := by decide +kernel
theorem dX10_opens_68 : decode cX10_opens 68 = .ok (.iload_n 1, 1) := by decide +kernel
theorem dX10_opens_69 : decode cX10_opens 69 = .ok (.imul, 1) := by decide +kernel
theorem dX10_opens_70 : decode cX10_opens 70 = .ok (.iadd, 1) := by decide +kernel
theorem dX10_opens_71 : decode cX10_opens 71 = .ok (.iload_n 2, 1) := by decide +kernel
theorem dX10_opens_72 : decode cX10_opens 72 = .ok (.iadd, 1) := by decide +kernel
theorem dX10_opens_73 : decode cX10_opens 73 = .ok (.iconst 0, 1) := by decide +kernel
theorem dX10_opens_74 : decode cX10_opens 74 = .ok (.iastore, 1) := by decide +kernel
theorem dX10_opens_75 : decode cX10_opens 75 = .ok (.iinc 2 1, 3) := by decide +kernel
theorem dX10_opens_78 : decode cX10_opens 78 = .ok (.goto (-24), 3) := by decide +kernel
theorem dX10_opens_81 : decode cX10_opens 81 = .ok (.return_, 1) := by decide +kernel
theorem dX10_inserts_0 : decode cX10_inserts 0 = .ok (.iload_n 1, 1) := by decide +kernel
theorem dX10_inserts_1 : decode cX10_inserts 1 = .ok (.iconst 0, 1) := by decide +kernel
theorem dX10_inserts_2 : decode cX10_inserts 2 = .ok (.aload_n 0, 1) := by decide +kernel
theorem dX10_inserts_3 : decode cX10_inserts 3 = .ok (.getfield 7, 3) := by decide +kernel
theorem dX10_inserts_6 : decode cX10_inserts 6 = .ok (.iconst 0, 1) := by decide +kernel
theorem dX10_inserts_7 : decode cX10_inserts 7 = .ok (.iaload, 1) := by decide +kernel
theorem dX10_inserts_8 : decode cX10_inserts 8 = .ok (.invokestatic 57, 3) := by decide +kernel
theorem dX10_inserts_11 : decode cX10_inserts 11 = .ok (.ifCond .ne 10, 3) := by decide +kernel
theorem dX10_inserts_14 : decode cX10_inserts 14 = .ok (.aload_n 0, 1) := by decide +kernel
theorem dX10_inserts_15 : decode cX10_inserts 15 = .ok (.bipush (-2), 2) := by decide +kernel
theorem dX10_inserts_17 : decode cX10_inserts 17 = .ok (.invokevirtual 128, 3) := by decide +kernel
theorem dX10_inserts_20 : decode cX10_inserts 20 = .ok (.ireturn, 1) := by decide +kernel
theorem dX10_inserts_21 : decode cX10_inserts 21 = .ok (.aload_n 0, 1) := by decide +kernel
theorem dX10_inserts_22 : decode cX10_inserts 22 = .ok (.getfield 7, 3) := by decide +kernel
theorem dX10_inserts_25 : decode cX10_inserts 25 = .ok (.iconst 0, 1) := by decide +kernel
theorem dX10_inserts_26 : decode cX10_inserts 26 = .ok (.iaload, 1) := by decide +kernel
theorem dX10_inserts_27 : decode cX10_inserts 27 = .ok (.bipush 10, 2) := by decide +kernel
theorem dX10_inserts_29 : decode cX10_inserts 29 = .ok (.if_icmp .ne 10, 3) := by decide +kernel
theorem dX10_inserts_32 : decode cX10_inserts 32 = .ok (.aload_n 0, 1) := by decide +kernel
theorem dX10_inserts_33 : decode cX10_inserts 33 = .ok (.bipush (-4), 2) := by decide +kernel
theorem dX10_inserts_35 : decode cX10_inserts 35 = .ok (.invokevirtual 128, 3) := by decide +kernel
theorem dX10_inserts_38 : decode cX10_inserts 38 = .ok (.ireturn, 1) := by decide +kernel
theorem dX10_inserts_39 : decode cX10_inserts 39 = .ok (.aload_n 0, 1) := by decide +kernel
theorem dX10_inserts_40 : decode cX10_inserts 40 = .ok (.invokevirtual 137, 3) := by decide +kernel
theorem dX10_inserts_43 : decode cX10_inserts 43 = .ok (.aload_n 0, 1) := by decide +kernel
theorem dX10_inserts_44 : decode cX10_inserts 44 = .ok (.iload_n 1, 1) := by decide +kernel
theorem dX10_inserts_45 : decode cX10_inserts 45 = .ok (.invokevirtual 140, 3) := by decide +kernel
theorem dX10_inserts_48 : decode cX10_inserts 48 = .ok (.aload_n 0, 1) := by decide +kernel
theorem dX10_inserts_49 : decode cX10_inserts 49 = .ok (.iload_n 1, 1) := by decide +kernel
theorem dX10_inserts_50 : decode cX10_inserts 50 = .ok (.invokevirtual 144, 3) := by decide +kernel
theorem dX10_inserts_53 : decode cX10_inserts 53 = .ok (.aload_n 0, 1) := by decide +kernel
theorem dX10_inserts_54 : decode cX10_inserts 54 = .ok (.iload_n 1, 1) := by decide +kernel
theorem dX10_inserts_55 : decode cX10_inserts 55 = .ok (.iload_n 1, 1) := by decide +kernel
theorem dX10_inserts_56 : decode cX10_inserts 56 = .ok (.invokevirtual 147, 3) := by decide +kernel
theorem dX10_inserts_59 : decode cX10_inserts 59 = .ok (.aload_n 0, 1) := by decide +kernel
theorem dX10_inserts_60 : decode cX10_inserts 60 = .ok (.getfield 7, 3) := by decide +kernel
theorem dX10_inserts_63 : decode cX10_inserts 63 = .ok (.iconst 0, 1) := by decide +kernel
theorem dX10_inserts_64 : decode cX10_inserts 64 = .ok (.iaload, 1) := by decide +kernel
theorem dX10_inserts_65 : decode cX10_inserts 65 = .ok (.ireturn, 1) := by decide +kernel
theorem dX10_sets_0 : decode cX10_sets 0 = .ok (.aload_n 0, 1) := by decide +kernel
theorem dX10_sets_1 : decode cX10_sets 1 = .ok (.iload_n 1, 1) := by decide +kernel
theorem dX10_sets_2 : decode cX10_sets 2 = .ok (.invokevirtual 150, 3) := by decide +kernel
theorem dX10_sets_5 : decode cX10_sets 5 = .ok (.ifCond .ne 10, 3) := by decide +kernel
theorem dX10_sets_8 : decode cX10_sets 8 = .ok (.aload_n 0, 1) := by decide +kernel
theorem dX10_sets_9 : decode cX10_sets 9 = .ok (.bipush (-2), 2) := by decide +kernel
theorem dX10_sets_11 : decode cX10_sets 11 = .ok (.invokevirtual 128, 3) := by decide +kernel
theorem dX10_sets_14 : decode cX10_sets 14 = .ok (.ireturn, 1) := by decide +kernel
theorem dX10_sets_15 : decode cX10_sets 15 = .ok (.aload_n 0, 1) := by decide +kernel
theorem dX10_sets_16 : decode cX10_sets 16 = .ok (.invokevirtual 137, 3) := by decide +kernel
theorem dX10_sets_19 : decode cX10_sets 19 = .ok (.aload_n 0, 1) := by decide +kernel
theorem dX10_sets_20 : decode cX10_sets 20 = .ok (.getfield 7, 3) := by decide +kernel
theorem dX10_sets_23 : decode cX10_sets 23 = .ok (.iconst 3, 1) := by decide +kernel
theorem dX10_sets_24 : decode cX10_sets 24 = .ok (.iload_n 1, 1) := by decide +kernel
theorem dX10_sets_25 : decode cX10_sets 25 = .ok (.iadd, 1) := by decide +kernel
theorem dX10_sets_26 : decode cX10_sets 26 = .ok (.iaload, 1) := by decide +kernel
theorem dX10_sets_27 : decode cX10_sets 27 = .ok (.istore_n 2, 1) := by decide +kernel
theorem dX10_sets_28 : decode cX10_sets 28 = .ok (.iload_n 2, 1) := by decide +kernel
theorem dX10_sets_29 : decode cX10_sets 29 = .ok (.aload_n 0, 1) := by decide +kernel
theorem dX10_sets_30 : decode cX10_sets 30 = .ok (.getfield 131, 3) := by decide +kernel
theorem dX10_sets_33 : decode cX10_sets 33 = .ok (.if_icmp .eq 7, 3) := by decide +kernel
theorem dX10_sets_36 : decode cX10_sets 36 = .ok (.iconst 1, 1) := by decide +kernel
theorem dX10_sets_37 : decode cX10_sets 37 = .ok (.goto 4, 3) := by decide +kernel
theorem dX10_sets_40 : decode cX10_sets 40 = .ok (.iconst 0, 1) := by decide +kernel
theorem dX10_sets_41 : decode cX10_sets 41 = .ok (.istore_n 3, 1) := by decide +kernel
theorem dX10_sets_42 : decode cX10_sets 42 = .ok (.iconst 0, 1) := by decide +kernel
theorem dX10_sets_43 : decode cX10_sets 43 = .ok (.istore 4, 2) := by decide +kernel
theorem dX10_sets_45 : decode cX10_sets 45 = .ok (.iload 4, 2) := by decide +kernel
theorem dX10_sets_47 : decode cX10_sets 47 = .ok (.aload_n 0, 1) := by decide +kernel
theorem dX10_sets_48 : decode cX10_sets 48 = .ok (.getfield 131, 3) := by decide +kernel
theorem dX10_sets_51 : decode cX10_sets 51 = .ok (.if_icmp .ge 44, 3) := by decide +kernel
theorem dX10_sets_54 : decode cX10_sets 54 = .ok (.iload_n 3, 1) := by decide +kernel
theorem dX10_sets_55 : decode cX10_sets 55 = .ok (.ifCond .ne 28, 3) := by decide +kernel
theorem dX10_sets_58 : decode cX10_sets 58 = .ok (.aload_n 0, 1) := by decide +kernel
theorem dX10_sets_59 : decode cX10_sets 59 = .ok (.getfield 7, 3) := by decide +kernel
theorem dX10_sets_62 : decode cX10_sets 62 = .ok (.bipush 13, 2) := by decide +kernel
theorem dX10_sets_64 : decode cX10_sets 64 = .ok (.bipush 30, 2) := by decide +kernel
theorem dX10_sets_66 : decode cX10_sets 66 = .ok (.iload_n 1, 1) := by decide +kernel
theorem dX10_sets_67 : decode cX10_sets 67 = .ok (.imul, 1) := by decide +kernel
theorem dX10_sets_68 : decode cX10_sets 68 = .ok (.iadd, 1) := by decide +kernel
theorem dX10_sets_69 : decode cX10_sets 69 = .ok (.iload 4, 2) := by decide +kernel
theorem dX10_sets_71 : decode cX10_sets 71 = .ok (.iadd, 1) := by decide +kernel
theorem dX10_sets_72 : decode cX10_sets 72 = .ok (.iaload, 1) := by decide +kernel
theorem dX10_sets_73 : decode cX10_sets 73 = .ok (.aload_n 0, 1) := by decide +kernel
theorem dX10_sets_74 : decode cX10_sets 74 = .ok (.getfield 19, 3) := by decide +kernel
theorem dX10_sets_77 : decode cX10_sets 77 = .ok (.iload 4, 2) := by decide +kernel
theorem dX10_sets_79 : decode cX10_sets 79 = .ok (.iaload, 1) := by decide +kernel
theorem dX10_sets_80 : decode cX10_sets 80 = .ok (.if_icmp .eq 7, 3) := by decide +kernel
theorem dX10_sets_83 : decode cX10_sets 83 = .ok (.iconst 1, 1) := by decide +kernel
theorem dX10_sets_84 : decode cX10_sets 84 = .ok (.goto 4, 3) := by decide +kernel
theorem dX10_sets_87 : decode cX10_sets 87 = .ok (.iconst 0, 1) := by decide +kernel
theorem dX10_sets_88 : decode cX10_sets 88 = .ok (.istore_n 3, 1) := by decide +kernel
theorem dX10_sets_89 : decode cX10_sets 89 = .ok (.iinc 4 1, 3) := by decide +kernel
theorem dX10_sets_92 : decode cX10_sets 92 = .ok (.goto (-47), 3) := by decide +kernel
theorem dX10_sets_95 : decode cX10_sets 95 = .ok (.aload_n 0, 1) := by decide +kernel
theorem dX10_sets_96 : decode cX10_sets 96 = .ok (.iload_n 1, 1) := by decide +kernel
theorem dX10_sets_97 : decode cX10_sets 97 = .ok (.invokevirtual 144, 3) := by decide +kernel
theorem dX10_sets_100 : decode cX10_sets 100 = .ok (.aload_n 0, 1) := by decide +kernel
theorem dX10_sets_101 : decode cX10_sets 101 = .ok (.iload_n 3, 1) := by decide +kernel
theorem dX10_sets_102 : decode cX10_sets 102 = .ok (.ifCond .eq 7, 3) := by decide +kernel
theorem dX10_sets_105 : decode cX10_sets 105 = .ok (.iload_n 1, 1) := by decide +kernel
theorem dX10_sets_106 : decode cX10_sets 106 = .ok (.goto 9, 3) := by decide +kernel
theorem dX10_sets_109 : decode cX10_sets 109 = .ok (.aload_n 0, 1) := by decide +kernel
theorem dX10_sets_110 : decode cX10_sets 110 = .ok (.getfield 7, 3) := by decide +kernel
theorem dX10_sets_113 : decode cX10_sets 113 = .ok (.iconst 0, 1) := by decide +kernel
theorem dX10_sets_114 : decode cX10_sets 114 = .ok (.iaload, 1) := by decide +kernel
theorem dX10_sets_115 : decode cX10_sets 115 = .ok (.iload_n 1, 1) := by decide +kernel
theorem dX10_sets_116 : decode cX10_sets 116 = .ok (.invokevirtual 147, 3) := by decide +kernel
theorem dX10_sets_119 : decode cX10_sets 119 = .ok (.iload_n 2, 1) := by decide +kernel
theorem dX10_sets_120 : decode cX10_sets 120 = .ok (.ireturn, 1) := by decide +kernel
theorem dX10_drops_0 : decode cX10_drops 0 = .ok (.aload_n 0, 1) := by decide +kernel
theorem dX10_drops_1 : decode cX10_drops 1 = .ok (.iload_n 1, 1) := by decide +kernel
theorem dX10_drops_2 : decode cX10_drops 2 = .ok (.invokevirtual 150, 3) := by decide +kernel
theorem dX10_drops_5 : decode cX10_drops 5 = .ok (.ifCond .ne 10, 3) := by decide +kernel
theorem dX10_drops_8 : decode cX10_drops 8 = .ok (.aload_n 0, 1) := by decide +kernel
theorem dX10_drops_9 : decode cX10_drops 9 = .ok (.bipush (-2), 2) := by decide +kernel
theorem dX10_drops_11 : decode cX10_drops 11 = .ok (.invokevirtual 128, 3) := by decide +kernel
theorem dX10_drops_14 : decode cX10_drops 14 = .ok (.ireturn, 1) := by decide +kernel
theorem dX10_drops_15 : decode cX10_drops 15 = .ok (.aload_n 0, 1) := by decide +kernel
theorem dX10_drops_16 : decode cX10_drops 16 = .ok (.invokevirtual 137, 3) := by decide +kernel
theorem dX10_drops_19 : decode cX10_drops 19 = .ok (.iload_n 1, 1) := by decide +kernel
theorem dX10_drops_20 : decode cX10_drops 20 = .ok (.istore_n 2, 1) := by decide +kernel
theorem dX10_drops_21 : decode cX10_drops 21 = .ok (.iload_n 2, 1) := by decide +kernel
theorem dX10_drops_22 : decode cX10_drops 22 = .ok (.aload_n 0, 1) := by decide +kernel
theorem dX10_drops_23 : decode cX10_drops 23 = .ok (.getfield 7, 3) := by decide +kernel
theorem dX10_drops_26 : decode cX10_drops 26 = .ok (.iconst 0, 1) := by decide +kernel
theorem dX10_drops_27 : decode cX10_drops 27 = .ok (.iaload, 1) := by decide +kernel
theorem dX10_drops_28 : decode cX10_drops 28 = .ok (.iconst 1, 1) := by decide +kernel
theorem dX10_drops_29 : decode cX10_drops 29 = .ok (.isub, 1) := by decide +kernel
theorem dX10_drops_30 : decode cX10_drops 30 = .ok (.if_icmp .ge 17, 3) := by decide +kernel
theorem dX10_drops_33 : decode cX10_drops 33 = .ok (.aload_n 0, 1) := by decide +kernel
theorem dX10_drops_34 : decode cX10_drops 34 = .ok (.iload_n 2, 1) := by decide +kernel
theorem dX10_drops_35 : decode cX10_drops 35 = .ok (.iconst 1, 1) := by decide +kernel
theorem dX10_drops_36 : decode cX10_drops 36 = .ok (.iadd, 1) := by decide +kernel
theorem dX10_drops_37 : decode cX10_drops 37 = .ok (.iload_n 2, 1) := by decide +kernel
theorem dX10_drops_38 : decode cX10_drops 38 = .ok (.invokevirtual 134, 3) := by decide +kernel
theorem dX10_drops_41 : decode cX10_drops 41 = .ok (.iinc 2 1, 3) := by decide +kernel
theorem dX10_drops_44 : decode cX10_drops 44 = .ok (.goto (-23), 3) := by decide +kernel
theorem dX10_drops_47 : decode cX10_drops 47 = .ok (.aload_n 0, 1) := by decide +kernel
theorem dX10_drops_48 : decode cX10_drops 48 = .ok (.getfield 7, 3) := by decide +kernel
theorem dX10_drops_51 : decode cX10_drops 51 = .ok (.iconst 0, 1) := by decide +kernel
theorem dX10_drops_52 : decode cX10_drops 52 = .ok (.dup2, 1) := by decide +kernel
theorem dX10_drops_53 : decode cX10_drops 53 = .ok (.iaload, 1) := by decide +kernel
theorem dX10_drops_54 : decode cX10_drops 54 = .ok (.iconst 1, 1) := by decide +kernel
theorem dX10_drops_55 : decode cX10_drops 55 = .ok (.isub, 1) := by decide +kernel
theorem dX10_drops_56 : decode cX10_drops 56 = .ok (.iastore, 1) := by decide +kernel
theorem dX10_drops_57 : decode cX10_drops 57 = .ok (.aload_n 0, 1) := by decide +kernel
theorem dX10_drops_58 : decode cX10_drops 58 = .ok (.getfield 7, 3) := by decide +kernel
theorem dX10_drops_61 : decode cX10_drops 61 = .ok (.iconst 0, 1) := by decide +kernel
theorem dX10_drops_62 : decode cX10_drops 62 = .ok (.iaload, 1) := by decide +kernel
theorem dX10_drops_63 : decode cX10_drops 63 = .ok (.istore_n 2, 1) := by decide +kernel
theorem dX10_drops_64 : decode cX10_drops 64 = .ok (.aload_n 0, 1) := by decide +kernel
theorem dX10_drops_65 : decode cX10_drops 65 = .ok (.getfield 7, 3) := by decide +kernel
theorem dX10_drops_68 : decode cX10_drops 68 = .ok (.iconst 3, 1) := by decide +kernel
theorem dX10_drops_69 : decode cX10_drops 69 = .ok (.iload_n 2, 1) := by decide +kernel
theorem dX10_drops_70 : decode cX10_drops 70 = .ok (.iadd, 1) := by decide +kernel
theorem dX10_drops_71 : decode cX10_drops 71 = .ok (.iconst 0, 1) := by decide +kernel
theorem dX10_drops_72 : decode cX10_drops 72 = .ok (.iastore, 1) := by decide +kernel
theorem dX10_drops_73 : decode cX10_drops 73 = .ok (.iconst 0, 1) := by decide +kernel
theorem dX10_drops_74 : decode cX10_drops 74 = .ok (.istore_n 3, 1) := by decide +kernel
theorem dX10_drops_75 : decode cX10_drops 75 = .ok (.iload_n 3, 1) := by decide +kernel
theorem dX10_drops_76 : decode cX10_drops 76 = .ok (.bipush 30, 2) := by decide +kernel
theorem dX10_drops_78 : decode cX10_drops 78 = .ok (.if_icmp .ge 24, 3) := by decide +kernel
theorem dX10_drops_81 : decode cX10_drops 81 = .ok (.aload_n 0, 1) := by decide +kernel
theorem dX10_drops_82 : decode cX10_drops 82 = .ok (.getfield 7, 3) := by decide +kernel
theorem dX10_drops_85 : decode cX10_drops 85 = .ok (.bipush 13, 2) := by decide +kernel
theorem dX10_drops_87 : decode cX10_drops 87 = .ok (.bipush 30, 2) := by decide +kernel
theorem dX10_drops_89 : decode cX10_drops 89 = .ok (.iload_n 2, 1) := by decide +kernel
theorem dX10_drops_90 : decode cX10_drops 90 = .ok (.imul, 1) := by decide +kernel
theorem dX10_drops_91 : decode cX10_drops 91 = .ok (.iadd, 1) := by decide +kernel
theorem dX10_drops_92 : decode cX10_drops 92 = .ok (.iload_n 3, 1) := by decide +kernel
theorem dX10_drops_93 : decode cX10_drops 93 = .ok (.iadd, 1) := by decide +kernel
theorem dX10_drops_94 : decode cX10_drops 94 = .ok (.iconst 0, 1) := by decide +kernel
theorem dX10_drops_95 : decode cX10_drops 95 = .ok (.iastore, 1) := by decide +kernel
theorem dX10_drops_96 : decode cX10_drops 96 = .ok (.iinc 3 1, 3) := by decide +kernel
theorem dX10_drops_99 : decode cX10_drops 99 = .ok (.goto (-24), 3) := by decide +kernel
theorem dX10_drops_102 : decode cX10_drops 102 = .ok (.aload_n 0, 1) := by decide +kernel
theorem dX10_drops_103 : decode cX10_drops 103 = .ok (.iload_n 1, 1) := by decide +kernel
theorem dX10_drops_104 : decode cX10_drops 104 = .ok (.iload_n 1, 1) := by decide +kernel
theorem dX10_drops_105 : decode cX10_drops 105 = .ok (.invokevirtual 147, 3) := by decide +kernel
theorem dX10_drops_108 : decode cX10_drops 108 = .ok (.aload_n 0, 1) := by decide +kernel
theorem dX10_drops_109 : decode cX10_drops 109 = .ok (.getfield 7, 3) := by decide +kernel
theorem dX10_drops_112 : decode cX10_drops 112 = .ok (.iconst 0, 1) := by decide +kernel
theorem dX10_drops_113 : decode cX10_drops 113 = .ok (.iaload, 1) := by decide +kernel
theorem dX10_drops_114 : decode cX10_drops 114 = .ok (.ireturn, 1) := by decide +kernel
theorem dX10_puts_0 : decode cX10_puts 0 = .ok (.aload_n 0, 1) := by decide +kernel
theorem dX10_puts_1 : decode cX10_puts 1 = .ok (.iload_n 1, 1) := by decide +kernel
theorem dX10_puts_2 : decode cX10_puts 2 = .ok (.invokevirtual 150, 3) := by decide +kernel
theorem dX10_puts_5 : decode cX10_puts 5 = .ok (.ifCond .eq 30, 3) := by decide +kernel
theorem dX10_puts_8 : decode cX10_puts 8 = .ok (.iload_n 2, 1) := by decide +kernel
theorem dX10_puts_9 : decode cX10_puts 9 = .ok (.iconst 0, 1) := by decide +kernel
theorem dX10_puts_10 : decode cX10_puts 10 = .ok (.aload_n 0, 1) := by decide +kernel
theorem dX10_puts_11 : decode cX10_puts 11 = .ok (.getfield 7, 3) := by decide +kernel
theorem dX10_puts_14 : decode cX10_puts 14 = .ok (.iconst 3, 1) := by decide +kernel
theorem dX10_puts_15 : decode cX10_puts 15 = .ok (.iload_n 1, 1) := by decide +kernel
theorem dX10_puts_16 : decode cX10_puts 16 = .ok (.iadd, 1) := by decide +kernel
theorem dX10_puts_17 : decode cX10_puts 17 = .ok (.iaload, 1) := by decide +kernel
theorem dX10_puts_18 : decode cX10_puts 18 = .ok (.invokestatic 57, 3) := by decide +kernel
theorem dX10_puts_21 : decode cX10_puts 21 = .ok (.ifCond .eq 14, 3) := by decide +kernel
theorem dX10_puts_24 : decode cX10_puts 24 = .ok (.iload_n 3, 1) := by decide +kernel
theorem dX10_puts_25 : decode cX10_puts 25 = .ok (.bipush 32, 2) := by decide +kernel
theorem dX10_puts_27 : decode cX10_puts 27 = .ok (.bipush 126, 2) := by decide +kernel
theorem dX10_puts_29 : decode cX10_puts 29 = .ok (.invokestatic 57, 3) := by decide +kernel
theorem dX10_puts_32 : decode cX10_puts 32 = .ok (.ifCond .ne 10, 3) := by decide +kernel
theorem dX10_puts_35 : decode cX10_puts 35 = .ok (.aload_n 0, 1) := by decide +kernel
theorem dX10_puts_36 : decode cX10_puts 36 = .ok (.bipush (-2), 2) := by decide +kernel
theorem dX10_puts_38 : decode cX10_puts 38 = .ok (.invokevirtual 128, 3) := by decide +kernel
theorem dX10_puts_41 : decode cX10_puts 41 = .ok (.ireturn, 1) := by decide +kernel
theorem dX10_puts_42 : decode cX10_puts 42 = .ok (.aload_n 0, 1) := by decide +kernel
theorem dX10_puts_43 : decode cX10_puts 43 = .ok (.getfield 7, 3) := by decide +kernel
theorem dX10_puts_46 : decode cX10_puts 46 = .ok (.iconst 3, 1) := by decide +kernel
theorem dX10_puts_47 : decode cX10_puts 47 = .ok (.iload_n 1, 1) := by decide +kernel
theorem dX10_puts_48 : decode cX10_puts 48 = .ok (.iadd, 1) := by decide +kernel
theorem dX10_puts_49 : decode cX10_puts 49 = .ok (.iaload, 1) := by decide +kernel
theorem dX10_puts_50 : decode cX10_puts 50 = .ok (.bipush 30, 2) := by decide +kernel
theorem dX10_puts_52 : decode cX10_puts 52 = .ok (.if_icmp .ne 10, 3) := by decide +kernel
theorem dX10_puts_55 : decode cX10_puts 55 = .ok (.aload_n 0, 1) := by decide +kernel
theorem dX10_puts_56 : decode cX10_puts 56 = .ok (.bipush (-4), 2) := by decide +kernel
theorem dX10_puts_58 : decode cX10_puts 58 = .ok (.invokevirtual 128, 3) := by decide +kernel
theorem dX10_puts_61 : decode cX10_puts 61 = .ok (.ireturn, 1) := by decide +kernel
theorem dX10_puts_62 : decode cX10_puts 62 = .ok (.aload_n 0, 1) := by decide +kernel
theorem dX10_puts_63 : decode cX10_puts 63 = .ok (.invokevirtual 137, 3) := by decide +kernel
theorem dX10_puts_66 : decode cX10_puts 66 = .ok (.bipush 13, 2) := by decide +kernel
theorem dX10_puts_68 : decode cX10_puts 68 = .ok (.bipush 30, 2) := by decide +kernel
theorem dX10_puts_70 : decode cX10_puts 70 = .ok (.iload_n 1, 1) := by decide +kernel
theorem dX10_puts_71 : decode cX10_puts 71 = .ok (.imul, 1) := by decide +kernel
theorem dX10_puts_72 : decode cX10_puts 72 = .ok (.iadd, 1) := by decide +kernel
theorem dX10_puts_73 : decode cX10_puts 73 = .ok (.istore 4, 2) := by decide +kernel
theorem dX10_puts_75 : decode cX10_puts 75 = .ok (.aload_n 0, 1) := by decide +kernel
theorem dX10_puts_76 : decode cX10_puts 76 = .ok (.getfield 7, 3) := by decide +kernel
theorem dX10_puts_79 : decode cX10_puts 79 = .ok (.iconst 3, 1) := by decide +kernel
theorem dX10_puts_80 : decode cX10_puts 80 = .ok (.iload_n 1, 1) := by decide +kernel
theorem dX10_puts_81 : decode cX10_puts 81 = .ok (.iadd, 1) := by decide +kernel
theorem dX10_puts_82 : decode cX10_puts 82 = .ok (.iaload, 1) := by decide +kernel
theorem dX10_puts_83 : decode cX10_puts 83 = .ok (.istore 5, 2) := by decide +kernel
theorem dX10_puts_85 : decode cX10_puts 85 = .ok (.iload 5, 2) := by decide +kernel
theorem dX10_puts_87 : decode cX10_puts 87 = .ok (.iload_n 2, 1) := by decide +kernel
theorem dX10_puts_88 : decode cX10_puts 88 = .ok (.if_icmp .le 31, 3) := by decide +kernel
theorem dX10_puts_91 : decode cX10_puts 91 = .ok (.aload_n 0, 1) := by decide +kernel
theorem dX10_puts_92 : decode cX10_puts 92 = .ok (.getfield 7, 3) := by decide +kernel
theorem dX10_puts_95 : decode cX10_puts 95 = .ok (.iload 4, 2) := by decide +kernel
theorem dX10_puts_97 : decode cX10_puts 97 = .ok (.iload 5, 2) := by decide +kernel
theorem dX10_puts_99 : decode cX10_puts 99 = .ok (.iadd, 1) := by decide +kernel
theorem dX10_puts_100 : decode cX10_puts 100 = .ok (.aload_n 0, 1) := by decide +kernel
theorem dX10_puts_101 : decode cX10_puts 101 = .ok (.getfield 7, 3) := by decide +kernel
theorem dX10_puts_104 : decode cX10_puts 104 = .ok (.iload 4, 2) := by decide +kernel
theorem dX10_puts_106 : decode cX10_puts 106 = .ok (.iload 5, 2) := by decide +kernel
theorem dX10_puts_108 : decode cX10_puts 108 = .ok (.iadd, 1) := by decide +kernel
theorem dX10_puts_109 : decode cX10_puts 109 = .ok (.iconst 1, 1) := by decide +kernel
theorem dX10_puts_110 : decode cX10_puts 110 = .ok (.isub, 1) := by decide +kernel
theorem dX10_puts_111 : decode cX10_puts 111 = .ok (.iaload, 1) := by decide +kernel
theorem dX10_puts_112 : decode cX10_puts 112 = .ok (.iastore, 1) := by decide +kernel
theorem dX10_puts_113 : decode cX10_puts 113 = .ok (.iinc 5 (-1), 3) := by decide +kernel
theorem dX10_puts_116 : decode cX10_puts 116 = .ok (.goto (-31), 3) := by decide +kernel
theorem dX10_puts_119 : decode cX10_puts 119 = .ok (.aload_n 0, 1) := by decide +kernel
theorem dX10_puts_120 : decode cX10_puts 120 = .ok (.getfield 7, 3) := by decide +kernel
theorem dX10_puts_123 : decode cX10_puts 123 = .ok (.iload 4, 2) := by decide +kernel
theorem dX10_puts_125 : decode cX10_puts 125 = .ok (.iload_n 2, 1) := by decide +kernel
theorem dX10_puts_126 : decode cX10_puts 126 = .ok (.iadd, 1) := by decide +kernel
theorem dX10_puts_127 : decode cX10_puts 127 = .ok (.iload_n 3, 1) := by decide +kernel
theorem dX10_puts_128 : decode cX10_puts 128 = .ok (.iastore, 1) := by decide +kernel
theorem dX10_puts_129 : decode cX10_puts 129 = .ok (.aload_n 0, 1) := by decide +kernel
theorem dX10_puts_130 : decode cX10_puts 130 = .ok (.getfield 7, 3) := by decide +kernel
theorem dX10_puts_133 : decode cX10_puts 133 = .ok (.iconst 3, 1) := by decide +kernel
theorem dX10_puts_134 : decode cX10_puts 134 = .ok (.iload_n 1, 1) := by decide +kernel
theorem dX10_puts_135 : decode cX10_puts 135 = .ok (.iadd, 1) := by decide +kernel
theorem dX10_puts_136 : decode cX10_puts 136 = .ok (.dup2, 1) := by decide +kernel
theorem dX10_puts_137 : decode cX10_puts 137 = .ok (.iaload, 1) := by decide +kernel
theorem dX10_puts_138 : decode cX10_puts 138 = .ok (.iconst 1, 1) := by decide +kernel
theorem dX10_puts_139 : decode cX10_puts 139 = .ok (.iadd, 1) := by decide +kernel
theorem dX10_puts_140 : decode cX10_puts 140 = .ok (.iastore, 1) := by decide +kernel
theorem dX10_puts_141 : decode cX10_puts 141 = .ok (.aload_n 0, 1) := by decide +kernel
theorem dX10_puts_142 : decode cX10_puts 142 = .ok (.iload_n 1, 1) := by decide +kernel
theorem dX10_puts_143 : decode cX10_puts 143 = .ok (.iload_n 1, 1) := by decide +kernel
theorem dX10_puts_144 : decode cX10_puts 144 = .ok (.invokevirtual 147, 3) := by decide +kernel
theorem dX10_puts_147 : decode cX10_puts 147 = .ok (.aload_n 0, 1) := by decide +kernel
theorem dX10_puts_148 : decode cX10_puts 148 = .ok (.getfield 7, 3) := by decide +kernel
theorem dX10_puts_151 : decode cX10_puts 151 = .ok (.iconst 3, 1) := by decide +kernel
theorem dX10_puts_152 : decode cX10_puts 152 = .ok (.iload_n 1, 1) := by decide +kernel
theorem dX10_puts_153 : decode cX10_puts 153 = .ok (.iadd, 1) := by decide +kernel
theorem dX10_puts_154 : decode cX10_puts 154 = .ok (.iaload, 1) := by decide +kernel
theorem dX10_puts_155 : decode cX10_puts 155 = .ok (.ireturn, 1) := by decide +kernel
theorem dX10_erases_0 : decode cX10_erases 0 = .ok (.aload_n 0, 1) := by decide +kernel
theorem dX10_erases_1 : decode cX10_erases 1 = .ok (.iload_n 1, 1) := by decide +kernel
theorem dX10_erases_2 : decode cX10_erases 2 = .ok (.invokevirtual 150, 3) := by decide +kernel
theorem dX10_erases_5 : decode cX10_erases 5 = .ok (.ifCond .eq 21, 3) := by decide +kernel
theorem dX10_erases_8 : decode cX10_erases 8 = .ok (.iload_n 2, 1) := by decide +kernel
theorem dX10_erases_9 : decode cX10_erases 9 = .ok (.iconst 0, 1) := by decide +kernel
theorem dX10_erases_10 : decode cX10_erases 10 = .ok (.aload_n 0, 1) := by decide +kernel
theorem dX10_erases_11 : decode cX10_erases 11 = .ok (.getfield 7, 3) := by decide +kernel
theorem dX10_erases_14 : decode cX10_erases 14 = .ok (.iconst 3, 1) := by decide +kernel
theorem dX10_erases_15 : decode cX10_erases 15 = .ok (.iload_n 1, 1) := by decide +kernel
theorem dX10_erases_16 : decode cX10_erases 16 = .ok (.iadd, 1) := by decide +kernel
theorem dX10_erases_17 : decode cX10_erases 17 = .ok (.iaload, 1) := by decide +kernel
theorem dX10_erases_18 : decode cX10_erases 18 = .ok (.iconst 1, 1) := by decide +kernel
theorem dX10_erases_19 : decode cX10_erases 19 = .ok (.isub, 1) := by decide +kernel
theorem dX10_erases_20 : decode cX10_erases 20 = .ok (.invokestatic 57, 3) := by decide +kernel
theorem dX10_erases_23 : decode cX10_erases 23 = .ok (.ifCond .ne 10, 3) := by decide +kernel
theorem dX10_erases_26 : decode cX10_erases 26 = .ok (.aload_n 0, 1) := by decide +kernel
theorem dX10_erases_27 : decode cX10_erases 27 = .ok (.bipush (-2), 2) := by decide +kernel
theorem dX10_erases_29 : decode cX10_erases 29 = .ok (.invokevirtual 128, 3) := by decide +kernel
theorem dX10_erases_32 : decode cX10_erases 32 = .ok (.ireturn, 1) := by decide +kernel
theorem dX10_erases_33 : decode cX10_erases 33 = .ok (.aload_n 0, 1) := by decide +kernel
theorem dX10_erases_34 : decode cX10_erases 34 = .ok (.invokevirtual 137, 3) := by decide +kernel
theorem dX10_erases_37 : decode cX10_erases 37 = .ok (.bipush 13, 2) := by decide +kernel
theorem dX10_erases_39 : decode cX10_erases 39 = .ok (.bipush 30, 2) := by decide +kernel
theorem dX10_erases_41 : decode cX10_erases 41 = .ok (.iload_n 1, 1) := by decide +kernel
theorem dX10_erases_42 : decode cX10_erases 42 = .ok (.imul, 1) := by decide +kernel
theorem dX10_erases_43 : decode cX10_erases 43 = .ok (.iadd, 1) := by decide +kernel
theorem dX10_erases_44 : decode cX10_erases 44 = .ok (.istore_n 3, 1) := by decide +kernel
theorem dX10_erases_45 : decode cX10_erases 45 = .ok (.aload_n 0, 1) := by decide +kernel
theorem dX10_erases_46 : decode cX10_erases 46 = .ok (.getfield 7, 3) := by decide +kernel
theorem dX10_erases_49 : decode cX10_erases 49 = .ok (.iload_n 3, 1) := by decide +kernel
theorem dX10_erases_50 : decode cX10_erases 50 = .ok (.iload_n 2, 1) := by decide +kernel
theorem dX10_erases_51 : decode cX10_erases 51 = .ok (.iadd, 1) := by decide +kernel
theorem dX10_erases_52 : decode cX10_erases 52 = .ok (.iaload, 1) := by decide +kernel
theorem dX10_erases_53 : decode cX10_erases 53 = .ok (.istore 4, 2) := by decide +kernel
theorem dX10_erases_55 : decode cX10_erases 55 = .ok (.aload_n 0, 1) := by decide +kernel
theorem dX10_erases_56 : decode cX10_erases 56 = .ok (.getfield 7, 3) := by decide +kernel
theorem dX10_erases_59 : decode cX10_erases 59 = .ok (.iconst 3, 1) := by decide +kernel
theorem dX10_erases_60 : decode cX10_erases 60 = .ok (.iload_n 1, 1) := by decide +kernel
theorem dX10_erases_61 : decode cX10_erases 61 = .ok (.iadd, 1) := by decide +kernel
theorem dX10_erases_62 : decode cX10_erases 62 = .ok (.dup2, 1) := by decide +kernel
theorem dX10_erases_63 : decode cX10_erases 63 = .ok (.iaload, 1) := by decide +kernel
theorem dX10_erases_64 : decode cX10_erases 64 = .ok (.iconst 1, 1) := by decide +kernel
theorem dX10_erases_65 : decode cX10_erases 65 = .ok (.isub, 1) := by decide +kernel
theorem dX10_erases_66 : decode cX10_erases 66 = .ok (.iastore, 1) := by decide +kernel
theorem dX10_erases_67 : decode cX10_erases 67 = .ok (.iload_n 2, 1) := by decide +kernel
theorem dX10_erases_68 : decode cX10_erases 68 = .ok (.istore 5, 2) := by decide +kernel
theorem dX10_erases_70 : decode cX10_erases 70 = .ok (.iload 5, 2) := by decide +kernel
theorem dX10_erases_72 : decode cX10_erases 72 = .ok (.aload_n 0, 1) := by decide +kernel
theorem dX10_erases_73 : decode cX10_erases 73 = .ok (.getfield 7, 3) := by decide +kernel
theorem dX10_erases_76 : decode cX10_erases 76 = .ok (.iconst 3, 1) := by decide +kernel
theorem dX10_erases_77 : decode cX10_erases 77 = .ok (.iload_n 1, 1) := by decide +kernel
theorem dX10_erases_78 : decode cX10_erases 78 = .ok (.iadd, 1) := by decide +kernel
theorem dX10_erases_79 : decode cX10_erases 79 = .ok (.iaload, 1) := by decide +kernel
theorem dX10_erases_80 : decode cX10_erases 80 = .ok (.if_icmp .ge 29, 3) := by decide +kernel
theorem dX10_erases_83 : decode cX10_erases 83 = .ok (.aload_n 0, 1) := by decide +kernel
theorem dX10_erases_84 : decode cX10_erases 84 = .ok (.getfield 7, 3) := by decide +kernel
theorem dX10_erases_87 : decode cX10_erases 87 = .ok (.iload_n 3, 1) := by decide +kernel
theorem dX10_erases_88 : decode cX10_erases 88 = .ok (.iload 5, 2) := by decide +kernel
theorem dX10_erases_90 : decode cX10_erases 90 = .ok (.iadd, 1) := by decide +kernel
theorem dX10_erases_91 : decode cX10_erases 91 = .ok (.aload_n 0, 1) := by decide +kernel
theorem dX10_erases_92 : decode cX10_erases 92 = .ok (.getfield 7, 3) := by decide +kernel
theorem dX10_erases_95 : decode cX10_erases 95 = .ok (.iload_n 3, 1) := by decide +kernel
theorem dX10_erases_96 : decode cX10_erases 96 = .ok (.iload 5, 2) := by decide +kernel
theorem dX10_erases_98 : decode cX10_erases 98 = .ok (.iadd, 1) := by decide +kernel
theorem dX10_erases_99 : decode cX10_erases 99 = .ok (.iconst 1, 1) := by decide +kernel
theorem dX10_erases_100 : decode cX10_erases 100 = .ok (.iadd, 1) := by decide +kernel
theorem dX10_erases_101 : decode cX10_erases 101 = .ok (.iaload, 1) := by decide +kernel
theorem dX10_erases_102 : decode cX10_erases 102 = .ok (.iastore, 1) := by decide +kernel
theorem dX10_erases_103 : decode cX10_erases 103 = .ok (.iinc 5 1, 3) := by decide +kernel
theorem dX10_erases_106 : decode cX10_erases 106 = .ok (.goto (-36), 3) := by decide +kernel
theorem dX10_erases_109 : decode cX10_erases 109 = .ok (.aload_n 0, 1) := by decide +kernel
theorem dX10_erases_110 : decode cX10_erases 110 = .ok (.getfield 7, 3) := by decide +kernel
theorem dX10_erases_113 : decode cX10_erases 113 = .ok (.iload_n 3, 1) := by decide +kernel
theorem dX10_erases_114 : decode cX10_erases 114 = .ok (.aload_n 0, 1) := by decide +kernel
theorem dX10_erases_115 : decode cX10_erases 115 = .ok (.getfield 7, 3) := by decide +kernel
theorem dX10_erases_118 : decode cX10_erases 118 = .ok (.iconst 3, 1) := by decide +kernel
theorem dX10_erases_119 : decode cX10_erases 119 = .ok (.iload_n 1, 1) := by decide +kernel
theorem dX10_erases_120 : decode cX10_erases 120 = .ok (.iadd, 1) := by decide +kernel
theorem dX10_erases_121 : decode cX10_erases 121 = .ok (.iaload, 1) := by decide +kernel
theorem dX10_erases_122 : decode cX10_erases 122 = .ok (.iadd, 1) := by decide +kernel
theorem dX10_erases_123 : decode cX10_erases 123 = .ok (.iconst 0, 1) := by decide +kernel
theorem dX10_erases_124 : decode cX10_erases 124 = .ok (.iastore, 1) := by decide +kernel
theorem dX10_erases_125 : decode cX10_erases 125 = .ok (.aload_n 0, 1) := by decide +kernel
theorem dX10_erases_126 : decode cX10_erases 126 = .ok (.iload_n 1, 1) := by decide +kernel
theorem dX10_erases_127 : decode cX10_erases 127 = .ok (.iload_n 1, 1) := by decide +kernel
theorem dX10_erases_128 : decode cX10_erases 128 = .ok (.invokevirtual 147, 3) := by decide +kernel
theorem dX10_erases_131 : decode cX10_erases 131 = .ok (.iload 4, 2) := by decide +kernel
theorem dX10_erases_133 : decode cX10_erases 133 = .ok (.ireturn, 1) := by decide +kernel
theorem dX10_splits_0 : decode cX10_splits 0 = .ok (.aload_n 0, 1) := by decide +kernel
theorem dX10_splits_1 : decode cX10_splits 1 = .ok (.iload_n 1, 1) := by decide +kernel
theorem dX10_splits_2 : decode cX10_splits 2 = .ok (.invokevirtual 150, 3) := by decide +kernel
theorem dX10_splits_5 : decode cX10_splits 5 = .ok (.ifCond .eq 19, 3) := by decide +kernel
theorem dX10_splits_8 : decode cX10_splits 8 = .ok (.iload_n 2, 1) := by decide +kernel
theorem dX10_splits_9 : decode cX10_splits 9 = .ok (.iconst 0, 1) := by decide +kernel
theorem dX10_splits_10 : decode cX10_splits 10 = .ok (.aload_n 0, 1) := by decide +kernel
theorem dX10_splits_11 : decode cX10_splits 11 = .ok (.getfield 7, 3) := by decide +kernel
theorem dX10_splits_14 : decode cX10_splits 14 = .ok (.iconst 3, 1) := by decide +kernel
theorem dX10_splits_15 : decode cX10_splits 15 = .ok (.iload_n 1, 1) := by decide +kernel
theorem dX10_splits_16 : decode cX10_splits 16 = .ok (.iadd, 1) := by decide +kernel
theorem dX10_splits_17 : decode cX10_splits 17 = .ok (.iaload, 1) := by decide +kernel
theorem dX10_splits_18 : decode cX10_splits 18 = .ok (.invokestatic 57, 3) := by decide +kernel
theorem dX10_splits_21 : decode cX10_splits 21 = .ok (.ifCond .ne 10, 3) := by decide +kernel
theorem dX10_splits_24 : decode cX10_splits 24 = .ok (.aload_n 0, 1) := by decide +kernel
theorem dX10_splits_25 : decode cX10_splits 25 = .ok (.bipush (-2), 2) := by decide +kernel
theorem dX10_splits_27 : decode cX10_splits 27 = .ok (.invokevirtual 128, 3) := by decide +kernel
theorem dX10_splits_30 : decode cX10_splits 30 = .ok (.ireturn, 1) := by decide +kernel
theorem dX10_splits_31 : decode cX10_splits 31 = .ok (.aload_n 0, 1) := by decide +kernel
theorem dX10_splits_32 : decode cX10_splits 32 = .ok (.getfield 7, 3) := by decide +kernel
theorem dX10_splits_35 : decode cX10_splits 35 = .ok (.iconst 0, 1) := by decide +kernel
theorem dX10_splits_36 : decode cX10_splits 36 = .ok (.iaload, 1) := by decide +kernel
theorem dX10_splits_37 : decode cX10_splits 37 = .ok (.bipush 10, 2) := by decide +kernel
theorem dX10_splits_39 : decode cX10_splits 39 = .ok (.if_icmp .ne 10, 3) := by decide +kernel
theorem dX10_splits_42 : decode cX10_splits 42 = .ok (.aload_n 0, 1) := by decide +kernel
theorem dX10_splits_43 : decode cX10_splits 43 = .ok (.bipush (-4), 2) := by decide +kernel
theorem dX10_splits_45 : decode cX10_splits 45 = .ok (.invokevirtual 128, 3) := by decide +kernel
theorem dX10_splits_48 : decode cX10_splits 48 = .ok (.ireturn, 1) := by decide +kernel
theorem dX10_splits_49 : decode cX10_splits 49 = .ok (.aload_n 0, 1) := by decide +kernel
theorem dX10_splits_50 : decode cX10_splits 50 = .ok (.invokevirtual 137, 3) := by decide +kernel
theorem dX10_splits_53 : decode cX10_splits 53 = .ok (.aload_n 0, 1) := by decide +kernel
theorem dX10_splits_54 : decode cX10_splits 54 = .ok (.iload_n 1, 1) := by decide +kernel
theorem dX10_splits_55 : decode cX10_splits 55 = .ok (.iconst 1, 1) := by decide +kernel
theorem dX10_splits_56 : decode cX10_splits 56 = .ok (.iadd, 1) := by decide +kernel
theorem dX10_splits_57 : decode cX10_splits 57 = .ok (.invokevirtual 140, 3) := by decide +kernel
theorem dX10_splits_60 : decode cX10_splits 60 = .ok (.aload_n 0, 1) := by decide +kernel
theorem dX10_splits_61 : decode cX10_splits 61 = .ok (.getfield 7, 3) := by decide +kernel
theorem dX10_splits_64 : decode cX10_splits 64 = .ok (.iconst 3, 1) := by decide +kernel
theorem dX10_splits_65 : decode cX10_splits 65 = .ok (.iload_n 1, 1) := by decide +kernel
theorem dX10_splits_66 : decode cX10_splits 66 = .ok (.iadd, 1) := by decide +kernel
theorem dX10_splits_67 : decode cX10_splits 67 = .ok (.iaload, 1) := by decide +kernel
theorem dX10_splits_68 : decode cX10_splits 68 = .ok (.iload_n 2, 1) := by decide +kernel
theorem dX10_splits_69 : decode cX10_splits 69 = .ok (.isub, 1) := by decide +kernel
theorem dX10_splits_70 : decode cX10_splits 70 = .ok (.istore_n 3, 1) := by decide +kernel
theorem dX10_splits_71 : decode cX10_splits 71 = .ok (.bipush 13, 2) := by decide +kernel
theorem dX10_splits_73 : decode cX10_splits 73 = .ok (.bipush 30, 2) := by decide +kernel
theorem dX10_splits_75 : decode cX10_splits 75 = .ok (.iload_n 1, 1) := by decide +kernel
theorem dX10_splits_76 : decode cX10_splits 76 = .ok (.imul, 1) := by decide +kernel
theorem dX10_splits_77 : decode cX10_splits 77 = .ok (.iadd, 1) := by decide +kernel
theorem dX10_splits_78 : decode cX10_splits 78 = .ok (.iload_n 2, 1) := by decide +kernel
theorem dX10_splits_79 : decode cX10_splits 79 = .ok (.iadd, 1) := by decide +kernel
theorem dX10_splits_80 : decode cX10_splits 80 = .ok (.istore 4, 2) := by decide +kernel
theorem dX10_splits_82 : decode cX10_splits 82 = .ok (.iconst 0, 1) := by decide +kernel
theorem dX10_splits_83 : decode cX10_splits 83 = .ok (.istore 5, 2) := by decide +kernel
theorem dX10_splits_85 : decode cX10_splits 85 = .ok (.iload 5, 2) := by decide +kernel
theorem dX10_splits_87 : decode cX10_splits 87 = .ok (.iload_n 3, 1) := by decide +kernel
theorem dX10_splits_88 : decode cX10_splits 88 = .ok (.if_icmp .ge 47, 3) := by decide +kernel
theorem dX10_splits_91 : decode cX10_splits 91 = .ok (.aload_n 0, 1) := by decide +kernel
theorem dX10_splits_92 : decode cX10_splits 92 = .ok (.getfield 7, 3) := by decide +kernel
theorem dX10_splits_95 : decode cX10_splits 95 = .ok (.bipush 13, 2) := by decide +kernel
theorem dX10_splits_97 : decode cX10_splits 97 = .ok (.bipush 30, 2) := by decide +kernel
theorem dX10_splits_99 : decode cX10_splits 99 = .ok (.iload_n 1, 1) := by decide +kernel
theorem dX10_splits_100 : decode cX10_splits 100 = .ok (.iconst 1, 1) := by decide +kernel
theorem dX10_splits_101 : decode cX10_splits 101 = .ok (.iadd, 1) := by decide +kernel
theorem dX10_splits_102 : decode cX10_splits 102 = .ok (.imul, 1) := by decide +kernel
theorem dX10_splits_103 : decode cX10_splits 103 = .ok (.iadd, 1) := by decide +kernel
theorem dX10_splits_104 : decode cX10_splits 104 = .ok (.iload 5, 2) := by decide +kernel
theorem dX10_splits_106 : decode cX10_splits 106 = .ok (.iadd, 1) := by decide +kernel
theorem dX10_splits_107 : decode cX10_splits 107 = .ok (.aload_n 0, 1) := by decide +kernel
theorem dX10_splits_108 : decode cX10_splits 108 = .ok (.getfield 7, 3) := by decide +kernel
theorem dX10_splits_111 : decode cX10_splits 111 = .ok (.iload 4, 2) := by decide +kernel
theorem dX10_splits_113 : decode cX10_splits 113 = .ok (.iload 5, 2) := by decide +kernel
theorem dX10_splits_115 : decode cX10_splits 115 = .ok (.iadd, 1) := by decide +kernel
theorem dX10_splits_116 : decode cX10_splits 116 = .ok (.iaload, 1) := by decide +kernel
theorem dX10_splits_117 : decode cX10_splits 117 = .ok (.iastore, 1) := by decide +kernel
theorem dX10_splits_118 : decode cX10_splits 118 = .ok (.aload_n 0, 1) := by decide +kernel
theorem dX10_splits_119 : decode cX10_splits 119 = .ok (.getfield 7, 3) := by decide +kernel
theorem dX10_splits_122 : decode cX10_splits 122 = .ok (.iload 4, 2) := by decide +kernel
theorem dX10_splits_124 : decode cX10_splits 124 = .ok (.iload 5, 2) := by decide +kernel
theorem dX10_splits_126 : decode cX10_splits 126 = .ok (.iadd, 1) := by decide +kernel
theorem dX10_splits_127 : decode cX10_splits 127 = .ok (.iconst 0, 1) := by decide +kernel
theorem dX10_splits_128 : decode cX10_splits 128 = .ok (.iastore, 1) := by decide +kernel
theorem dX10_splits_129 : decode cX10_splits 129 = .ok (.iinc 5 1, 3) := by decide +kernel
theorem dX10_splits_132 : decode cX10_splits 132 = .ok (.goto (-47), 3) := by decide +kernel
theorem dX10_splits_135 : decode cX10_splits 135 = .ok (.aload_n 0, 1) := by decide +kernel
theorem dX10_splits_136 : decode cX10_splits 136 = .ok (.getfield 7, 3) := by decide +kernel
theorem dX10_splits_139 : decode cX10_splits 139 = .ok (.iconst 3, 1) := by decide +kernel
theorem dX10_splits_140 : decode cX10_splits 140 = .ok (.iload_n 1, 1) := by decide +kernel
theorem dX10_splits_141 : decode cX10_splits 141 = .ok (.iadd, 1) := by decide +kernel
theorem dX10_splits_142 : decode cX10_splits 142 = .ok (.iload_n 2, 1) := by decide +kernel
theorem dX10_splits_143 : decode cX10_splits 143 = .ok (.iastore, 1) := by decide +kernel
theorem dX10_splits_144 : decode cX10_splits 144 = .ok (.aload_n 0, 1) := by decide +kernel
theorem dX10_splits_145 : decode cX10_splits 145 = .ok (.getfield 7, 3) := by decide +kernel
theorem dX10_splits_148 : decode cX10_splits 148 = .ok (.iconst 3, 1) := by decide +kernel
theorem dX10_splits_149 : decode cX10_splits 149 = .ok (.iload_n 1, 1) := by decide +kernel
theorem dX10_splits_150 : decode cX10_splits 150 = .ok (.iadd, 1) := by decide +kernel
theorem dX10_splits_151 : decode cX10_splits 151 = .ok (.iconst 1, 1) := by decide +kernel
theorem dX10_splits_152 : decode cX10_splits 152 = .ok (.iadd, 1) := by decide +kernel
theorem dX10_splits_153 : decode cX10_splits 153 = .ok (.iload_n 3, 1) := by decide +kernel
theorem dX10_splits_154 : decode cX10_splits 154 = .ok (.iastore, 1) := by decide +kernel
theorem dX10_splits_155 : decode cX10_splits 155 = .ok (.aload_n 0, 1) := by decide +kernel
theorem dX10_splits_156 : decode cX10_splits 156 = .ok (.iload_n 1, 1) := by decide +kernel
theorem dX10_splits_157 : decode cX10_splits 157 = .ok (.iload_n 1, 1) := by decide +kernel
theorem dX10_splits_158 : decode cX10_splits 158 = .ok (.iconst 1, 1) := by decide +kernel
theorem dX10_splits_159 : decode cX10_splits 159 = .ok (.iadd, 1) := by decide +kernel
theorem dX10_splits_160 : decode cX10_splits 160 = .ok (.invokevirtual 147, 3) := by decide +kernel
theorem dX10_splits_163 : decode cX10_splits 163 = .ok (.aload_n 0, 1) := by decide +kernel
theorem dX10_splits_164 : decode cX10_splits 164 = .ok (.getfield 7, 3) := by decide +kernel
theorem dX10_splits_167 : decode cX10_splits 167 = .ok (.iconst 0, 1) := by decide +kernel
theorem dX10_splits_168 : decode cX10_splits 168 = .ok (.iaload, 1) := by decide +kernel
theorem dX10_splits_169 : decode cX10_splits 169 = .ok (.ireturn, 1) := by decide +kernel
theorem dX10_isTextWord_0 : decode cX10_isTextWord 0 = .ok (.aload_n 0, 1) := by decide +kernel
theorem dX10_isTextWord_1 : decode cX10_isTextWord 1 = .ok (.getfield 131, 3) := by decide +kernel
theorem dX10_isTextWord_4 : decode cX10_isTextWord 4 = .ok (.iconst 1, 1) := by decide +kernel
theorem dX10_isTextWord_5 : decode cX10_isTextWord 5 = .ok (.iconst 5, 1) := by decide +kernel
theorem dX10_isTextWord_6 : decode cX10_isTextWord 6 = .ok (.invokestatic 57, 3) := by decide +kernel
theorem dX10_isTextWord_9 : decode cX10_isTextWord 9 = .ok (.istore_n 1, 1) := by decide +kernel
theorem dX10_isTextWord_10 : decode cX10_isTextWord 10 = .ok (.iconst 0, 1) := by decide +kernel
theorem dX10_isTextWord_11 : decode cX10_isTextWord 11 = .ok (.istore_n 2, 1) := by decide +kernel
theorem dX10_isTextWord_12 : decode cX10_isTextWord 12 = .ok (.iload_n 2, 1) := by decide +kernel
theorem dX10_isTextWord_13 : decode cX10_isTextWord 13 = .ok (.aload_n 0, 1) := by decide +kernel
theorem dX10_isTextWord_14 : decode cX10_isTextWord 14 = .ok (.getfield 131, 3) := by decide +kernel
theorem dX10_isTextWord_17 : decode cX10_isTextWord 17 = .ok (.if_icmp .ge 31, 3) := by decide +kernel
theorem dX10_isTextWord_20 : decode cX10_isTextWord 20 = .ok (.iload_n 1, 1) := by decide +kernel
theorem dX10_isTextWord_21 : decode cX10_isTextWord 21 = .ok (.ifCond .eq 19, 3) := by decide +kernel
theorem dX10_isTextWord_24 : decode cX10_isTextWord 24 = .ok (.aload_n 0, 1) := by decide +kernel
theorem dX10_isTextWord_25 : decode cX10_isTextWord 25 = .ok (.getfield 19, 3) := by decide +kernel
theorem dX10_isTextWord_28 : decode cX10_isTextWord 28 = .ok (.iload_n 2, 1) := by decide +kernel
theorem dX10_isTextWord_29 : decode cX10_isTextWord 29 = .ok (.iaload, 1) := by decide +kernel
theorem dX10_isTextWord_30 : decode cX10_isTextWord 30 = .ok (.invokestatic 82, 3) := by decide +kernel
theorem dX10_isTextWord_33 : decode cX10_isTextWord 33 = .ok (.ifCond .eq 7, 3) := by decide +kernel
theorem dX10_isTextWord_36 : decode cX10_isTextWord 36 = .ok (.iconst 1, 1) := by decide +kernel
theorem dX10_isTextWord_37 : decode cX10_isTextWord 37 = .ok (.goto 4, 3) := by decide +kernel
theorem dX10_isTextWord_40 : decode cX10_isTextWord 40 = .ok (.iconst 0, 1) := by decide +kernel
theorem dX10_isTextWord_41 : decode cX10_isTextWord 41 = .ok (.istore_n 1, 1) := by decide +kernel
theorem dX10_isTextWord_42 : decode cX10_isTextWord 42 = .ok (.iinc 2 1, 3) := by decide +kernel
theorem dX10_isTextWord_45 : decode cX10_isTextWord 45 = .ok (.goto (-33), 3) := by decide +kernel
theorem dX10_isTextWord_48 : decode cX10_isTextWord 48 = .ok (.iload_n 1, 1) := by decide +kernel
theorem dX10_isTextWord_49 : decode cX10_isTextWord 49 = .ok (.ireturn, 1) := by decide +kernel
theorem dX10_isTold_0 : decode cX10_isTold 0 = .ok (.iconst 0, 1) := by decide +kernel
theorem dX10_isTold_1 : decode cX10_isTold 1 = .ok (.istore_n 1, 1) := by decide +kernel
theorem dX10_isTold_2 : decode cX10_isTold 2 = .ok (.iconst 0, 1) := by decide +kernel
theorem dX10_isTold_3 : decode cX10_isTold 3 = .ok (.istore_n 2, 1) := by decide +kernel
theorem dX10_isTold_4 : decode cX10_isTold 4 = .ok (.iload_n 2, 1) := by decide +kernel
theorem dX10_isTold_5 : decode cX10_isTold 5 = .ok (.aload_n 0, 1) := by decide +kernel
theorem dX10_isTold_6 : decode cX10_isTold 6 = .ok (.getfield 7, 3) := by decide +kernel
theorem dX10_isTold_9 : decode cX10_isTold 9 = .ok (.iconst 1, 1) := by decide +kernel
theorem dX10_isTold_10 : decode cX10_isTold 10 = .ok (.iaload, 1) := by decide +kernel
theorem dX10_isTold_11 : decode cX10_isTold 11 = .ok (.if_icmp .ge 99, 3) := by decide +kernel
theorem dX10_isTold_14 : decode cX10_isTold 14 = .ok (.aload_n 0, 1) := by decide +kernel
theorem dX10_isTold_15 : decode cX10_isTold 15 = .ok (.getfield 7, 3) := by decide +kernel
theorem dX10_isTold_18 : decode cX10_isTold 18 = .ok (.sipush 313, 3) := by decide +kernel
theorem dX10_isTold_21 : decode cX10_isTold 21 = .ok (.iload_n 2, 1) := by decide +kernel
theorem dX10_isTold_22 : decode cX10_isTold 22 = .ok (.iadd, 1) := by decide +kernel
theorem dX10_isTold_23 : decode cX10_isTold 23 = .ok (.iaload, 1) := by decide +kernel
theorem dX10_isTold_24 : decode cX10_isTold 24 = .ok (.aload_n 0, 1) := by decide +kernel
theorem dX10_isTold_25 : decode cX10_isTold 25 = .ok (.getfield 131, 3) := by decide +kernel
theorem dX10_isTold_28 : decode cX10_isTold 28 = .ok (.if_icmp .ne 7, 3) := by decide +kernel
theorem dX10_isTold_31 : decode cX10_isTold 31 = .ok (.iconst 1, 1) := by decide +kernel
theorem dX10_isTold_32 : decode cX10_isTold 32 = .ok (.goto 4, 3) := by decide +kernel
theorem dX10_isTold_35 : decode cX10_isTold 35 = .ok (.iconst 0, 1) := by decide +kernel
theorem dX10_isTold_36 : decode cX10_isTold 36 = .ok (.istore_n 3, 1) := by decide +kernel
theorem dX10_isTold_37 : decode cX10_isTold 37 = .ok (.iconst 0, 1) := by decide +kernel
theorem dX10_isTold_38 : decode cX10_isTold 38 = .ok (.istore 4, 2) := by decide +kernel
theorem dX10_isTold_40 : decode cX10_isTold 40 = .ok (.iload 4, 2) := by decide +kernel
theorem dX10_isTold_42 : decode cX10_isTold 42 = .ok (.aload_n 0, 1) := by decide +kernel
theorem dX10_isTold_43 : decode cX10_isTold 43 = .ok (.getfield 131, 3) := by decide +kernel
theorem dX10_isTold_46 : decode cX10_isTold 46 = .ok (.if_icmp .ge 44, 3) := by decide +kernel
theorem dX10_isTold_49 : decode cX10_isTold 49 = .ok (.iload_n 3, 1) := by decide +kernel
theorem dX10_isTold_50 : decode cX10_isTold 50 = .ok (.ifCond .eq 40, 3) := by decide +kernel
theorem dX10_isTold_53 : decode cX10_isTold 53 = .ok (.aload_n 0, 1) := by decide +kernel
theorem dX10_isTold_54 : decode cX10_isTold 54 = .ok (.getfield 7, 3) := by decide +kernel
theorem dX10_isTold_57 : decode cX10_isTold 57 = .ok (.sipush 317, 3) := by decide +kernel
theorem dX10_isTold_60 : decode cX10_isTold 60 = .ok (.iconst 5, 1) := by decide +kernel
theorem dX10_isTold_61 : decode cX10_isTold 61 = .ok (.iload_n 2, 1) := by decide +kernel
theorem dX10_isTold_62 : decode cX10_isTold 62 = .ok (.imul, 1) := by decide +kernel
theorem dX10_isTold_63 : decode cX10_isTold 63 = .ok (.iadd, 1) := by decide +kernel
theorem dX10_isTold_64 : decode cX10_isTold 64 = .ok (.iload 4, 2) := by decide +kernel
theorem dX10_isTold_66 : decode cX10_isTold 66 = .ok (.iadd, 1) := by decide +kernel
theorem dX10_isTold_67 : decode cX10_isTold 67 = .ok (.iaload, 1) := by decide +kernel
theorem dX10_isTold_68 : decode cX10_isTold 68 = .ok (.aload_n 0, 1) := by decide +kernel
theorem dX10_isTold_69 : decode cX10_isTold 69 = .ok (.getfield 19, 3) := by decide +kernel
theorem dX10_isTold_72 : decode cX10_isTold 72 = .ok (.iload 4, 2) := by decide +kernel
theorem dX10_isTold_74 : decode cX10_isTold 74 = .ok (.iaload, 1) := by decide +kernel
theorem dX10_isTold_75 : decode cX10_isTold 75 = .ok (.if_icmp .ne 7, 3) := by decide +kernel
theorem dX10_isTold_78 : decode cX10_isTold 78 = .ok (.iconst 1, 1) := by decide +kernel
theorem dX10_isTold_79 : decode cX10_isTold 79 = .ok (.goto 4, 3) := by decide +kernel
theorem dX10_isTold_82 : decode cX10_isTold 82 = .ok (.iconst 0, 1) := by decide +kernel
theorem dX10_isTold_83 : decode cX10_isTold 83 = .ok (.istore_n 3, 1) := by decide +kernel
theorem dX10_isTold_84 : decode cX10_isTold 84 = .ok (.iinc 4 1, 3) := by decide +kernel
theorem dX10_isTold_87 : decode cX10_isTold 87 = .ok (.goto (-47), 3) := by decide +kernel
theorem dX10_isTold_90 : decode cX10_isTold 90 = .ok (.iload_n 1, 1) := by decide +kernel
theorem dX10_isTold_91 : decode cX10_isTold 91 = .ok (.ifCond .ne 7, 3) := by decide +kernel
theorem dX10_isTold_94 : decode cX10_isTold 94 = .ok (.iload_n 3, 1) := by decide +kernel
theorem dX10_isTold_95 : decode cX10_isTold 95 = .ok (.ifCond .eq 7, 3) := by decide +kernel
theorem dX10_isTold_98 : decode cX10_isTold 98 = .ok (.iconst 1, 1) := by decide +kernel
theorem dX10_isTold_99 : decode cX10_isTold 99 = .ok (.goto 4, 3) := by decide +kernel
theorem dX10_isTold_102 : decode cX10_isTold 102 = .ok (.iconst 0, 1) := by decide +kernel
theorem dX10_isTold_103 : decode cX10_isTold 103 = .ok (.istore_n 1, 1) := by decide +kernel
theorem dX10_isTold_104 : decode cX10_isTold 104 = .ok (.iinc 2 1, 3) := by decide +kernel
theorem dX10_isTold_107 : decode cX10_isTold 107 = .ok (.goto (-103), 3) := by decide +kernel
theorem dX10_isTold_110 : decode cX10_isTold 110 = .ok (.iload_n 1, 1) := by decide +kernel
theorem dX10_isTold_111 : decode cX10_isTold 111 = .ok (.ireturn, 1) := by decide +kernel
theorem dX10_word_0 : decode cX10_word 0 = .ok (.aload_n 0, 1) := by decide +kernel
theorem dX10_word_1 : decode cX10_word 1 = .ok (.invokevirtual 153, 3) := by decide +kernel
theorem dX10_word_4 : decode cX10_word 4 = .ok (.ifCond .eq 10, 3) := by decide +kernel
theorem dX10_word_7 : decode cX10_word 7 = .ok (.aload_n 0, 1) := by decide +kernel
theorem dX10_word_8 : decode cX10_word 8 = .ok (.invokevirtual 157, 3) := by decide +kernel
theorem dX10_word_11 : decode cX10_word 11 = .ok (.ifCond .eq 10, 3) := by decide +kernel
theorem dX10_word_14 : decode cX10_word 14 = .ok (.aload_n 0, 1) := by decide +kernel
theorem dX10_word_15 : decode cX10_word 15 = .ok (.bipush (-3), 2) := by decide +kernel
theorem dX10_word_17 : decode cX10_word 17 = .ok (.invokevirtual 128, 3) := by decide +kernel
theorem dX10_word_20 : decode cX10_word 20 = .ok (.ireturn, 1) := by decide +kernel
theorem dX10_word_21 : decode cX10_word 21 = .ok (.aload_n 0, 1) := by decide +kernel
theorem dX10_word_22 : decode cX10_word 22 = .ok (.getfield 7, 3) := by decide +kernel
theorem dX10_word_25 : decode cX10_word 25 = .ok (.iconst 1, 1) := by decide +kernel
theorem dX10_word_26 : decode cX10_word 26 = .ok (.iaload, 1) := by decide +kernel
theorem dX10_word_27 : decode cX10_word 27 = .ok (.iconst 4, 1) := by decide +kernel
theorem dX10_word_28 : decode cX10_word 28 = .ok (.if_icmp .ne 10, 3) := by decide +kernel
theorem dX10_word_31 : decode cX10_word 31 = .ok (.aload_n 0, 1) := by decide +kernel
theorem dX10_word_32 : decode cX10_word 32 = .ok (.bipush (-4), 2) := by decide +kernel
theorem dX10_word_34 : decode cX10_word 34 = .ok (.invokevirtual 128, 3) := by decide +kernel
theorem dX10_word_37 : decode cX10_word 37 = .ok (.ireturn, 1) := by decide +kernel
theorem dX10_word_38 : decode cX10_word 38 = .ok (.aload_n 0, 1) := by decide +kernel
theorem dX10_word_39 : decode cX10_word 39 = .ok (.invokevirtual 137, 3) := by decide +kernel
theorem dX10_word_42 : decode cX10_word 42 = .ok (.aload_n 0, 1) := by decide +kernel
theorem dX10_word_43 : decode cX10_word 43 = .ok (.getfield 7, 3) := by decide +kernel
theorem dX10_word_46 : decode cX10_word 46 = .ok (.iconst 1, 1) := by decide +kernel
theorem dX10_word_47 : decode cX10_word 47 = .ok (.iaload, 1) := by decide +kernel
theorem dX10_word_48 : decode cX10_word 48 = .ok (.istore_n 1, 1) := by decide +kernel
theorem dX10_word_49 : decode cX10_word 49 = .ok (.aload_n 0, 1) := by decide +kernel
theorem dX10_word_50 : decode cX10_word 50 = .ok (.getfield 7, 3) := by decide +kernel
theorem dX10_word_53 : decode cX10_word 53 = .ok (.sipush 313, 3) := by decide +kernel
theorem dX10_word_56 : decode cX10_word 56 = .ok (.iload_n 1, 1) := by decide +kernel
theorem dX10_word_57 : decode cX10_word 57 = .ok (.iadd, 1) := by decide +kernel
theorem dX10_word_58 : decode cX10_word 58 = .ok (.aload_n 0, 1) := by decide +kernel
theorem dX10_word_59 : decode cX10_word 59 = .ok (.getfield 131, 3) := by decide +kernel
theorem dX10_word_62 : decode cX10_word 62 = .ok (.iastore, 1) := by decide +kernel
theorem dX10_word_63 : decode cX10_word 63 = .ok (.iconst 0, 1) := by decide +kernel
theorem dX10_word_64 : decode cX10_word 64 = .ok (.istore_n 2, 1) := by decide +kernel
theorem dX10_word_65 : decode cX10_word 65 = .ok (.iload_n 2, 1) := by decide +kernel
theorem dX10_word_66 : decode cX10_word 66 = .ok (.aload_n 0, 1) := by decide +kernel
theorem dX10_word_67 : decode cX10_word 67 = .ok (.getfield 131, 3) := by decide +kernel
theorem dX10_word_70 : decode cX10_word 70 = .ok (.if_icmp .ge 29, 3) := by decide +kernel
theorem dX10_word_73 : decode cX10_word 73 = .ok (.aload_n 0, 1) := by decide +kernel
theorem dX10_word_74 : decode cX10_word 74 = .ok (.getfield 7, 3) := by decide +kernel
theorem dX10_word_77 : decode cX10_word 77 = .ok (.sipush 317, 3) := by decide +kernel
theorem dX10_word_80 : decode cX10_word 80 = .ok (.iconst 5, 1) := by decide +kernel
theorem dX10_word_81 : decode cX10_word 81 = .ok (.iload_n 1, 1) := by decide +kernel
theorem dX10_word_82 : decode cX10_word 82 = .ok (.imul, 1) := by decide +kernel
theorem dX10_word_83 : decode cX10_word 83 = .ok (.iadd, 1) := by decide +kernel
theorem dX10_word_84 : decode cX10_word 84 = .ok (.iload_n 2, 1) := by decide +kernel
theorem dX10_word_85 : decode cX10_word 85 = .ok (.iadd, 1) := by decide +kernel
theorem dX10_word_86 : decode cX10_word 86 = .ok (.aload_n 0, 1) := by decide +kernel
theorem dX10_word_87 : decode cX10_word 87 = .ok (.getfield 19, 3) := by decide +kernel
theorem dX10_word_90 : decode cX10_word 90 = .ok (.iload_n 2, 1) := by decide +kernel
theorem dX10_word_91 : decode cX10_word 91 = .ok (.iaload, 1) := by decide +kernel
theorem dX10_word_92 : decode cX10_word 92 = .ok (.iastore, 1) := by decide +kernel
theorem dX10_word_93 : decode cX10_word 93 = .ok (.iinc 2 1, 3) := by decide +kernel
theorem dX10_word_96 : decode cX10_word 96 = .ok (.goto (-31), 3) := by decide +kernel
theorem dX10_word_99 : decode cX10_word 99 = .ok (.aload_n 0, 1) := by decide +kernel
theorem dX10_word_100 : decode cX10_word 100 = .ok (.getfield 7, 3) := by decide +kernel
theorem dX10_word_103 : decode cX10_word 103 = .ok (.iconst 1, 1) := by decide +kernel
theorem dX10_word_104 : decode cX10_word 104 = .ok (.dup2, 1) := by decide +kernel
theorem dX10_word_105 : decode cX10_word 105 = .ok (.iaload, 1) := by decide +kernel
theorem dX10_word_106 : decode cX10_word 106 = .ok (.iconst 1, 1) := by decide +kernel
theorem dX10_word_107 : decode cX10_word 107 = .ok (.iadd, 1) := by decide +kernel
theorem dX10_word_108 : decode cX10_word 108 = .ok (.iastore, 1) := by decide +kernel
theorem dX10_word_109 : decode cX10_word 109 = .ok (.aload_n 0, 1) := by decide +kernel
theorem dX10_word_110 : decode cX10_word 110 = .ok (.iconst 0, 1) := by decide +kernel
theorem dX10_word_111 : decode cX10_word 111 = .ok (.aload_n 0, 1) := by decide +kernel
theorem dX10_word_112 : decode cX10_word 112 = .ok (.getfield 7, 3) := by decide +kernel
theorem dX10_word_115 : decode cX10_word 115 = .ok (.iconst 0, 1) := by decide +kernel
theorem dX10_word_116 : decode cX10_word 116 = .ok (.iaload, 1) := by decide +kernel
theorem dX10_word_117 : decode cX10_word 117 = .ok (.invokevirtual 147, 3) := by decide +kernel
theorem dX10_word_120 : decode cX10_word 120 = .ok (.iload_n 1, 1) := by decide +kernel
theorem dX10_word_121 : decode cX10_word 121 = .ok (.ireturn, 1) := by decide +kernel
theorem dX10_unword_0 : decode cX10_unword 0 = .ok (.iload_n 1, 1) := by decide +kernel
theorem dX10_unword_1 : decode cX10_unword 1 = .ok (.iconst 0, 1) := by decide +kernel
theorem dX10_unword_2 : decode cX10_unword 2 = .ok (.bipush 25, 2) := by decide +kernel
theorem dX10_unword_4 : decode cX10_unword 4 = .ok (.invokestatic 57, 3) := by decide +kernel
theorem dX10_unword_7 : decode cX10_unword 7 = .ok (.ifCond .ne 10, 3) := by decide +kernel
theorem dX10_unword_10 : decode cX10_unword 10 = .ok (.aload_n 0, 1) := by decide +kernel
theorem dX10_unword_11 : decode cX10_unword 11 = .ok (.bipush (-2), 2) := by decide +kernel
theorem dX10_unword_13 : decode cX10_unword 13 = .ok (.invokevirtual 128, 3) := by decide +kernel
theorem dX10_unword_16 : decode cX10_unword 16 = .ok (.ireturn, 1) := by decide +kernel
theorem dX10_unword_17 : decode cX10_unword 17 = .ok (.aload_n 0, 1) := by decide +kernel
theorem dX10_unword_18 : decode cX10_unword 18 = .ok (.invokevirtual 137, 3) := by decide +kernel
theorem dX10_unword_21 : decode cX10_unword 21 = .ok (.iconst 0, 1) := by decide +kernel
theorem dX10_unword_22 : decode cX10_unword 22 = .ok (.istore_n 2, 1) := by decide +kernel
theorem dX10_unword_23 : decode cX10_unword 23 = .ok (.aload_n 0, 1) := by decide +kernel
theorem dX10_unword_24 : decode cX10_unword 24 = .ok (.getfield 7, 3) := by decide +kernel
theorem dX10_unword_27 : decode cX10_unword 27 = .ok (.iconst 1, 1) := by decide +kernel
theorem dX10_unword_28 : decode cX10_unword 28 = .ok (.iaload, 1) := by decide +kernel
theorem dX10_unword_29 : decode cX10_unword 29 = .ok (.istore_n 3, 1) := by decide +kernel
theorem dX10_unword_30 : decode cX10_unword 30 = .ok (.iconst 0, 1) := by decide +kernel
theorem dX10_unword_31 : decode cX10_unword 31 = .ok (.istore 4, 2) := by decide +kernel
theorem dX10_unword_33 : decode cX10_unword 33 = .ok (.iload 4, 2) := by decide +kernel
theorem dX10_unword_35 : decode cX10_unword 35 = .ok (.iload_n 3, 1) := by decide +kernel
theorem dX10_unword_36 : decode cX10_unword 36 = .ok (.if_icmp .ge 99, 3) := by decide +kernel
theorem dX10_unword_39 : decode cX10_unword 39 = .ok (.aload_n 0, 1) := by decide +kernel
theorem dX10_unword_40 : decode cX10_unword 40 = .ok (.getfield 7, 3) := by decide +kernel
theorem dX10_unword_43 : decode cX10_unword 43 = .ok (.sipush 317, 3) := by decide +kernel
theorem dX10_unword_46 : decode cX10_unword 46 = .ok (.iconst 5, 1) := by decide +kernel
theorem dX10_unword_47 : decode cX10_unword 47 = .ok (.iload 4, 2) := by decide +kernel
theorem dX10_unword_49 : decode cX10_unword 49 = .ok (.imul, 1) := by decide +kernel
theorem dX10_unword_50 : decode cX10_unword 50 = .ok (.iadd, 1) := by decide +kernel
theorem dX10_unword_51 : decode cX10_unword 51 = .ok (.iaload, 1) := by decide +kernel
theorem dX10_unword_52 : decode cX10_unword 52 = .ok (.bipush 97, 2) := by decide +kernel
theorem dX10_unword_54 : decode cX10_unword 54 = .ok (.iload_n 1, 1) := by decide +kernel
theorem dX10_unword_55 : decode cX10_unword 55 = .ok (.iadd, 1) := by decide +kernel
theorem dX10_unword_56 : decode cX10_unword 56 = .ok (.if_icmp .eq 73, 3) := by decide +kernel
theorem dX10_unword_59 : decode cX10_unword 59 = .ok (.aload_n 0, 1) := by decide +kernel
theorem dX10_unword_60 : decode cX10_unword 60 = .ok (.getfield 7, 3) := by decide +kernel
theorem dX10_unword_63 : decode cX10_unword 63 = .ok (.sipush 313, 3) := by decide +kernel
theorem dX10_unword_66 : decode cX10_unword 66 = .ok (.iload_n 2, 1) := by decide +kernel
theorem dX10_unword_67 : decode cX10_unword 67 = .ok (.iadd, 1) := by decide +kernel
theorem dX10_unword_68 : decode cX10_unword 68 = .ok (.aload_n 0, 1) := by decide +kernel
theorem dX10_unword_69 : decode cX10_unword 69 = .ok (.getfield 7, 3) := by decide +kernel
theorem dX10_unword_72 : decode cX10_unword 72 = .ok (.sipush 313, 3) := by decide +kernel
theorem dX10_unword_75 : decode cX10_unword 75 = .ok (.iload 4, 2) := by decide +kernel
theorem dX10_unword_77 : decode cX10_unword 77 = .ok (.iadd, 1) := by decide +kernel
theorem dX10_unword_78 : decode cX10_unword 78 = .ok (.iaload, 1) := by decide +kernel
theorem dX10_unword_79 : decode cX10_unword 79 = .ok (.iastore, 1) := by decide +kernel
theorem dX10_unword_80 : decode cX10_unword 80 = .ok (.iconst 0, 1) := by decide +kernel
theorem dX10_unword_81 : decode cX10_unword 81 = .ok (.istore 5, 2) := by decide +kernel
theorem dX10_unword_83 : decode cX10_unword 83 = .ok (.iload 5, 2) := by decide +kernel
theorem dX10_unword_85 : decode cX10_unword 85 = .ok (.iconst 5, 1) := by decide +kernel
theorem dX10_unword_86 : decode cX10_unword 86 = .ok (.if_icmp .ge 40, 3) := by decide +kernel
theorem dX10_unword_89 : decode cX10_unword 89 = .ok (.aload_n 0, 1) := by decide +kernel
theorem dX10_unword_90 : decode cX10_unword 90 = .ok (.getfield 7, 3) := by decide +kernel
theorem dX10_unword_93 : decode cX10_unword 93 = .ok (.sipush 317, 3) := by decide +kernel
theorem dX10_unword_96 : decode cX10_unword 96 = .ok (.iconst 5, 1) := by decide +kernel
theorem dX10_unword_97 : decode cX10_unword 97 = .ok (.iload_n 2, 1) := by decide +kernel
theorem dX10_unword_98 : decode cX10_unword 98 = .ok (.imul, 1) := by decide +kernel
theorem dX10_unword_99 : decode cX10_unword 99 = .ok (.iadd, 1) := by decide +kernel
theorem dX10_unword_100 : decode cX10_unword 100 = .ok (.iload 5, 2) := by decide +kernel
theorem dX10_unword_102 : decode cX10_unword 102 = .ok (.iadd, 1) := by decide +kernel
theorem dX10_unword_103 : decode cX10_unword 103 = .ok (.aload_n 0, 1) := by decide +kernel
theorem dX10_unword_104 : decode cX10_unword 104 = .ok (.getfield 7, 3) := by decide +kernel
theorem dX10_unword_107 : decode cX10_unword 107 = .ok (.sipush 317, 3) := by decide +kernel
theorem dX10_unword_110 : decode cX10_unword 110 = .ok (.iconst 5, 1) := by decide +kernel
theorem dX10_unword_111 : decode cX10_unword 111 = .ok (.iload 4, 2) := by decide +kernel
theorem dX10_unword_113 : decode cX10_unword 113 = .ok (.imul, 1) := by decide +kernel
theorem dX10_unword_114 : decode cX10_unword 114 = .ok (.iadd, 1) := by decide +kernel
theorem dX10_unword_115 : decode cX10_unword 115 = .ok (.iload 5, 2) := by decide +kernel
end
section
theorem dX10_unword_117 : decode cX10_unword 117 = .ok (.iadd, 1) := by decide +kernel
theorem dX10_unword_118 : decode cX10_unword 118 = .ok (.iaload, 1) := by decide +kernel
theorem dX10_unword_119 : decode cX10_unword 119 = .ok (.iastore, 1) := by decide +kernel
theorem dX10_unword_120 : decode cX10_unword 120 = .ok (.iinc 5 1, 3) := by decide +kernel
theorem dX10_unword_123 : decode cX10_unword 123 = .ok (.goto (-40), 3) := by decide +kernel
theorem dX10_unword_126 : decode cX10_unword 126 = .ok (.iinc 2 1, 3) := by decide +kernel
theorem dX10_unword_129 : decode cX10_unword 129 = .ok (.iinc 4 1, 3) := by decide +kernel
theorem dX10_unword_132 : decode cX10_unword 132 = .ok (.goto (-99), 3) := by decide +kernel
theorem dX10_unword_135 : decode cX10_unword 135 = .ok (.aload_n 0, 1) := by decide +kernel
theorem dX10_unword_136 : decode cX10_unword 136 = .ok (.getfield 7, 3) := by decide +kernel
theorem dX10_unword_139 : decode cX10_unword 139 = .ok (.iconst 1, 1) := by decide +kernel
theorem dX10_unword_140 : decode cX10_unword 140 = .ok (.iload_n 2, 1) := by decide +kernel
theorem dX10_unword_141 : decode cX10_unword 141 = .ok (.iastore, 1) := by decide +kernel
theorem dX10_unword_142 : decode cX10_unword 142 = .ok (.aload_n 0, 1) := by decide +kernel
theorem dX10_unword_143 : decode cX10_unword 143 = .ok (.iconst 0, 1) := by decide +kernel
theorem dX10_unword_144 : decode cX10_unword 144 = .ok (.aload_n 0, 1) := by decide +kernel
theorem dX10_unword_145 : decode cX10_unword 145 = .ok (.getfield 7, 3) := by decide +kernel
theorem dX10_unword_148 : decode cX10_unword 148 = .ok (.iconst 0, 1) := by decide +kernel
theorem dX10_unword_149 : decode cX10_unword 149 = .ok (.iaload, 1) := by decide +kernel
theorem dX10_unword_150 : decode cX10_unword 150 = .ok (.invokevirtual 147, 3) := by decide +kernel
theorem dX10_unword_153 : decode cX10_unword 153 = .ok (.iload_n 3, 1) := by decide +kernel
theorem dX10_unword_154 : decode cX10_unword 154 = .ok (.iload_n 2, 1) := by decide +kernel
theorem dX10_unword_155 : decode cX10_unword 155 = .ok (.isub, 1) := by decide +kernel
theorem dX10_unword_156 : decode cX10_unword 156 = .ok (.ireturn, 1) := by decide +kernel
theorem dX10_rule_0 : decode cX10_rule 0 = .ok (.iload_n 1, 1) := by decide +kernel
theorem dX10_rule_1 : decode cX10_rule 1 = .ok (.iconst (-1), 1) := by decide +kernel
theorem dX10_rule_2 : decode cX10_rule 2 = .ok (.bipush 7, 2) := by decide +kernel
theorem dX10_rule_4 : decode cX10_rule 4 = .ok (.invokestatic 57, 3) := by decide +kernel
theorem dX10_rule_7 : decode cX10_rule 7 = .ok (.ifCond .eq 22, 3) := by decide +kernel
theorem dX10_rule_10 : decode cX10_rule 10 = .ok (.iload_n 2, 1) := by decide +kernel
theorem dX10_rule_11 : decode cX10_rule 11 = .ok (.iconst (-1), 1) := by decide +kernel
theorem dX10_rule_12 : decode cX10_rule 12 = .ok (.iconst 2, 1) := by decide +kernel
theorem dX10_rule_13 : decode cX10_rule 13 = .ok (.invokestatic 57, 3) := by decide +kernel
theorem dX10_rule_16 : decode cX10_rule 16 = .ok (.ifCond .eq 13, 3) := by decide +kernel
theorem dX10_rule_19 : decode cX10_rule 19 = .ok (.iload_n 3, 1) := by decide +kernel
theorem dX10_rule_20 : decode cX10_rule 20 = .ok (.iconst 0, 1) := by decide +kernel
theorem dX10_rule_21 : decode cX10_rule 21 = .ok (.bipush 99, 2) := by decide +kernel
theorem dX10_rule_23 : decode cX10_rule 23 = .ok (.invokestatic 57, 3) := by decide +kernel
theorem dX10_rule_26 : decode cX10_rule 26 = .ok (.ifCond .ne 10, 3) := by decide +kernel
theorem dX10_rule_29 : decode cX10_rule 29 = .ok (.aload_n 0, 1) := by decide +kernel
theorem dX10_rule_30 : decode cX10_rule 30 = .ok (.bipush (-2), 2) := by decide +kernel
theorem dX10_rule_32 : decode cX10_rule 32 = .ok (.invokevirtual 128, 3) := by decide +kernel
theorem dX10_rule_35 : decode cX10_rule 35 = .ok (.ireturn, 1) := by decide +kernel
theorem dX10_rule_36 : decode cX10_rule 36 = .ok (.aload_n 0, 1) := by decide +kernel
theorem dX10_rule_37 : decode cX10_rule 37 = .ok (.getfield 7, 3) := by decide +kernel
theorem dX10_rule_40 : decode cX10_rule 40 = .ok (.iconst 2, 1) := by decide +kernel
theorem dX10_rule_41 : decode cX10_rule 41 = .ok (.iaload, 1) := by decide +kernel
theorem dX10_rule_42 : decode cX10_rule 42 = .ok (.bipush 12, 2) := by decide +kernel
theorem dX10_rule_44 : decode cX10_rule 44 = .ok (.if_icmp .ne 10, 3) := by decide +kernel
theorem dX10_rule_47 : decode cX10_rule 47 = .ok (.aload_n 0, 1) := by decide +kernel
theorem dX10_rule_48 : decode cX10_rule 48 = .ok (.bipush (-4), 2) := by decide +kernel
theorem dX10_rule_50 : decode cX10_rule 50 = .ok (.invokevirtual 128, 3) := by decide +kernel
theorem dX10_rule_53 : decode cX10_rule 53 = .ok (.ireturn, 1) := by decide +kernel
theorem dX10_rule_54 : decode cX10_rule 54 = .ok (.aload_n 0, 1) := by decide +kernel
theorem dX10_rule_55 : decode cX10_rule 55 = .ok (.invokevirtual 137, 3) := by decide +kernel
theorem dX10_rule_58 : decode cX10_rule 58 = .ok (.sipush 337, 3) := by decide +kernel
theorem dX10_rule_61 : decode cX10_rule 61 = .ok (.iconst 3, 1) := by decide +kernel
theorem dX10_rule_62 : decode cX10_rule 62 = .ok (.aload_n 0, 1) := by decide +kernel
theorem dX10_rule_63 : decode cX10_rule 63 = .ok (.getfield 7, 3) := by decide +kernel
theorem dX10_rule_66 : decode cX10_rule 66 = .ok (.iconst 2, 1) := by decide +kernel
theorem dX10_rule_67 : decode cX10_rule 67 = .ok (.iaload, 1) := by decide +kernel
theorem dX10_rule_68 : decode cX10_rule 68 = .ok (.imul, 1) := by decide +kernel
theorem dX10_rule_69 : decode cX10_rule 69 = .ok (.iadd, 1) := by decide +kernel
theorem dX10_rule_70 : decode cX10_rule 70 = .ok (.istore 4, 2) := by decide +kernel
theorem dX10_rule_72 : decode cX10_rule 72 = .ok (.aload_n 0, 1) := by decide +kernel
theorem dX10_rule_73 : decode cX10_rule 73 = .ok (.getfield 7, 3) := by decide +kernel
theorem dX10_rule_76 : decode cX10_rule 76 = .ok (.iload 4, 2) := by decide +kernel
theorem dX10_rule_78 : decode cX10_rule 78 = .ok (.iload_n 1, 1) := by decide +kernel
theorem dX10_rule_79 : decode cX10_rule 79 = .ok (.iastore, 1) := by decide +kernel
theorem dX10_rule_80 : decode cX10_rule 80 = .ok (.aload_n 0, 1) := by decide +kernel
theorem dX10_rule_81 : decode cX10_rule 81 = .ok (.getfield 7, 3) := by decide +kernel
theorem dX10_rule_84 : decode cX10_rule 84 = .ok (.iload 4, 2) := by decide +kernel
theorem dX10_rule_86 : decode cX10_rule 86 = .ok (.iconst 1, 1) := by decide +kernel
theorem dX10_rule_87 : decode cX10_rule 87 = .ok (.iadd, 1) := by decide +kernel
theorem dX10_rule_88 : decode cX10_rule 88 = .ok (.iload_n 2, 1) := by decide +kernel
theorem dX10_rule_89 : decode cX10_rule 89 = .ok (.iastore, 1) := by decide +kernel
theorem dX10_rule_90 : decode cX10_rule 90 = .ok (.aload_n 0, 1) := by decide +kernel
theorem dX10_rule_91 : decode cX10_rule 91 = .ok (.getfield 7, 3) := by decide +kernel
theorem dX10_rule_94 : decode cX10_rule 94 = .ok (.iload 4, 2) := by decide +kernel
theorem dX10_rule_96 : decode cX10_rule 96 = .ok (.iconst 2, 1) := by decide +kernel
theorem dX10_rule_97 : decode cX10_rule 97 = .ok (.iadd, 1) := by decide +kernel
theorem dX10_rule_98 : decode cX10_rule 98 = .ok (.iload_n 3, 1) := by decide +kernel
theorem dX10_rule_99 : decode cX10_rule 99 = .ok (.iastore, 1) := by decide +kernel
theorem dX10_rule_100 : decode cX10_rule 100 = .ok (.aload_n 0, 1) := by decide +kernel
theorem dX10_rule_101 : decode cX10_rule 101 = .ok (.getfield 7, 3) := by decide +kernel
theorem dX10_rule_104 : decode cX10_rule 104 = .ok (.iconst 2, 1) := by decide +kernel
theorem dX10_rule_105 : decode cX10_rule 105 = .ok (.dup2, 1) := by decide +kernel
theorem dX10_rule_106 : decode cX10_rule 106 = .ok (.iaload, 1) := by decide +kernel
theorem dX10_rule_107 : decode cX10_rule 107 = .ok (.iconst 1, 1) := by decide +kernel
theorem dX10_rule_108 : decode cX10_rule 108 = .ok (.iadd, 1) := by decide +kernel
theorem dX10_rule_109 : decode cX10_rule 109 = .ok (.iastore, 1) := by decide +kernel
theorem dX10_rule_110 : decode cX10_rule 110 = .ok (.aload_n 0, 1) := by decide +kernel
theorem dX10_rule_111 : decode cX10_rule 111 = .ok (.getfield 7, 3) := by decide +kernel
theorem dX10_rule_114 : decode cX10_rule 114 = .ok (.iconst 2, 1) := by decide +kernel
theorem dX10_rule_115 : decode cX10_rule 115 = .ok (.iaload, 1) := by decide +kernel
theorem dX10_rule_116 : decode cX10_rule 116 = .ok (.iconst 1, 1) := by decide +kernel
theorem dX10_rule_117 : decode cX10_rule 117 = .ok (.isub, 1) := by decide +kernel
theorem dX10_rule_118 : decode cX10_rule 118 = .ok (.ireturn, 1) := by decide +kernel
theorem dX10_shadeOf_0 : decode cX10_shadeOf 0 = .ok (.iconst 0, 1) := by decide +kernel
theorem dX10_shadeOf_1 : decode cX10_shadeOf 1 = .ok (.istore_n 3, 1) := by decide +kernel
theorem dX10_shadeOf_2 : decode cX10_shadeOf 2 = .ok (.iconst 0, 1) := by decide +kernel
theorem dX10_shadeOf_3 : decode cX10_shadeOf 3 = .ok (.istore 4, 2) := by decide +kernel
theorem dX10_shadeOf_5 : decode cX10_shadeOf 5 = .ok (.iconst 0, 1) := by decide +kernel
theorem dX10_shadeOf_6 : decode cX10_shadeOf 6 = .ok (.istore 5, 2) := by decide +kernel
theorem dX10_shadeOf_8 : decode cX10_shadeOf 8 = .ok (.iload 5, 2) := by decide +kernel
theorem dX10_shadeOf_10 : decode cX10_shadeOf 10 = .ok (.aload_n 0, 1) := by decide +kernel
theorem dX10_shadeOf_11 : decode cX10_shadeOf 11 = .ok (.getfield 7, 3) := by decide +kernel
theorem dX10_shadeOf_14 : decode cX10_shadeOf 14 = .ok (.iconst 2, 1) := by decide +kernel
theorem dX10_shadeOf_15 : decode cX10_shadeOf 15 = .ok (.iaload, 1) := by decide +kernel
theorem dX10_shadeOf_16 : decode cX10_shadeOf 16 = .ok (.if_icmp .ge 118, 3) := by decide +kernel
theorem dX10_shadeOf_19 : decode cX10_shadeOf 19 = .ok (.aload_n 0, 1) := by decide +kernel
theorem dX10_shadeOf_20 : decode cX10_shadeOf 20 = .ok (.getfield 7, 3) := by decide +kernel
theorem dX10_shadeOf_23 : decode cX10_shadeOf 23 = .ok (.sipush 337, 3) := by decide +kernel
theorem dX10_shadeOf_26 : decode cX10_shadeOf 26 = .ok (.iconst 3, 1) := by decide +kernel
theorem dX10_shadeOf_27 : decode cX10_shadeOf 27 = .ok (.iload 5, 2) := by decide +kernel
theorem dX10_shadeOf_29 : decode cX10_shadeOf 29 = .ok (.imul, 1) := by decide +kernel
theorem dX10_shadeOf_30 : decode cX10_shadeOf 30 = .ok (.iadd, 1) := by decide +kernel
theorem dX10_shadeOf_31 : decode cX10_shadeOf 31 = .ok (.iaload, 1) := by decide +kernel
theorem dX10_shadeOf_32 : decode cX10_shadeOf 32 = .ok (.istore 6, 2) := by decide +kernel
theorem dX10_shadeOf_34 : decode cX10_shadeOf 34 = .ok (.aload_n 0, 1) := by decide +kernel
theorem dX10_shadeOf_35 : decode cX10_shadeOf 35 = .ok (.getfield 7, 3) := by decide +kernel
theorem dX10_shadeOf_38 : decode cX10_shadeOf 38 = .ok (.sipush 337, 3) := by decide +kernel
theorem dX10_shadeOf_41 : decode cX10_shadeOf 41 = .ok (.iconst 3, 1) := by decide +kernel
theorem dX10_shadeOf_42 : decode cX10_shadeOf 42 = .ok (.iload 5, 2) := by decide +kernel
theorem dX10_shadeOf_44 : decode cX10_shadeOf 44 = .ok (.imul, 1) := by decide +kernel
theorem dX10_shadeOf_45 : decode cX10_shadeOf 45 = .ok (.iadd, 1) := by decide +kernel
theorem dX10_shadeOf_46 : decode cX10_shadeOf 46 = .ok (.iconst 1, 1) := by decide +kernel
theorem dX10_shadeOf_47 : decode cX10_shadeOf 47 = .ok (.iadd, 1) := by decide +kernel
theorem dX10_shadeOf_48 : decode cX10_shadeOf 48 = .ok (.iaload, 1) := by decide +kernel
theorem dX10_shadeOf_49 : decode cX10_shadeOf 49 = .ok (.istore 7, 2) := by decide +kernel
theorem dX10_shadeOf_51 : decode cX10_shadeOf 51 = .ok (.iconst 1, 1) := by decide +kernel
theorem dX10_shadeOf_52 : decode cX10_shadeOf 52 = .ok (.iload 6, 2) := by decide +kernel
theorem dX10_shadeOf_54 : decode cX10_shadeOf 54 = .ok (.iconst (-1), 1) := by decide +kernel
theorem dX10_shadeOf_55 : decode cX10_shadeOf 55 = .ok (.if_icmp .ne 7, 3) := by decide +kernel
theorem dX10_shadeOf_58 : decode cX10_shadeOf 58 = .ok (.iconst 0, 1) := by decide +kernel
theorem dX10_shadeOf_59 : decode cX10_shadeOf 59 = .ok (.goto 4, 3) := by decide +kernel
theorem dX10_shadeOf_62 : decode cX10_shadeOf 62 = .ok (.iconst 2, 1) := by decide +kernel
theorem dX10_shadeOf_63 : decode cX10_shadeOf 63 = .ok (.iadd, 1) := by decide +kernel
theorem dX10_shadeOf_64 : decode cX10_shadeOf 64 = .ok (.iload 7, 2) := by decide +kernel
theorem dX10_shadeOf_66 : decode cX10_shadeOf 66 = .ok (.iconst (-1), 1) := by decide +kernel
theorem dX10_shadeOf_67 : decode cX10_shadeOf 67 = .ok (.if_icmp .ne 7, 3) := by decide +kernel
theorem dX10_shadeOf_70 : decode cX10_shadeOf 70 = .ok (.iconst 0, 1) := by decide +kernel
theorem dX10_shadeOf_71 : decode cX10_shadeOf 71 = .ok (.goto 4, 3) := by decide +kernel
theorem dX10_shadeOf_74 : decode cX10_shadeOf 74 = .ok (.iconst 1, 1) := by decide +kernel
theorem dX10_shadeOf_75 : decode cX10_shadeOf 75 = .ok (.iadd, 1) := by decide +kernel
theorem dX10_shadeOf_76 : decode cX10_shadeOf 76 = .ok (.istore 8, 2) := by decide +kernel
theorem dX10_shadeOf_78 : decode cX10_shadeOf 78 = .ok (.iload 6, 2) := by decide +kernel
theorem dX10_shadeOf_80 : decode cX10_shadeOf 80 = .ok (.iconst (-1), 1) := by decide +kernel
theorem dX10_shadeOf_81 : decode cX10_shadeOf 81 = .ok (.if_icmp .eq 9, 3) := by decide +kernel
theorem dX10_shadeOf_84 : decode cX10_shadeOf 84 = .ok (.iload 6, 2) := by decide +kernel
theorem dX10_shadeOf_86 : decode cX10_shadeOf 86 = .ok (.iload_n 1, 1) := by decide +kernel
theorem dX10_shadeOf_87 : decode cX10_shadeOf 87 = .ok (.if_icmp .ne 41, 3) := by decide +kernel
theorem dX10_shadeOf_90 : decode cX10_shadeOf 90 = .ok (.iload 7, 2) := by decide +kernel
theorem dX10_shadeOf_92 : decode cX10_shadeOf 92 = .ok (.iconst (-1), 1) := by decide +kernel
theorem dX10_shadeOf_93 : decode cX10_shadeOf 93 = .ok (.if_icmp .eq 9, 3) := by decide +kernel
theorem dX10_shadeOf_96 : decode cX10_shadeOf 96 = .ok (.iload 7, 2) := by decide +kernel
theorem dX10_shadeOf_98 : decode cX10_shadeOf 98 = .ok (.iload_n 2, 1) := by decide +kernel
theorem dX10_shadeOf_99 : decode cX10_shadeOf 99 = .ok (.if_icmp .ne 29, 3) := by decide +kernel
theorem dX10_shadeOf_102 : decode cX10_shadeOf 102 = .ok (.iload 8, 2) := by decide +kernel
theorem dX10_shadeOf_104 : decode cX10_shadeOf 104 = .ok (.iload_n 3, 1) := by decide +kernel
theorem dX10_shadeOf_105 : decode cX10_shadeOf 105 = .ok (.if_icmp .lt 23, 3) := by decide +kernel
theorem dX10_shadeOf_108 : decode cX10_shadeOf 108 = .ok (.iload 8, 2) := by decide +kernel
theorem dX10_shadeOf_110 : decode cX10_shadeOf 110 = .ok (.istore_n 3, 1) := by decide +kernel
theorem dX10_shadeOf_111 : decode cX10_shadeOf 111 = .ok (.aload_n 0, 1) := by decide +kernel
theorem dX10_shadeOf_112 : decode cX10_shadeOf 112 = .ok (.getfield 7, 3) := by decide +kernel
theorem dX10_shadeOf_115 : decode cX10_shadeOf 115 = .ok (.sipush 337, 3) := by decide +kernel
theorem dX10_shadeOf_118 : decode cX10_shadeOf 118 = .ok (.iconst 3, 1) := by decide +kernel
theorem dX10_shadeOf_119 : decode cX10_shadeOf 119 = .ok (.iload 5, 2) := by decide +kernel
theorem dX10_shadeOf_121 : decode cX10_shadeOf 121 = .ok (.imul, 1) := by decide +kernel
theorem dX10_shadeOf_122 : decode cX10_shadeOf 122 = .ok (.iadd, 1) := by decide +kernel
theorem dX10_shadeOf_123 : decode cX10_shadeOf 123 = .ok (.iconst 2, 1) := by decide +kernel
theorem dX10_shadeOf_124 : decode cX10_shadeOf 124 = .ok (.iadd, 1) := by decide +kernel
theorem dX10_shadeOf_125 : decode cX10_shadeOf 125 = .ok (.iaload, 1) := by decide +kernel
theorem dX10_shadeOf_126 : decode cX10_shadeOf 126 = .ok (.istore 4, 2) := by decide +kernel
theorem dX10_shadeOf_128 : decode cX10_shadeOf 128 = .ok (.iinc 5 1, 3) := by decide +kernel
theorem dX10_shadeOf_131 : decode cX10_shadeOf 131 = .ok (.goto (-123), 3) := by decide +kernel
theorem dX10_shadeOf_134 : decode cX10_shadeOf 134 = .ok (.iload 4, 2) := by decide +kernel
theorem dX10_shadeOf_136 : decode cX10_shadeOf 136 = .ok (.ireturn, 1) := by decide +kernel
theorem dX10_byteTold_0 : decode cX10_byteTold 0 = .ok (.bipush 30, 2) := by decide +kernel
theorem dX10_byteTold_2 : decode cX10_byteTold 2 = .ok (.iload_n 1, 1) := by decide +kernel
theorem dX10_byteTold_3 : decode cX10_byteTold 3 = .ok (.imul, 1) := by decide +kernel
theorem dX10_byteTold_4 : decode cX10_byteTold 4 = .ok (.iload_n 2, 1) := by decide +kernel
theorem dX10_byteTold_5 : decode cX10_byteTold 5 = .ok (.iadd, 1) := by decide +kernel
theorem dX10_byteTold_6 : decode cX10_byteTold 6 = .ok (.istore 4, 2) := by decide +kernel
theorem dX10_byteTold_8 : decode cX10_byteTold 8 = .ok (.iload_n 3, 1) := by decide +kernel
theorem dX10_byteTold_9 : decode cX10_byteTold 9 = .ok (.ifCond .ne 16, 3) := by decide +kernel
theorem dX10_byteTold_12 : decode cX10_byteTold 12 = .ok (.aload_n 0, 1) := by decide +kernel
theorem dX10_byteTold_13 : decode cX10_byteTold 13 = .ok (.getfield 7, 3) := by decide +kernel
theorem dX10_byteTold_16 : decode cX10_byteTold 16 = .ok (.bipush 13, 2) := by decide +kernel
theorem dX10_byteTold_18 : decode cX10_byteTold 18 = .ok (.iload 4, 2) := by decide +kernel
theorem dX10_byteTold_20 : decode cX10_byteTold 20 = .ok (.iadd, 1) := by decide +kernel
theorem dX10_byteTold_21 : decode cX10_byteTold 21 = .ok (.iaload, 1) := by decide +kernel
theorem dX10_byteTold_22 : decode cX10_byteTold 22 = .ok (.goto 36, 3) := by decide +kernel
theorem dX10_byteTold_25 : decode cX10_byteTold 25 = .ok (.iload_n 3, 1) := by decide +kernel
theorem dX10_byteTold_26 : decode cX10_byteTold 26 = .ok (.iconst 1, 1) := by decide +kernel
theorem dX10_byteTold_27 : decode cX10_byteTold 27 = .ok (.if_icmp .ne 13, 3) := by decide +kernel
theorem dX10_byteTold_30 : decode cX10_byteTold 30 = .ok (.aload_n 0, 1) := by decide +kernel
theorem dX10_byteTold_31 : decode cX10_byteTold 31 = .ok (.getfield 22, 3) := by decide +kernel
theorem dX10_byteTold_34 : decode cX10_byteTold 34 = .ok (.iload 4, 2) := by decide +kernel
theorem dX10_byteTold_36 : decode cX10_byteTold 36 = .ok (.iaload, 1) := by decide +kernel
theorem dX10_byteTold_37 : decode cX10_byteTold 37 = .ok (.goto 21, 3) := by decide +kernel
theorem dX10_byteTold_40 : decode cX10_byteTold 40 = .ok (.aload_n 0, 1) := by decide +kernel
theorem dX10_byteTold_41 : decode cX10_byteTold 41 = .ok (.aload_n 0, 1) := by decide +kernel
theorem dX10_byteTold_42 : decode cX10_byteTold 42 = .ok (.getfield 22, 3) := by decide +kernel
theorem dX10_byteTold_45 : decode cX10_byteTold 45 = .ok (.iload 4, 2) := by decide +kernel
theorem dX10_byteTold_47 : decode cX10_byteTold 47 = .ok (.iaload, 1) := by decide +kernel
theorem dX10_byteTold_48 : decode cX10_byteTold 48 = .ok (.aload_n 0, 1) := by decide +kernel
theorem dX10_byteTold_49 : decode cX10_byteTold 49 = .ok (.getfield 25, 3) := by decide +kernel
theorem dX10_byteTold_52 : decode cX10_byteTold 52 = .ok (.iload 4, 2) := by decide +kernel
theorem dX10_byteTold_54 : decode cX10_byteTold 54 = .ok (.iaload, 1) := by decide +kernel
theorem dX10_byteTold_55 : decode cX10_byteTold 55 = .ok (.invokevirtual 160, 3) := by decide +kernel
theorem dX10_byteTold_58 : decode cX10_byteTold 58 = .ok (.ireturn, 1) := by decide +kernel
theorem dX10_at_0 : decode cX10_at 0 = .ok (.aload_n 0, 1) := by decide +kernel
theorem dX10_at_1 : decode cX10_at 1 = .ok (.iload_n 1, 1) := by decide +kernel
theorem dX10_at_2 : decode cX10_at 2 = .ok (.invokevirtual 150, 3) := by decide +kernel
theorem dX10_at_5 : decode cX10_at 5 = .ok (.ifCond .eq 34, 3) := by decide +kernel
theorem dX10_at_8 : decode cX10_at 8 = .ok (.iload_n 2, 1) := by decide +kernel
theorem dX10_at_9 : decode cX10_at 9 = .ok (.iconst 0, 1) := by decide +kernel
theorem dX10_at_10 : decode cX10_at 10 = .ok (.aload_n 0, 1) := by decide +kernel
theorem dX10_at_11 : decode cX10_at 11 = .ok (.getfield 7, 3) := by decide +kernel
theorem dX10_at_14 : decode cX10_at 14 = .ok (.iconst 3, 1) := by decide +kernel
theorem dX10_at_15 : decode cX10_at 15 = .ok (.iload_n 1, 1) := by decide +kernel
theorem dX10_at_16 : decode cX10_at 16 = .ok (.iadd, 1) := by decide +kernel
theorem dX10_at_17 : decode cX10_at 17 = .ok (.iaload, 1) := by decide +kernel
theorem dX10_at_18 : decode cX10_at 18 = .ok (.iconst 1, 1) := by decide +kernel
theorem dX10_at_19 : decode cX10_at 19 = .ok (.isub, 1) := by decide +kernel
theorem dX10_at_20 : decode cX10_at 20 = .ok (.invokestatic 57, 3) := by decide +kernel
theorem dX10_at_23 : decode cX10_at 23 = .ok (.ifCond .eq 16, 3) := by decide +kernel
theorem dX10_at_26 : decode cX10_at 26 = .ok (.iload_n 3, 1) := by decide +kernel
theorem dX10_at_27 : decode cX10_at 27 = .ok (.iconst 0, 1) := by decide +kernel
theorem dX10_at_28 : decode cX10_at 28 = .ok (.iconst 2, 1) := by decide +kernel
theorem dX10_at_29 : decode cX10_at 29 = .ok (.invokestatic 57, 3) := by decide +kernel
theorem dX10_at_32 : decode cX10_at 32 = .ok (.ifCond .eq 7, 3) := by decide +kernel
theorem dX10_at_35 : decode cX10_at 35 = .ok (.iconst 1, 1) := by decide +kernel
theorem dX10_at_36 : decode cX10_at 36 = .ok (.goto 4, 3) := by decide +kernel
theorem dX10_at_39 : decode cX10_at 39 = .ok (.iconst 0, 1) := by decide +kernel
theorem dX10_at_40 : decode cX10_at 40 = .ok (.istore 4, 2) := by decide +kernel
theorem dX10_at_42 : decode cX10_at 42 = .ok (.iload 4, 2) := by decide +kernel
theorem dX10_at_44 : decode cX10_at 44 = .ok (.ifCond .eq 13, 3) := by decide +kernel
theorem dX10_at_47 : decode cX10_at 47 = .ok (.aload_n 0, 1) := by decide +kernel
theorem dX10_at_48 : decode cX10_at 48 = .ok (.iload_n 1, 1) := by decide +kernel
theorem dX10_at_49 : decode cX10_at 49 = .ok (.iload_n 2, 1) := by decide +kernel
theorem dX10_at_50 : decode cX10_at 50 = .ok (.iload_n 3, 1) := by decide +kernel
theorem dX10_at_51 : decode cX10_at 51 = .ok (.invokevirtual 164, 3) := by decide +kernel
theorem dX10_at_54 : decode cX10_at 54 = .ok (.goto 9, 3) := by decide +kernel
theorem dX10_at_57 : decode cX10_at 57 = .ok (.aload_n 0, 1) := by decide +kernel
theorem dX10_at_58 : decode cX10_at 58 = .ok (.bipush (-2), 2) := by decide +kernel
theorem dX10_at_60 : decode cX10_at 60 = .ok (.invokevirtual 128, 3) := by decide +kernel
theorem dX10_at_63 : decode cX10_at 63 = .ok (.ireturn, 1) := by decide +kernel
theorem dX10_begins_0 : decode cX10_begins 0 = .ok (.iload_n 2, 1) := by decide +kernel
theorem dX10_begins_1 : decode cX10_begins 1 = .ok (.ifCond .eq 30, 3) := by decide +kernel
theorem dX10_begins_4 : decode cX10_begins 4 = .ok (.aload_n 0, 1) := by decide +kernel
theorem dX10_begins_5 : decode cX10_begins 5 = .ok (.getfield 22, 3) := by decide +kernel
theorem dX10_begins_8 : decode cX10_begins 8 = .ok (.bipush 30, 2) := by decide +kernel
theorem dX10_begins_10 : decode cX10_begins 10 = .ok (.iload_n 1, 1) := by decide +kernel
theorem dX10_begins_11 : decode cX10_begins 11 = .ok (.imul, 1) := by decide +kernel
theorem dX10_begins_12 : decode cX10_begins 12 = .ok (.iload_n 2, 1) := by decide +kernel
theorem dX10_begins_13 : decode cX10_begins 13 = .ok (.iadd, 1) := by decide +kernel
theorem dX10_begins_14 : decode cX10_begins 14 = .ok (.iaload, 1) := by decide +kernel
theorem dX10_begins_15 : decode cX10_begins 15 = .ok (.aload_n 0, 1) := by decide +kernel
theorem dX10_begins_16 : decode cX10_begins 16 = .ok (.getfield 22, 3) := by decide +kernel
theorem dX10_begins_19 : decode cX10_begins 19 = .ok (.bipush 30, 2) := by decide +kernel
theorem dX10_begins_21 : decode cX10_begins 21 = .ok (.iload_n 1, 1) := by decide +kernel
theorem dX10_begins_22 : decode cX10_begins 22 = .ok (.imul, 1) := by decide +kernel
theorem dX10_begins_23 : decode cX10_begins 23 = .ok (.iload_n 2, 1) := by decide +kernel
theorem dX10_begins_24 : decode cX10_begins 24 = .ok (.iadd, 1) := by decide +kernel
theorem dX10_begins_25 : decode cX10_begins 25 = .ok (.iconst 1, 1) := by decide +kernel
theorem dX10_begins_26 : decode cX10_begins 26 = .ok (.isub, 1) := by decide +kernel
theorem dX10_begins_27 : decode cX10_begins 27 = .ok (.iaload, 1) := by decide +kernel
theorem dX10_begins_28 : decode cX10_begins 28 = .ok (.if_icmp .eq 7, 3) := by decide +kernel
theorem dX10_begins_31 : decode cX10_begins 31 = .ok (.iconst 1, 1) := by decide +kernel
theorem dX10_begins_32 : decode cX10_begins 32 = .ok (.goto 4, 3) := by decide +kernel
theorem dX10_begins_35 : decode cX10_begins 35 = .ok (.iconst 0, 1) := by decide +kernel
theorem dX10_begins_36 : decode cX10_begins 36 = .ok (.ireturn, 1) := by decide +kernel
theorem dX10_spansOf_0 : decode cX10_spansOf 0 = .ok (.iconst 0, 1) := by decide +kernel
theorem dX10_spansOf_1 : decode cX10_spansOf 1 = .ok (.istore_n 2, 1) := by decide +kernel
theorem dX10_spansOf_2 : decode cX10_spansOf 2 = .ok (.iconst 0, 1) := by decide +kernel
theorem dX10_spansOf_3 : decode cX10_spansOf 3 = .ok (.istore_n 3, 1) := by decide +kernel
theorem dX10_spansOf_4 : decode cX10_spansOf 4 = .ok (.iload_n 3, 1) := by decide +kernel
theorem dX10_spansOf_5 : decode cX10_spansOf 5 = .ok (.aload_n 0, 1) := by decide +kernel
theorem dX10_spansOf_6 : decode cX10_spansOf 6 = .ok (.getfield 7, 3) := by decide +kernel
theorem dX10_spansOf_9 : decode cX10_spansOf 9 = .ok (.iconst 3, 1) := by decide +kernel
theorem dX10_spansOf_10 : decode cX10_spansOf 10 = .ok (.iload_n 1, 1) := by decide +kernel
theorem dX10_spansOf_11 : decode cX10_spansOf 11 = .ok (.iadd, 1) := by decide +kernel
theorem dX10_spansOf_12 : decode cX10_spansOf 12 = .ok (.iaload, 1) := by decide +kernel
theorem dX10_spansOf_13 : decode cX10_spansOf 13 = .ok (.if_icmp .ge 26, 3) := by decide +kernel
theorem dX10_spansOf_16 : decode cX10_spansOf 16 = .ok (.iload_n 2, 1) := by decide +kernel
theorem dX10_spansOf_17 : decode cX10_spansOf 17 = .ok (.aload_n 0, 1) := by decide +kernel
theorem dX10_spansOf_18 : decode cX10_spansOf 18 = .ok (.iload_n 1, 1) := by decide +kernel
theorem dX10_spansOf_19 : decode cX10_spansOf 19 = .ok (.iload_n 3, 1) := by decide +kernel
theorem dX10_spansOf_20 : decode cX10_spansOf 20 = .ok (.invokevirtual 168, 3) := by decide +kernel
theorem dX10_spansOf_23 : decode cX10_spansOf 23 = .ok (.ifCond .eq 7, 3) := by decide +kernel
theorem dX10_spansOf_26 : decode cX10_spansOf 26 = .ok (.iconst 1, 1) := by decide +kernel
theorem dX10_spansOf_27 : decode cX10_spansOf 27 = .ok (.goto 4, 3) := by decide +kernel
theorem dX10_spansOf_30 : decode cX10_spansOf 30 = .ok (.iconst 0, 1) := by decide +kernel
theorem dX10_spansOf_31 : decode cX10_spansOf 31 = .ok (.iadd, 1) := by decide +kernel
theorem dX10_spansOf_32 : decode cX10_spansOf 32 = .ok (.istore_n 2, 1) := by decide +kernel
theorem dX10_spansOf_33 : decode cX10_spansOf 33 = .ok (.iinc 3 1, 3) := by decide +kernel
theorem dX10_spansOf_36 : decode cX10_spansOf 36 = .ok (.goto (-32), 3) := by decide +kernel
theorem dX10_spansOf_39 : decode cX10_spansOf 39 = .ok (.iload_n 2, 1) := by decide +kernel
theorem dX10_spansOf_40 : decode cX10_spansOf 40 = .ok (.ireturn, 1) := by decide +kernel
theorem dX10_lineTold_0 : decode cX10_lineTold 0 = .ok (.aload_n 0, 1) := by decide +kernel
theorem dX10_lineTold_1 : decode cX10_lineTold 1 = .ok (.getfield 28, 3) := by decide +kernel
theorem dX10_lineTold_4 : decode cX10_lineTold 4 = .ok (.iload_n 1, 1) := by decide +kernel
theorem dX10_lineTold_5 : decode cX10_lineTold 5 = .ok (.iaload, 1) := by decide +kernel
theorem dX10_lineTold_6 : decode cX10_lineTold 6 = .ok (.istore_n 3, 1) := by decide +kernel
theorem dX10_lineTold_7 : decode cX10_lineTold 7 = .ok (.iload_n 3, 1) := by decide +kernel
theorem dX10_lineTold_8 : decode cX10_lineTold 8 = .ok (.invokestatic 171, 3) := by decide +kernel
theorem dX10_lineTold_11 : decode cX10_lineTold 11 = .ok (.istore 4, 2) := by decide +kernel
theorem dX10_lineTold_13 : decode cX10_lineTold 13 = .ok (.iload_n 2, 1) := by decide +kernel
theorem dX10_lineTold_14 : decode cX10_lineTold 14 = .ok (.tableswitch 84 0 4 #[34, 43, 49, 54, 60], 34) := by decide +kernel
theorem dX10_lineTold_48 : decode cX10_lineTold 48 = .ok (.aload_n 0, 1) := by decide +kernel
theorem dX10_lineTold_49 : decode cX10_lineTold 49 = .ok (.getfield 7, 3) := by decide +kernel
theorem dX10_lineTold_52 : decode cX10_lineTold 52 = .ok (.iconst 3, 1) := by decide +kernel
theorem dX10_lineTold_53 : decode cX10_lineTold 53 = .ok (.iload_n 1, 1) := by decide +kernel
theorem dX10_lineTold_54 : decode cX10_lineTold 54 = .ok (.iadd, 1) := by decide +kernel
theorem dX10_lineTold_55 : decode cX10_lineTold 55 = .ok (.iaload, 1) := by decide +kernel
theorem dX10_lineTold_56 : decode cX10_lineTold 56 = .ok (.ireturn, 1) := by decide +kernel
theorem dX10_lineTold_57 : decode cX10_lineTold 57 = .ok (.aload_n 0, 1) := by decide +kernel
theorem dX10_lineTold_58 : decode cX10_lineTold 58 = .ok (.iload_n 1, 1) := by decide +kernel
theorem dX10_lineTold_59 : decode cX10_lineTold 59 = .ok (.invokevirtual 174, 3) := by decide +kernel
theorem dX10_lineTold_62 : decode cX10_lineTold 62 = .ok (.ireturn, 1) := by decide +kernel
theorem dX10_lineTold_63 : decode cX10_lineTold 63 = .ok (.iload_n 3, 1) := by decide +kernel
theorem dX10_lineTold_64 : decode cX10_lineTold 64 = .ok (.invokestatic 50, 3) := by decide +kernel
theorem dX10_lineTold_67 : decode cX10_lineTold 67 = .ok (.ireturn, 1) := by decide +kernel
theorem dX10_lineTold_68 : decode cX10_lineTold 68 = .ok (.iload 4, 2) := by decide +kernel
theorem dX10_lineTold_70 : decode cX10_lineTold 70 = .ok (.invokestatic 68, 3) := by decide +kernel
theorem dX10_lineTold_73 : decode cX10_lineTold 73 = .ok (.ireturn, 1) := by decide +kernel
theorem dX10_lineTold_74 : decode cX10_lineTold 74 = .ok (.iload 4, 2) := by decide +kernel
theorem dX10_lineTold_76 : decode cX10_lineTold 76 = .ok (.iconst 1, 1) := by decide +kernel
theorem dX10_lineTold_77 : decode cX10_lineTold 77 = .ok (.if_icmp .ne 8, 3) := by decide +kernel
theorem dX10_lineTold_80 : decode cX10_lineTold 80 = .ok (.bipush 34, 2) := by decide +kernel
theorem dX10_lineTold_82 : decode cX10_lineTold 82 = .ok (.goto 15, 3) := by decide +kernel
theorem dX10_lineTold_85 : decode cX10_lineTold 85 = .ok (.iload 4, 2) := by decide +kernel
theorem dX10_lineTold_87 : decode cX10_lineTold 87 = .ok (.iconst 2, 1) := by decide +kernel
theorem dX10_lineTold_88 : decode cX10_lineTold 88 = .ok (.if_icmp .ne 8, 3) := by decide +kernel
theorem dX10_lineTold_91 : decode cX10_lineTold 91 = .ok (.bipush 39, 2) := by decide +kernel
theorem dX10_lineTold_93 : decode cX10_lineTold 93 = .ok (.goto 4, 3) := by decide +kernel
theorem dX10_lineTold_96 : decode cX10_lineTold 96 = .ok (.iconst (-1), 1) := by decide +kernel
theorem dX10_lineTold_97 : decode cX10_lineTold 97 = .ok (.ireturn, 1) := by decide +kernel
theorem dX10_lineTold_98 : decode cX10_lineTold 98 = .ok (.iload_n 3, 1) := by decide +kernel
theorem dX10_lineTold_99 : decode cX10_lineTold 99 = .ok (.bipush 16, 2) := by decide +kernel
theorem dX10_lineTold_101 : decode cX10_lineTold 101 = .ok (.ishr, 1) := by decide +kernel
theorem dX10_lineTold_102 : decode cX10_lineTold 102 = .ok (.ifCond .ne 7, 3) := by decide +kernel
theorem dX10_lineTold_105 : decode cX10_lineTold 105 = .ok (.iconst (-1), 1) := by decide +kernel
theorem dX10_lineTold_106 : decode cX10_lineTold 106 = .ok (.goto 12, 3) := by decide +kernel
theorem dX10_lineTold_109 : decode cX10_lineTold 109 = .ok (.bipush 65, 2) := by decide +kernel
theorem dX10_lineTold_111 : decode cX10_lineTold 111 = .ok (.iload_n 3, 1) := by decide +kernel
theorem dX10_lineTold_112 : decode cX10_lineTold 112 = .ok (.bipush 16, 2) := by decide +kernel
theorem dX10_lineTold_114 : decode cX10_lineTold 114 = .ok (.ishr, 1) := by decide +kernel
theorem dX10_lineTold_115 : decode cX10_lineTold 115 = .ok (.iadd, 1) := by decide +kernel
theorem dX10_lineTold_116 : decode cX10_lineTold 116 = .ok (.iconst 1, 1) := by decide +kernel
theorem dX10_lineTold_117 : decode cX10_lineTold 117 = .ok (.isub, 1) := by decide +kernel
theorem dX10_lineTold_118 : decode cX10_lineTold 118 = .ok (.ireturn, 1) := by decide +kernel
theorem dX10_of_0 : decode cX10_of 0 = .ok (.aload_n 0, 1) := by decide +kernel
theorem dX10_of_1 : decode cX10_of 1 = .ok (.iload_n 1, 1) := by decide +kernel
theorem dX10_of_2 : decode cX10_of 2 = .ok (.invokevirtual 150, 3) := by decide +kernel
theorem dX10_of_5 : decode cX10_of 5 = .ok (.ifCond .eq 21, 3) := by decide +kernel
theorem dX10_of_8 : decode cX10_of 8 = .ok (.iload_n 2, 1) := by decide +kernel
theorem dX10_of_9 : decode cX10_of 9 = .ok (.iconst 0, 1) := by decide +kernel
theorem dX10_of_10 : decode cX10_of 10 = .ok (.iconst 5, 1) := by decide +kernel
theorem dX10_of_11 : decode cX10_of 11 = .ok (.invokestatic 57, 3) := by decide +kernel
theorem dX10_of_14 : decode cX10_of 14 = .ok (.ifCond .eq 12, 3) := by decide +kernel
theorem dX10_of_17 : decode cX10_of 17 = .ok (.aload_n 0, 1) := by decide +kernel
theorem dX10_of_18 : decode cX10_of 18 = .ok (.iload_n 1, 1) := by decide +kernel
theorem dX10_of_19 : decode cX10_of 19 = .ok (.iload_n 2, 1) := by decide +kernel
theorem dX10_of_20 : decode cX10_of 20 = .ok (.invokevirtual 177, 3) := by decide +kernel
theorem dX10_of_23 : decode cX10_of 23 = .ok (.goto 9, 3) := by decide +kernel
theorem dX10_of_26 : decode cX10_of 26 = .ok (.aload_n 0, 1) := by decide +kernel
theorem dX10_of_27 : decode cX10_of 27 = .ok (.bipush (-2), 2) := by decide +kernel
theorem dX10_of_29 : decode cX10_of 29 = .ok (.invokevirtual 128, 3) := by decide +kernel
theorem dX10_of_32 : decode cX10_of 32 = .ok (.ireturn, 1) := by decide +kernel
theorem dX10_span_0 : decode cX10_span 0 = .ok (.aload_n 0, 1) := by decide +kernel
theorem dX10_span_1 : decode cX10_span 1 = .ok (.iload_n 1, 1) := by decide +kernel
theorem dX10_span_2 : decode cX10_span 2 = .ok (.invokevirtual 150, 3) := by decide +kernel
theorem dX10_span_5 : decode cX10_span 5 = .ok (.ifCond .eq 16, 3) := by decide +kernel
theorem dX10_span_8 : decode cX10_span 8 = .ok (.iload_n 2, 1) := by decide +kernel
theorem dX10_span_9 : decode cX10_span 9 = .ok (.ifCond .lt 12, 3) := by decide +kernel
theorem dX10_span_12 : decode cX10_span 12 = .ok (.iload_n 3, 1) := by decide +kernel
theorem dX10_span_13 : decode cX10_span 13 = .ok (.iconst 0, 1) := by decide +kernel
theorem dX10_span_14 : decode cX10_span 14 = .ok (.iconst 2, 1) := by decide +kernel
theorem dX10_span_15 : decode cX10_span 15 = .ok (.invokestatic 57, 3) := by decide +kernel
theorem dX10_span_18 : decode cX10_span 18 = .ok (.ifCond .ne 10, 3) := by decide +kernel
theorem dX10_span_21 : decode cX10_span 21 = .ok (.aload_n 0, 1) := by decide +kernel
theorem dX10_span_22 : decode cX10_span 22 = .ok (.bipush (-2), 2) := by decide +kernel
theorem dX10_span_24 : decode cX10_span 24 = .ok (.invokevirtual 128, 3) := by decide +kernel
theorem dX10_span_27 : decode cX10_span 27 = .ok (.ireturn, 1) := by decide +kernel
theorem dX10_span_28 : decode cX10_span 28 = .ok (.iload_n 2, 1) := by decide +kernel
theorem dX10_span_29 : decode cX10_span 29 = .ok (.istore 4, 2) := by decide +kernel
theorem dX10_span_31 : decode cX10_span 31 = .ok (.iconst 0, 1) := by decide +kernel
theorem dX10_span_32 : decode cX10_span 32 = .ok (.istore 5, 2) := by decide +kernel
theorem dX10_span_34 : decode cX10_span 34 = .ok (.iload 5, 2) := by decide +kernel
theorem dX10_span_36 : decode cX10_span 36 = .ok (.aload_n 0, 1) := by decide +kernel
theorem dX10_span_37 : decode cX10_span 37 = .ok (.getfield 7, 3) := by decide +kernel
theorem dX10_span_40 : decode cX10_span 40 = .ok (.iconst 3, 1) := by decide +kernel
theorem dX10_span_41 : decode cX10_span 41 = .ok (.iload_n 1, 1) := by decide +kernel
theorem dX10_span_42 : decode cX10_span 42 = .ok (.iadd, 1) := by decide +kernel
theorem dX10_span_43 : decode cX10_span 43 = .ok (.iaload, 1) := by decide +kernel
theorem dX10_span_44 : decode cX10_span 44 = .ok (.if_icmp .ge 97, 3) := by decide +kernel
theorem dX10_span_47 : decode cX10_span 47 = .ok (.aload_n 0, 1) := by decide +kernel
theorem dX10_span_48 : decode cX10_span 48 = .ok (.iload_n 1, 1) := by decide +kernel
theorem dX10_span_49 : decode cX10_span 49 = .ok (.iload 5, 2) := by decide +kernel
theorem dX10_span_51 : decode cX10_span 51 = .ok (.invokevirtual 168, 3) := by decide +kernel
theorem dX10_span_54 : decode cX10_span 54 = .ok (.ifCond .eq 81, 3) := by decide +kernel
theorem dX10_span_57 : decode cX10_span 57 = .ok (.iload 4, 2) := by decide +kernel
theorem dX10_span_59 : decode cX10_span 59 = .ok (.ifCond .ne 73, 3) := by decide +kernel
theorem dX10_span_62 : decode cX10_span 62 = .ok (.iload 5, 2) := by decide +kernel
theorem dX10_span_64 : decode cX10_span 64 = .ok (.iconst 1, 1) := by decide +kernel
theorem dX10_span_65 : decode cX10_span 65 = .ok (.iadd, 1) := by decide +kernel
theorem dX10_span_66 : decode cX10_span 66 = .ok (.istore 6, 2) := by decide +kernel
theorem dX10_span_68 : decode cX10_span 68 = .ok (.iload 6, 2) := by decide +kernel
theorem dX10_span_70 : decode cX10_span 70 = .ok (.aload_n 0, 1) := by decide +kernel
theorem dX10_span_71 : decode cX10_span 71 = .ok (.getfield 7, 3) := by decide +kernel
theorem dX10_span_74 : decode cX10_span 74 = .ok (.iconst 3, 1) := by decide +kernel
theorem dX10_span_75 : decode cX10_span 75 = .ok (.iload_n 1, 1) := by decide +kernel
theorem dX10_span_76 : decode cX10_span 76 = .ok (.iadd, 1) := by decide +kernel
theorem dX10_span_77 : decode cX10_span 77 = .ok (.iaload, 1) := by decide +kernel
theorem dX10_span_78 : decode cX10_span 78 = .ok (.if_icmp .ge 19, 3) := by decide +kernel
theorem dX10_span_81 : decode cX10_span 81 = .ok (.aload_n 0, 1) := by decide +kernel
theorem dX10_span_82 : decode cX10_span 82 = .ok (.iload_n 1, 1) := by decide +kernel
theorem dX10_span_83 : decode cX10_span 83 = .ok (.iload 6, 2) := by decide +kernel
theorem dX10_span_85 : decode cX10_span 85 = .ok (.invokevirtual 168, 3) := by decide +kernel
theorem dX10_span_88 : decode cX10_span 88 = .ok (.ifCond .ne 9, 3) := by decide +kernel
theorem dX10_span_91 : decode cX10_span 91 = .ok (.iinc 6 1, 3) := by decide +kernel
theorem dX10_span_94 : decode cX10_span 94 = .ok (.goto (-26), 3) := by decide +kernel
theorem dX10_span_97 : decode cX10_span 97 = .ok (.iload_n 3, 1) := by decide +kernel
theorem dX10_span_98 : decode cX10_span 98 = .ok (.ifCond .ne 8, 3) := by decide +kernel
theorem dX10_span_101 : decode cX10_span 101 = .ok (.iload 5, 2) := by decide +kernel
theorem dX10_span_103 : decode cX10_span 103 = .ok (.goto 28, 3) := by decide +kernel
theorem dX10_span_106 : decode cX10_span 106 = .ok (.iload_n 3, 1) := by decide +kernel
theorem dX10_span_107 : decode cX10_span 107 = .ok (.iconst 1, 1) := by decide +kernel
theorem dX10_span_108 : decode cX10_span 108 = .ok (.if_icmp .ne 11, 3) := by decide +kernel
theorem dX10_span_111 : decode cX10_span 111 = .ok (.iload 6, 2) := by decide +kernel
theorem dX10_span_113 : decode cX10_span 113 = .ok (.iload 5, 2) := by decide +kernel
theorem dX10_span_115 : decode cX10_span 115 = .ok (.isub, 1) := by decide +kernel
theorem dX10_span_116 : decode cX10_span 116 = .ok (.goto 15, 3) := by decide +kernel
theorem dX10_span_119 : decode cX10_span 119 = .ok (.aload_n 0, 1) := by decide +kernel
theorem dX10_span_120 : decode cX10_span 120 = .ok (.getfield 22, 3) := by decide +kernel
theorem dX10_span_123 : decode cX10_span 123 = .ok (.bipush 30, 2) := by decide +kernel
theorem dX10_span_125 : decode cX10_span 125 = .ok (.iload_n 1, 1) := by decide +kernel
theorem dX10_span_126 : decode cX10_span 126 = .ok (.imul, 1) := by decide +kernel
theorem dX10_span_127 : decode cX10_span 127 = .ok (.iload 5, 2) := by decide +kernel
theorem dX10_span_129 : decode cX10_span 129 = .ok (.iadd, 1) := by decide +kernel
theorem dX10_span_130 : decode cX10_span 130 = .ok (.iaload, 1) := by decide +kernel
theorem dX10_span_131 : decode cX10_span 131 = .ok (.ireturn, 1) := by decide +kernel
theorem dX10_span_132 : decode cX10_span 132 = .ok (.iinc 4 (-1), 3) := by decide +kernel
theorem dX10_span_135 : decode cX10_span 135 = .ok (.iinc 5 1, 3) := by decide +kernel
theorem dX10_span_138 : decode cX10_span 138 = .ok (.goto (-104), 3) := by decide +kernel
theorem dX10_span_141 : decode cX10_span 141 = .ok (.iconst (-1), 1) := by decide +kernel
theorem dX10_span_142 : decode cX10_span 142 = .ok (.ireturn, 1) := by decide +kernel
theorem dX10_anew_0 : decode cX10_anew 0 = .ok (.aload_n 0, 1) := by decide +kernel
theorem dX10_anew_1 : decode cX10_anew 1 = .ok (.getfield 125, 3) := by decide +kernel
theorem dX10_anew_4 : decode cX10_anew 4 = .ok (.ireturn, 1) := by decide +kernel
theorem dX10_painted_0 : decode cX10_painted 0 = .ok (.iload_n 1, 1) := by decide +kernel
theorem dX10_painted_1 : decode cX10_painted 1 = .ok (.iconst 0, 1) := by decide +kernel
theorem dX10_painted_2 : decode cX10_painted 2 = .ok (.bipush 7, 2) := by decide +kernel
theorem dX10_painted_4 : decode cX10_painted 4 = .ok (.invokestatic 57, 3) := by decide +kernel
theorem dX10_painted_7 : decode cX10_painted 7 = .ok (.ifCond .ne 10, 3) := by decide +kernel
theorem dX10_painted_10 : decode cX10_painted 10 = .ok (.aload_n 0, 1) := by decide +kernel
theorem dX10_painted_11 : decode cX10_painted 11 = .ok (.bipush (-2), 2) := by decide +kernel
theorem dX10_painted_13 : decode cX10_painted 13 = .ok (.invokevirtual 128, 3) := by decide +kernel
theorem dX10_painted_16 : decode cX10_painted 16 = .ok (.ireturn, 1) := by decide +kernel
theorem dX10_painted_17 : decode cX10_painted 17 = .ok (.iconst 0, 1) := by decide +kernel
theorem dX10_painted_18 : decode cX10_painted 18 = .ok (.istore_n 2, 1) := by decide +kernel
theorem dX10_painted_19 : decode cX10_painted 19 = .ok (.iconst 0, 1) := by decide +kernel
theorem dX10_painted_20 : decode cX10_painted 20 = .ok (.istore_n 3, 1) := by decide +kernel
theorem dX10_painted_21 : decode cX10_painted 21 = .ok (.iload_n 3, 1) := by decide +kernel
theorem dX10_painted_22 : decode cX10_painted 22 = .ok (.aload_n 0, 1) := by decide +kernel
theorem dX10_painted_23 : decode cX10_painted 23 = .ok (.getfield 7, 3) := by decide +kernel
theorem dX10_painted_26 : decode cX10_painted 26 = .ok (.iconst 0, 1) := by decide +kernel
theorem dX10_painted_27 : decode cX10_painted 27 = .ok (.iaload, 1) := by decide +kernel
theorem dX10_painted_28 : decode cX10_painted 28 = .ok (.if_icmp .ge 55, 3) := by decide +kernel
theorem dX10_painted_31 : decode cX10_painted 31 = .ok (.iconst 0, 1) := by decide +kernel
theorem dX10_painted_32 : decode cX10_painted 32 = .ok (.istore 4, 2) := by decide +kernel
theorem dX10_painted_34 : decode cX10_painted 34 = .ok (.iload 4, 2) := by decide +kernel
theorem dX10_painted_36 : decode cX10_painted 36 = .ok (.aload_n 0, 1) := by decide +kernel
theorem dX10_painted_37 : decode cX10_painted 37 = .ok (.getfield 7, 3) := by decide +kernel
theorem dX10_painted_40 : decode cX10_painted 40 = .ok (.iconst 3, 1) := by decide +kernel
theorem dX10_painted_41 : decode cX10_painted 41 = .ok (.iload_n 3, 1) := by decide +kernel
theorem dX10_painted_42 : decode cX10_painted 42 = .ok (.iadd, 1) := by decide +kernel
theorem dX10_painted_43 : decode cX10_painted 43 = .ok (.iaload, 1) := by decide +kernel
theorem dX10_painted_44 : decode cX10_painted 44 = .ok (.if_icmp .ge 33, 3) := by decide +kernel
theorem dX10_painted_47 : decode cX10_painted 47 = .ok (.iload_n 2, 1) := by decide +kernel
theorem dX10_painted_48 : decode cX10_painted 48 = .ok (.aload_n 0, 1) := by decide +kernel
theorem dX10_painted_49 : decode cX10_painted 49 = .ok (.getfield 22, 3) := by decide +kernel
theorem dX10_painted_52 : decode cX10_painted 52 = .ok (.bipush 30, 2) := by decide +kernel
theorem dX10_painted_54 : decode cX10_painted 54 = .ok (.iload_n 3, 1) := by decide +kernel
theorem dX10_painted_55 : decode cX10_painted 55 = .ok (.imul, 1) := by decide +kernel
theorem dX10_painted_56 : decode cX10_painted 56 = .ok (.iload 4, 2) := by decide +kernel
theorem dX10_painted_58 : decode cX10_painted 58 = .ok (.iadd, 1) := by decide +kernel
theorem dX10_painted_59 : decode cX10_painted 59 = .ok (.iaload, 1) := by decide +kernel
theorem dX10_painted_60 : decode cX10_painted 60 = .ok (.iload_n 1, 1) := by decide +kernel
theorem dX10_painted_61 : decode cX10_painted 61 = .ok (.if_icmp .ne 7, 3) := by decide +kernel
theorem dX10_painted_64 : decode cX10_painted 64 = .ok (.iconst 1, 1) := by decide +kernel
theorem dX10_painted_65 : decode cX10_painted 65 = .ok (.goto 4, 3) := by decide +kernel
theorem dX10_painted_68 : decode cX10_painted 68 = .ok (.iconst 0, 1) := by decide +kernel
theorem dX10_painted_69 : decode cX10_painted 69 = .ok (.iadd, 1) := by decide +kernel
theorem dX10_painted_70 : decode cX10_painted 70 = .ok (.istore_n 2, 1) := by decide +kernel
theorem dX10_painted_71 : decode cX10_painted 71 = .ok (.iinc 4 1, 3) := by decide +kernel
theorem dX10_painted_74 : decode cX10_painted 74 = .ok (.goto (-40), 3) := by decide +kernel
theorem dX10_painted_77 : decode cX10_painted 77 = .ok (.iinc 3 1, 3) := by decide +kernel
theorem dX10_painted_80 : decode cX10_painted 80 = .ok (.goto (-59), 3) := by decide +kernel
theorem dX10_painted_83 : decode cX10_painted 83 = .ok (.iload_n 2, 1) := by decide +kernel
theorem dX10_painted_84 : decode cX10_painted 84 = .ok (.ireturn, 1) := by decide +kernel
theorem dX10_back_0 : decode cX10_back 0 = .ok (.aload_n 0, 1) := by decide +kernel
theorem dX10_back_1 : decode cX10_back 1 = .ok (.getfield 37, 3) := by decide +kernel
theorem dX10_back_4 : decode cX10_back 4 = .ok (.ifCond .ne 10, 3) := by decide +kernel
theorem dX10_back_7 : decode cX10_back 7 = .ok (.aload_n 0, 1) := by decide +kernel
theorem dX10_back_8 : decode cX10_back 8 = .ok (.bipush (-3), 2) := by decide +kernel
theorem dX10_back_10 : decode cX10_back 10 = .ok (.invokevirtual 128, 3) := by decide +kernel
theorem dX10_back_13 : decode cX10_back 13 = .ok (.ireturn, 1) := by decide +kernel
theorem dX10_back_14 : decode cX10_back 14 = .ok (.aload_n 0, 1) := by decide +kernel
theorem dX10_back_15 : decode cX10_back 15 = .ok (.dup, 1) := by decide +kernel
theorem dX10_back_16 : decode cX10_back 16 = .ok (.getfield 37, 3) := by decide +kernel
theorem dX10_back_19 : decode cX10_back 19 = .ok (.iconst 1, 1) := by decide +kernel
theorem dX10_back_20 : decode cX10_back 20 = .ok (.isub, 1) := by decide +kernel
theorem dX10_back_21 : decode cX10_back 21 = .ok (.putfield 37, 3) := by decide +kernel
theorem dX10_back_24 : decode cX10_back 24 = .ok (.iconst 0, 1) := by decide +kernel
theorem dX10_back_25 : decode cX10_back 25 = .ok (.istore_n 1, 1) := by decide +kernel
theorem dX10_back_26 : decode cX10_back 26 = .ok (.iload_n 1, 1) := by decide +kernel
theorem dX10_back_27 : decode cX10_back 27 = .ok (.sipush 373, 3) := by decide +kernel
theorem dX10_back_30 : decode cX10_back 30 = .ok (.if_icmp .ge 30, 3) := by decide +kernel
theorem dX10_back_33 : decode cX10_back 33 = .ok (.aload_n 0, 1) := by decide +kernel
theorem dX10_back_34 : decode cX10_back 34 = .ok (.getfield 7, 3) := by decide +kernel
theorem dX10_back_37 : decode cX10_back 37 = .ok (.iload_n 1, 1) := by decide +kernel
theorem dX10_back_38 : decode cX10_back 38 = .ok (.aload_n 0, 1) := by decide +kernel
theorem dX10_back_39 : decode cX10_back 39 = .ok (.getfield 13, 3) := by decide +kernel
theorem dX10_back_42 : decode cX10_back 42 = .ok (.sipush 373, 3) := by decide +kernel
theorem dX10_back_45 : decode cX10_back 45 = .ok (.aload_n 0, 1) := by decide +kernel
theorem dX10_back_46 : decode cX10_back 46 = .ok (.getfield 37, 3) := by decide +kernel
theorem dX10_back_49 : decode cX10_back 49 = .ok (.imul, 1) := by decide +kernel
theorem dX10_back_50 : decode cX10_back 50 = .ok (.iload_n 1, 1) := by decide +kernel
theorem dX10_back_51 : decode cX10_back 51 = .ok (.iadd, 1) := by decide +kernel
theorem dX10_back_52 : decode cX10_back 52 = .ok (.iaload, 1) := by decide +kernel
theorem dX10_back_53 : decode cX10_back 53 = .ok (.iastore, 1) := by decide +kernel
theorem dX10_back_54 : decode cX10_back 54 = .ok (.iinc 1 1, 3) := by decide +kernel
theorem dX10_back_57 : decode cX10_back 57 = .ok (.goto (-31), 3) := by decide +kernel
theorem dX10_back_60 : decode cX10_back 60 = .ok (.aload_n 0, 1) := by decide +kernel
theorem dX10_back_61 : decode cX10_back 61 = .ok (.invokevirtual 122, 3) := by decide +kernel
theorem dX10_back_64 : decode cX10_back 64 = .ok (.aload_n 0, 1) := by decide +kernel
theorem dX10_back_65 : decode cX10_back 65 = .ok (.iconst 0, 1) := by decide +kernel
theorem dX10_back_66 : decode cX10_back 66 = .ok (.putfield 125, 3) := by decide +kernel
theorem dX10_back_69 : decode cX10_back 69 = .ok (.aload_n 0, 1) := by decide +kernel
theorem dX10_back_70 : decode cX10_back 70 = .ok (.getfield 37, 3) := by decide +kernel
theorem dX10_back_73 : decode cX10_back 73 = .ok (.ireturn, 1) := by decide +kernel
theorem dX10_toldOf_0 : decode cX10_toldOf 0 = .ok (.iload_n 1, 1) := by decide +kernel
theorem dX10_toldOf_1 : decode cX10_toldOf 1 = .ok (.tableswitch 54 3 7 #[35, 40, 40, 40, 49], 35) := by decide +kernel
theorem dX10_toldOf_36 : decode cX10_toldOf 36 = .ok (.aload_n 0, 1) := by decide +kernel
theorem dX10_toldOf_37 : decode cX10_toldOf 37 = .ok (.getfield 131, 3) := by decide +kernel
theorem dX10_toldOf_40 : decode cX10_toldOf 40 = .ok (.ireturn, 1) := by decide +kernel
theorem dX10_toldOf_41 : decode cX10_toldOf 41 = .ok (.aload_n 0, 1) := by decide +kernel
theorem dX10_toldOf_42 : decode cX10_toldOf 42 = .ok (.getfield 7, 3) := by decide +kernel
theorem dX10_toldOf_45 : decode cX10_toldOf 45 = .ok (.iload_n 1, 1) := by decide +kernel
theorem dX10_toldOf_46 : decode cX10_toldOf 46 = .ok (.iconst 4, 1) := by decide +kernel
theorem dX10_toldOf_47 : decode cX10_toldOf 47 = .ok (.isub, 1) := by decide +kernel
theorem dX10_toldOf_48 : decode cX10_toldOf 48 = .ok (.iaload, 1) := by decide +kernel
theorem dX10_toldOf_49 : decode cX10_toldOf 49 = .ok (.ireturn, 1) := by decide +kernel
theorem dX10_toldOf_50 : decode cX10_toldOf 50 = .ok (.aload_n 0, 1) := by decide +kernel
theorem dX10_toldOf_51 : decode cX10_toldOf 51 = .ok (.getfield 37, 3) := by decide +kernel
theorem dX10_toldOf_54 : decode cX10_toldOf 54 = .ok (.ireturn, 1) := by decide +kernel
theorem dX10_toldOf_55 : decode cX10_toldOf 55 = .ok (.aload_n 0, 1) := by decide +kernel
theorem dX10_toldOf_56 : decode cX10_toldOf 56 = .ok (.getfield 16, 3) := by decide +kernel
theorem dX10_toldOf_59 : decode cX10_toldOf 59 = .ok (.iload_n 1, 1) := by decide +kernel
theorem dX10_toldOf_60 : decode cX10_toldOf 60 = .ok (.iaload, 1) := by decide +kernel
theorem dX10_toldOf_61 : decode cX10_toldOf 61 = .ok (.ireturn, 1) := by decide +kernel
theorem dX10_told_0 : decode cX10_told 0 = .ok (.iload_n 1, 1) := by decide +kernel
theorem dX10_told_1 : decode cX10_told 1 = .ok (.iconst 0, 1) := by decide +kernel
theorem dX10_told_2 : decode cX10_told 2 = .ok (.bipush 7, 2) := by decide +kernel
theorem dX10_told_4 : decode cX10_told 4 = .ok (.invokestatic 57, 3) := by decide +kernel
theorem dX10_told_7 : decode cX10_told 7 = .ok (.ifCond .eq 11, 3) := by decide +kernel
theorem dX10_told_10 : decode cX10_told 10 = .ok (.aload_n 0, 1) := by decide +kernel
theorem dX10_told_11 : decode cX10_told 11 = .ok (.iload_n 1, 1) := by decide +kernel
theorem dX10_told_12 : decode cX10_told 12 = .ok (.invokevirtual 180, 3) := by decide +kernel
theorem dX10_told_15 : decode cX10_told 15 = .ok (.goto 9, 3) := by decide +kernel
theorem dX10_told_18 : decode cX10_told 18 = .ok (.aload_n 0, 1) := by decide +kernel
theorem dX10_told_19 : decode cX10_told 19 = .ok (.bipush (-2), 2) := by decide +kernel
theorem dX10_told_21 : decode cX10_told 21 = .ok (.invokevirtual 128, 3) := by decide +kernel
theorem dX10_told_24 : decode cX10_told 24 = .ok (.ireturn, 1) := by decide +kernel
theorem dX10_mix_0 : decode cX10_mix 0 = .ok (.aload_n 0, 1) := by decide +kernel
theorem dX10_mix_1 : decode cX10_mix 1 = .ok (.ldc2_w 183, 3) := by decide +kernel
theorem dX10_mix_4 : decode cX10_mix 4 = .ok (.aload_n 0, 1) := by decide +kernel
theorem dX10_mix_5 : decode cX10_mix 5 = .ok (.getfield 185, 3) := by decide +kernel
theorem dX10_mix_8 : decode cX10_mix 8 = .ok (.lmul, 1) := by decide +kernel
theorem dX10_mix_9 : decode cX10_mix 9 = .ok (.lload_n 1, 1) := by decide +kernel
theorem dX10_mix_10 : decode cX10_mix 10 = .ok (.ladd, 1) := by decide +kernel
theorem dX10_mix_11 : decode cX10_mix 11 = .ok (.putfield 185, 3) := by decide +kernel
theorem dX10_mix_14 : decode cX10_mix 14 = .ok (.return_, 1) := by decide +kernel
theorem dX10_digest_0 : decode cX10_digest 0 = .ok (.aload_n 0, 1) := by decide +kernel
theorem dX10_digest_1 : decode cX10_digest 1 = .ok (.ldc2_w 189, 3) := by decide +kernel
theorem dX10_digest_4 : decode cX10_digest 4 = .ok (.putfield 185, 3) := by decide +kernel
theorem dX10_digest_7 : decode cX10_digest 7 = .ok (.iconst 0, 1) := by decide +kernel
theorem dX10_digest_8 : decode cX10_digest 8 = .ok (.istore_n 1, 1) := by decide +kernel
theorem dX10_digest_9 : decode cX10_digest 9 = .ok (.iload_n 1, 1) := by decide +kernel
theorem dX10_digest_10 : decode cX10_digest 10 = .ok (.bipush 8, 2) := by decide +kernel
theorem dX10_digest_12 : decode cX10_digest 12 = .ok (.if_icmp .ge 19, 3) := by decide +kernel
theorem dX10_digest_15 : decode cX10_digest 15 = .ok (.aload_n 0, 1) := by decide +kernel
theorem dX10_digest_16 : decode cX10_digest 16 = .ok (.aload_n 0, 1) := by decide +kernel
theorem dX10_digest_17 : decode cX10_digest 17 = .ok (.iload_n 1, 1) := by decide +kernel
theorem dX10_digest_18 : decode cX10_digest 18 = .ok (.invokevirtual 180, 3) := by decide +kernel
theorem dX10_digest_21 : decode cX10_digest 21 = .ok (.i2l, 1) := by decide +kernel
theorem dX10_digest_22 : decode cX10_digest 22 = .ok (.invokevirtual 191, 3) := by decide +kernel
theorem dX10_digest_25 : decode cX10_digest 25 = .ok (.iinc 1 1, 3) := by decide +kernel
theorem dX10_digest_28 : decode cX10_digest 28 = .ok (.goto (-19), 3) := by decide +kernel
theorem dX10_digest_31 : decode cX10_digest 31 = .ok (.aload_n 0, 1) := by decide +kernel
theorem dX10_digest_32 : decode cX10_digest 32 = .ok (.aload_n 0, 1) := by decide +kernel
theorem dX10_digest_33 : decode cX10_digest 33 = .ok (.getfield 125, 3) := by decide +kernel
theorem dX10_digest_36 : decode cX10_digest 36 = .ok (.i2l, 1) := by decide +kernel
theorem dX10_digest_37 : decode cX10_digest 37 = .ok (.invokevirtual 191, 3) := by decide +kernel
theorem dX10_digest_40 : decode cX10_digest 40 = .ok (.iconst 0, 1) := by decide +kernel
theorem dX10_digest_41 : decode cX10_digest 41 = .ok (.istore_n 1, 1) := by decide +kernel
theorem dX10_digest_42 : decode cX10_digest 42 = .ok (.iload_n 1, 1) := by decide +kernel
theorem dX10_digest_43 : decode cX10_digest 43 = .ok (.aload_n 0, 1) := by decide +kernel
theorem dX10_digest_44 : decode cX10_digest 44 = .ok (.getfield 7, 3) := by decide +kernel
theorem dX10_digest_47 : decode cX10_digest 47 = .ok (.iconst 0, 1) := by decide +kernel
theorem dX10_digest_48 : decode cX10_digest 48 = .ok (.iaload, 1) := by decide +kernel
theorem dX10_digest_49 : decode cX10_digest 49 = .ok (.if_icmp .ge 79, 3) := by decide +kernel
theorem dX10_digest_52 : decode cX10_digest 52 = .ok (.iconst 0, 1) := by decide +kernel
theorem dX10_digest_53 : decode cX10_digest 53 = .ok (.istore_n 2, 1) := by decide +kernel
theorem dX10_digest_54 : decode cX10_digest 54 = .ok (.iload_n 2, 1) := by decide +kernel
theorem dX10_digest_55 : decode cX10_digest 55 = .ok (.bipush 6, 2) := by decide +kernel
theorem dX10_digest_57 : decode cX10_digest 57 = .ok (.if_icmp .ge 20, 3) := by decide +kernel
theorem dX10_digest_60 : decode cX10_digest 60 = .ok (.aload_n 0, 1) := by decide +kernel
theorem dX10_digest_61 : decode cX10_digest 61 = .ok (.aload_n 0, 1) := by decide +kernel
theorem dX10_digest_62 : decode cX10_digest 62 = .ok (.iload_n 1, 1) := by decide +kernel
theorem dX10_digest_63 : decode cX10_digest 63 = .ok (.iload_n 2, 1) := by decide +kernel
theorem dX10_digest_64 : decode cX10_digest 64 = .ok (.invokevirtual 177, 3) := by decide +kernel
theorem dX10_digest_67 : decode cX10_digest 67 = .ok (.i2l, 1) := by decide +kernel
theorem dX10_digest_68 : decode cX10_digest 68 = .ok (.invokevirtual 191, 3) := by decide +kernel
theorem dX10_digest_71 : decode cX10_digest 71 = .ok (.iinc 2 1, 3) := by decide +kernel
theorem dX10_digest_74 : decode cX10_digest 74 = .ok (.goto (-20), 3) := by decide +kernel
theorem dX10_digest_77 : decode cX10_digest 77 = .ok (.iconst 0, 1) := by decide +kernel
theorem dX10_digest_78 : decode cX10_digest 78 = .ok (.istore_n 2, 1) := by decide +kernel
theorem dX10_digest_79 : decode cX10_digest 79 = .ok (.iload_n 2, 1) := by decide +kernel
theorem dX10_digest_80 : decode cX10_digest 80 = .ok (.aload_n 0, 1) := by decide +kernel
theorem dX10_digest_81 : decode cX10_digest 81 = .ok (.getfield 7, 3) := by decide +kernel
theorem dX10_digest_84 : decode cX10_digest 84 = .ok (.iconst 3, 1) := by decide +kernel
theorem dX10_digest_85 : decode cX10_digest 85 = .ok (.iload_n 1, 1) := by decide +kernel
theorem dX10_digest_86 : decode cX10_digest 86 = .ok (.iadd, 1) := by decide +kernel
theorem dX10_digest_87 : decode cX10_digest 87 = .ok (.iaload, 1) := by decide +kernel
theorem dX10_digest_88 : decode cX10_digest 88 = .ok (.if_icmp .ge 34, 3) := by decide +kernel
theorem dX10_digest_91 : decode cX10_digest 91 = .ok (.iconst 0, 1) := by decide +kernel
theorem dX10_digest_92 : decode cX10_digest 92 = .ok (.istore_n 3, 1) := by decide +kernel
theorem dX10_digest_93 : decode cX10_digest 93 = .ok (.iload_n 3, 1) := by decide +kernel
theorem dX10_digest_94 : decode cX10_digest 94 = .ok (.iconst 3, 1) := by decide +kernel
theorem dX10_digest_95 : decode cX10_digest 95 = .ok (.if_icmp .ge 21, 3) := by decide +kernel
theorem dX10_digest_98 : decode cX10_digest 98 = .ok (.aload_n 0, 1) := by decide +kernel
theorem dX10_digest_99 : decode cX10_digest 99 = .ok (.aload_n 0, 1) := by decide +kernel
theorem dX10_digest_100 : decode cX10_digest 100 = .ok (.iload_n 1, 1) := by decide +kernel
theorem dX10_digest_101 : decode cX10_digest 101 = .ok (.iload_n 2, 1) := by decide +kernel
theorem dX10_digest_102 : decode cX10_digest 102 = .ok (.iload_n 3, 1) := by decide +kernel
theorem dX10_digest_103 : decode cX10_digest 103 = .ok (.invokevirtual 164, 3) := by decide +kernel
theorem dX10_digest_106 : decode cX10_digest 106 = .ok (.i2l, 1) := by decide +kernel
theorem dX10_digest_107 : decode cX10_digest 107 = .ok (.invokevirtual 191, 3) := by decide +kernel
theorem dX10_digest_110 : decode cX10_digest 110 = .ok (.iinc 3 1, 3) := by decide +kernel
theorem dX10_digest_113 : decode cX10_digest 113 = .ok (.goto (-20), 3) := by decide +kernel
theorem dX10_digest_116 : decode cX10_digest 116 = .ok (.iinc 2 1, 3) := by decide +kernel
theorem dX10_digest_119 : decode cX10_digest 119 = .ok (.goto (-40), 3) := by decide +kernel
theorem dX10_digest_122 : decode cX10_digest 122 = .ok (.iinc 1 1, 3) := by decide +kernel
theorem dX10_digest_125 : decode cX10_digest 125 = .ok (.goto (-83), 3) := by decide +kernel
theorem dX10_digest_128 : decode cX10_digest 128 = .ok (.aload_n 0, 1) := by decide +kernel
theorem dX10_digest_129 : decode cX10_digest 129 = .ok (.getfield 185, 3) := by decide +kernel
theorem dX10_digest_132 : decode cX10_digest 132 = .ok (.lreturn, 1) := by decide +kernel
theorem dL_law_0 : decode cL_law 0 = .ok (.new 7, 3) := by decide +kernel
theorem dL_law_3 : decode cL_law 3 = .ok (.dup, 1) := by decide +kernel
theorem dL_law_4 : decode cL_law 4 = .ok (.invokespecial 9, 3) := by decide +kernel
theorem dL_law_7 : decode cL_law 7 = .ok (.astore_n 1, 1) := by decide +kernel
theorem dL_law_8 : decode cL_law 8 = .ok (.new 10, 3) := by decide +kernel
theorem dL_law_11 : decode cL_law 11 = .ok (.dup, 1) := by decide +kernel
theorem dL_law_12 : decode cL_law 12 = .ok (.invokespecial 12, 3) := by decide +kernel
theorem dL_law_15 : decode cL_law 15 = .ok (.astore_n 2, 1) := by decide +kernel
theorem dL_law_16 : decode cL_law 16 = .ok (.iconst 0, 1) := by decide +kernel
theorem dL_law_17 : decode cL_law 17 = .ok (.istore_n 3, 1) := by decide +kernel
theorem dL_law_18 : decode cL_law 18 = .ok (.iload_n 3, 1) := by decide +kernel
theorem dL_law_19 : decode cL_law 19 = .ok (.aload_n 0, 1) := by decide +kernel
theorem dL_law_20 : decode cL_law 20 = .ok (.arraylength, 1) := by decide +kernel
theorem dL_law_21 : decode cL_law 21 = .ok (.iconst 4, 1) := by decide +kernel
theorem dL_law_22 : decode cL_law 22 = .ok (.isub, 1) := by decide +kernel
theorem dL_law_23 : decode cL_law 23 = .ok (.if_icmp .gt 605, 3) := by decide +kernel
theorem dL_law_26 : decode cL_law 26 = .ok (.aload_n 0, 1) := by decide +kernel
theorem dL_law_27 : decode cL_law 27 = .ok (.iload_n 3, 1) := by decide +kernel
theorem dL_law_28 : decode cL_law 28 = .ok (.iaload, 1) := by decide +kernel
theorem dL_law_29 : decode cL_law 29 = .ok (.bipush 31, 2) := by decide +kernel
theorem dL_law_31 : decode cL_law 31 = .ok (.iand, 1) := by decide +kernel
theorem dL_law_32 : decode cL_law 32 = .ok (.tableswitch 590 0 18 #[92, 115, 128, 151, 174, 197, 240, 273, 306, 319, 342, 385, 428, 461, 504, 517, 540, 553, 576], 92) := by decide +kernel
theorem dL_law_124 : decode cL_law 124 = .ok (.aload_n 1, 1) := by decide +kernel
theorem dL_law_125 : decode cL_law 125 = .ok (.aload_n 0, 1) := by decide +kernel
theorem dL_law_126 : decode cL_law 126 = .ok (.iload_n 3, 1) := by decide +kernel
theorem dL_law_127 : decode cL_law 127 = .ok (.iconst 1, 1) := by decide +kernel
theorem dL_law_128 : decode cL_law 128 = .ok (.iadd, 1) := by decide +kernel
theorem dL_law_129 : decode cL_law 129 = .ok (.iaload, 1) := by decide +kernel
theorem dL_law_130 : decode cL_law 130 = .ok (.invokevirtual 13, 3) := by decide +kernel
theorem dL_law_133 : decode cL_law 133 = .ok (.aload_n 2, 1) := by decide +kernel
theorem dL_law_134 : decode cL_law 134 = .ok (.aload_n 0, 1) := by decide +kernel
theorem dL_law_135 : decode cL_law 135 = .ok (.iload_n 3, 1) := by decide +kernel
theorem dL_law_136 : decode cL_law 136 = .ok (.iconst 1, 1) := by decide +kernel
theorem dL_law_137 : decode cL_law 137 = .ok (.iadd, 1) := by decide +kernel
theorem dL_law_138 : decode cL_law 138 = .ok (.iaload, 1) := by decide +kernel
theorem dL_law_139 : decode cL_law 139 = .ok (.invokevirtual 17, 3) := by decide +kernel
theorem dL_law_142 : decode cL_law 142 = .ok (.if_icmp .eq 480, 3) := by decide +kernel
theorem dL_law_145 : decode cL_law 145 = .ok (.iconst 0, 1) := by decide +kernel
theorem dL_law_146 : decode cL_law 146 = .ok (.ireturn, 1) := by decide +kernel
theorem dL_law_147 : decode cL_law 147 = .ok (.aload_n 1, 1) := by decide +kernel
theorem dL_law_148 : decode cL_law 148 = .ok (.invokevirtual 18, 3) := by decide +kernel
theorem dL_law_151 : decode cL_law 151 = .ok (.aload_n 2, 1) := by decide +kernel
theorem dL_law_152 : decode cL_law 152 = .ok (.invokevirtual 22, 3) := by decide +kernel
theorem dL_law_155 : decode cL_law 155 = .ok (.if_icmp .eq 467, 3) := by decide +kernel
theorem dL_law_158 : decode cL_law 158 = .ok (.iconst 0, 1) := by decide +kernel
theorem dL_law_159 : decode cL_law 159 = .ok (.ireturn, 1) := by decide +kernel
theorem dL_law_160 : decode cL_law 160 = .ok (.aload_n 1, 1) := by decide +kernel
theorem dL_law_161 : decode cL_law 161 = .ok (.aload_n 0, 1) := by decide +kernel
theorem dL_law_162 : decode cL_law 162 = .ok (.iload_n 3, 1) := by decide +kernel
theorem dL_law_163 : decode cL_law 163 = .ok (.iconst 1, 1) := by decide +kernel
theorem dL_law_164 : decode cL_law 164 = .ok (.iadd, 1) := by decide +kernel
theorem dL_law_165 : decode cL_law 165 = .ok (.iaload, 1) := by decide +kernel
theorem dL_law_166 : decode cL_law 166 = .ok (.invokevirtual 23, 3) := by decide +kernel
theorem dL_law_169 : decode cL_law 169 = .ok (.aload_n 2, 1) := by decide +kernel
theorem dL_law_170 : decode cL_law 170 = .ok (.aload_n 0, 1) := by decide +kernel
theorem dL_law_171 : decode cL_law 171 = .ok (.iload_n 3, 1) := by decide +kernel
theorem dL_law_172 : decode cL_law 172 = .ok (.iconst 1, 1) := by decide +kernel
theorem dL_law_173 : decode cL_law 173 = .ok (.iadd, 1) := by decide +kernel
theorem dL_law_174 : decode cL_law 174 = .ok (.iaload, 1) := by decide +kernel
theorem dL_law_175 : decode cL_law 175 = .ok (.invokevirtual 26, 3) := by decide +kernel
theorem dL_law_178 : decode cL_law 178 = .ok (.if_icmp .eq 444, 3) := by decide +kernel
theorem dL_law_181 : decode cL_law 181 = .ok (.iconst 0, 1) := by decide +kernel
theorem dL_law_182 : decode cL_law 182 = .ok (.ireturn, 1) := by decide +kernel
theorem dL_law_183 : decode cL_law 183 = .ok (.aload_n 1, 1) := by decide +kernel
theorem dL_law_184 : decode cL_law 184 = .ok (.aload_n 0, 1) := by decide +kernel
theorem dL_law_185 : decode cL_law 185 = .ok (.iload_n 3, 1) := by decide +kernel
theorem dL_law_186 : decode cL_law 186 = .ok (.iconst 1, 1) := by decide +kernel
theorem dL_law_187 : decode cL_law 187 = .ok (.iadd, 1) := by decide +kernel
theorem dL_law_188 : decode cL_law 188 = .ok (.iaload, 1) := by decide +kernel
theorem dL_law_189 : decode cL_law 189 = .ok (.invokevirtual 27, 3) := by decide +kernel
theorem dL_law_192 : decode cL_law 192 = .ok (.aload_n 2, 1) := by decide +kernel
theorem dL_law_193 : decode cL_law 193 = .ok (.aload_n 0, 1) := by decide +kernel
theorem dL_law_194 : decode cL_law 194 = .ok (.iload_n 3, 1) := by decide +kernel
theorem dL_law_195 : decode cL_law 195 = .ok (.iconst 1, 1) := by decide +kernel
theorem dL_law_196 : decode cL_law 196 = .ok (.iadd, 1) := by decide +kernel
theorem dL_law_197 : decode cL_law 197 = .ok (.iaload, 1) := by decide +kernel
theorem dL_law_198 : decode cL_law 198 = .ok (.invokevirtual 30, 3) := by decide +kernel
theorem dL_law_201 : decode cL_law 201 = .ok (.if_icmp .eq 421, 3) := by decide +kernel
theorem dL_law_204 : decode cL_law 204 = .ok (.iconst 0, 1) := by decide +kernel
theorem dL_law_205 : decode cL_law 205 = .ok (.ireturn, 1) := by decide +kernel
theorem dL_law_206 : decode cL_law 206 = .ok (.aload_n 1, 1) := by decide +kernel
theorem dL_law_207 : decode cL_law 207 = .ok (.aload_n 0, 1) := by decide +kernel
theorem dL_law_208 : decode cL_law 208 = .ok (.iload_n 3, 1) := by decide +kernel
theorem dL_law_209 : decode cL_law 209 = .ok (.iconst 1, 1) := by decide +kernel
theorem dL_law_210 : decode cL_law 210 = .ok (.iadd, 1) := by decide +kernel
theorem dL_law_211 : decode cL_law 211 = .ok (.iaload, 1) := by decide +kernel
theorem dL_law_212 : decode cL_law 212 = .ok (.invokevirtual 31, 3) := by decide +kernel
theorem dL_law_215 : decode cL_law 215 = .ok (.aload_n 2, 1) := by decide +kernel
theorem dL_law_216 : decode cL_law 216 = .ok (.aload_n 0, 1) := by decide +kernel
theorem dL_law_217 : decode cL_law 217 = .ok (.iload_n 3, 1) := by decide +kernel
theorem dL_law_218 : decode cL_law 218 = .ok (.iconst 1, 1) := by decide +kernel
theorem dL_law_219 : decode cL_law 219 = .ok (.iadd, 1) := by decide +kernel
theorem dL_law_220 : decode cL_law 220 = .ok (.iaload, 1) := by decide +kernel
theorem dL_law_221 : decode cL_law 221 = .ok (.invokevirtual 34, 3) := by decide +kernel
theorem dL_law_224 : decode cL_law 224 = .ok (.if_icmp .eq 398, 3) := by decide +kernel
theorem dL_law_227 : decode cL_law 227 = .ok (.iconst 0, 1) := by decide +kernel
theorem dL_law_228 : decode cL_law 228 = .ok (.ireturn, 1) := by decide +kernel
theorem dL_law_229 : decode cL_law 229 = .ok (.aload_n 1, 1) := by decide +kernel
theorem dL_law_230 : decode cL_law 230 = .ok (.aload_n 0, 1) := by decide +kernel
theorem dL_law_231 : decode cL_law 231 = .ok (.iload_n 3, 1) := by decide +kernel
theorem dL_law_232 : decode cL_law 232 = .ok (.iconst 1, 1) := by decide +kernel
theorem dL_law_233 : decode cL_law 233 = .ok (.iadd, 1) := by decide +kernel
theorem dL_law_234 : decode cL_law 234 = .ok (.iaload, 1) := by decide +kernel
theorem dL_law_235 : decode cL_law 235 = .ok (.aload_n 0, 1) := by decide +kernel
theorem dL_law_236 : decode cL_law 236 = .ok (.iload_n 3, 1) := by decide +kernel
theorem dL_law_237 : decode cL_law 237 = .ok (.iconst 2, 1) := by decide +kernel
theorem dL_law_238 : decode cL_law 238 = .ok (.iadd, 1) := by decide +kernel
theorem dL_law_239 : decode cL_law 239 = .ok (.iaload, 1) := by decide +kernel
theorem dL_law_240 : decode cL_law 240 = .ok (.aload_n 0, 1) := by decide +kernel
theorem dL_law_241 : decode cL_law 241 = .ok (.iload_n 3, 1) := by decide +kernel
theorem dL_law_242 : decode cL_law 242 = .ok (.iconst 3, 1) := by decide +kernel
theorem dL_law_243 : decode cL_law 243 = .ok (.iadd, 1) := by decide +kernel
theorem dL_law_244 : decode cL_law 244 = .ok (.iaload, 1) := by decide +kernel
theorem dL_law_245 : decode cL_law 245 = .ok (.invokevirtual 35, 3) := by decide +kernel
theorem dL_law_248 : decode cL_law 248 = .ok (.aload_n 2, 1) := by decide +kernel
theorem dL_law_249 : decode cL_law 249 = .ok (.aload_n 0, 1) := by decide +kernel
theorem dL_law_250 : decode cL_law 250 = .ok (.iload_n 3, 1) := by decide +kernel
theorem dL_law_251 : decode cL_law 251 = .ok (.iconst 1, 1) := by decide +kernel
theorem dL_law_252 : decode cL_law 252 = .ok (.iadd, 1) := by decide +kernel
theorem dL_law_253 : decode cL_law 253 = .ok (.iaload, 1) := by decide +kernel
theorem dL_law_254 : decode cL_law 254 = .ok (.aload_n 0, 1) := by decide +kernel
theorem dL_law_255 : decode cL_law 255 = .ok (.iload_n 3, 1) := by decide +kernel
theorem dL_law_256 : decode cL_law 256 = .ok (.iconst 2, 1) := by decide +kernel
theorem dL_law_257 : decode cL_law 257 = .ok (.iadd, 1) := by decide +kernel
theorem dL_law_258 : decode cL_law 258 = .ok (.iaload, 1) := by decide +kernel
theorem dL_law_259 : decode cL_law 259 = .ok (.aload_n 0, 1) := by decide +kernel
theorem dL_law_260 : decode cL_law 260 = .ok (.iload_n 3, 1) := by decide +kernel
theorem dL_law_261 : decode cL_law 261 = .ok (.iconst 3, 1) := by decide +kernel
theorem dL_law_262 : decode cL_law 262 = .ok (.iadd, 1) := by decide +kernel
theorem dL_law_263 : decode cL_law 263 = .ok (.iaload, 1) := by decide +kernel
theorem dL_law_264 : decode cL_law 264 = .ok (.invokevirtual 39, 3) := by decide +kernel
theorem dL_law_267 : decode cL_law 267 = .ok (.if_icmp .eq 355, 3) := by decide +kernel
theorem dL_law_270 : decode cL_law 270 = .ok (.iconst 0, 1) := by decide +kernel
theorem dL_law_271 : decode cL_law 271 = .ok (.ireturn, 1) := by decide +kernel
theorem dL_law_272 : decode cL_law 272 = .ok (.aload_n 1, 1) := by decide +kernel
theorem dL_law_273 : decode cL_law 273 = .ok (.aload_n 0, 1) := by decide +kernel
theorem dL_law_274 : decode cL_law 274 = .ok (.iload_n 3, 1) := by decide +kernel
theorem dL_law_275 : decode cL_law 275 = .ok (.iconst 1, 1) := by decide +kernel
theorem dL_law_276 : decode cL_law 276 = .ok (.iadd, 1) := by decide +kernel
theorem dL_law_277 : decode cL_law 277 = .ok (.iaload, 1) := by decide +kernel
theorem dL_law_278 : decode cL_law 278 = .ok (.aload_n 0, 1) := by decide +kernel
theorem dL_law_279 : decode cL_law 279 = .ok (.iload_n 3, 1) := by decide +kernel
theorem dL_law_280 : decode cL_law 280 = .ok (.iconst 2, 1) := by decide +kernel
theorem dL_law_281 : decode cL_law 281 = .ok (.iadd, 1) := by decide +kernel
theorem dL_law_282 : decode cL_law 282 = .ok (.iaload, 1) := by decide +kernel
theorem dL_law_283 : decode cL_law 283 = .ok (.invokevirtual 40, 3) := by decide +kernel
theorem dL_law_286 : decode cL_law 286 = .ok (.aload_n 2, 1) := by decide +kernel
theorem dL_law_287 : decode cL_law 287 = .ok (.aload_n 0, 1) := by decide +kernel
theorem dL_law_288 : decode cL_law 288 = .ok (.iload_n 3, 1) := by decide +kernel
theorem dL_law_289 : decode cL_law 289 = .ok (.iconst 1, 1) := by decide +kernel
theorem dL_law_290 : decode cL_law 290 = .ok (.iadd, 1) := by decide +kernel
theorem dL_law_291 : decode cL_law 291 = .ok (.iaload, 1) := by decide +kernel
theorem dL_law_292 : decode cL_law 292 = .ok (.aload_n 0, 1) := by decide +kernel
theorem dL_law_293 : decode cL_law 293 = .ok (.iload_n 3, 1) := by decide +kernel
theorem dL_law_294 : decode cL_law 294 = .ok (.iconst 2, 1) := by decide +kernel
theorem dL_law_295 : decode cL_law 295 = .ok (.iadd, 1) := by decide +kernel
theorem dL_law_296 : decode cL_law 296 = .ok (.iaload, 1) := by decide +kernel
theorem dL_law_297 : decode cL_law 297 = .ok (.invokevirtual 44, 3) := by decide +kernel
theorem dL_law_300 : decode cL_law 300 = .ok (.if_icmp .eq 322, 3) := by decide +kernel
theorem dL_law_303 : decode cL_law 303 = .ok (.iconst 0, 1) := by decide +kernel
theorem dL_law_304 : decode cL_law 304 = .ok (.ireturn, 1) := by decide +kernel
theorem dL_law_305 : decode cL_law 305 = .ok (.aload_n 1, 1) := by decide +kernel
theorem dL_law_306 : decode cL_law 306 = .ok (.aload_n 0, 1) := by decide +kernel
theorem dL_law_307 : decode cL_law 307 = .ok (.iload_n 3, 1) := by decide +kernel
theorem dL_law_308 : decode cL_law 308 = .ok (.iconst 1, 1) := by decide +kernel
theorem dL_law_309 : decode cL_law 309 = .ok (.iadd, 1) := by decide +kernel
theorem dL_law_310 : decode cL_law 310 = .ok (.iaload, 1) := by decide +kernel
theorem dL_law_311 : decode cL_law 311 = .ok (.aload_n 0, 1) := by decide +kernel
theorem dL_law_312 : decode cL_law 312 = .ok (.iload_n 3, 1) := by decide +kernel
theorem dL_law_313 : decode cL_law 313 = .ok (.iconst 2, 1) := by decide +kernel
theorem dL_law_314 : decode cL_law 314 = .ok (.iadd, 1) := by decide +kernel
theorem dL_law_315 : decode cL_law 315 = .ok (.iaload, 1) := by decide +kernel
theorem dL_law_316 : decode cL_law 316 = .ok (.invokevirtual 45, 3) := by decide +kernel
theorem dL_law_319 : decode cL_law 319 = .ok (.aload_n 2, 1) := by decide +kernel
theorem dL_law_320 : decode cL_law 320 = .ok (.aload_n 0, 1) := by decide +kernel
theorem dL_law_321 : decode cL_law 321 = .ok (.iload_n 3, 1) := by decide +kernel
theorem dL_law_322 : decode cL_law 322 = .ok (.iconst 1, 1) := by decide +kernel
theorem dL_law_323 : decode cL_law 323 = .ok (.iadd, 1) := by decide +kernel
theorem dL_law_324 : decode cL_law 324 = .ok (.iaload, 1) := by decide +kernel
theorem dL_law_325 : decode cL_law 325 = .ok (.aload_n 0, 1) := by decide +kernel
theorem dL_law_326 : decode cL_law 326 = .ok (.iload_n 3, 1) := by decide +kernel
theorem dL_law_327 : decode cL_law 327 = .ok (.iconst 2, 1) := by decide +kernel
theorem dL_law_328 : decode cL_law 328 = .ok (.iadd, 1) := by decide +kernel
theorem dL_law_329 : decode cL_law 329 = .ok (.iaload, 1) := by decide +kernel
theorem dL_law_330 : decode cL_law 330 = .ok (.invokevirtual 48, 3) := by decide +kernel
theorem dL_law_333 : decode cL_law 333 = .ok (.if_icmp .eq 289, 3) := by decide +kernel
theorem dL_law_336 : decode cL_law 336 = .ok (.iconst 0, 1) := by decide +kernel
theorem dL_law_337 : decode cL_law 337 = .ok (.ireturn, 1) := by decide +kernel
theorem dL_law_338 : decode cL_law 338 = .ok (.aload_n 1, 1) := by decide +kernel
theorem dL_law_339 : decode cL_law 339 = .ok (.invokevirtual 49, 3) := by decide +kernel
theorem dL_law_342 : decode cL_law 342 = .ok (.aload_n 2, 1) := by decide +kernel
theorem dL_law_343 : decode cL_law 343 = .ok (.invokevirtual 52, 3) := by decide +kernel
theorem dL_law_346 : decode cL_law 346 = .ok (.if_icmp .eq 276, 3) := by decide +kernel
theorem dL_law_349 : decode cL_law 349 = .ok (.iconst 0, 1) := by decide +kernel
theorem dL_law_350 : decode cL_law 350 = .ok (.ireturn, 1) := by decide +kernel
theorem dL_law_351 : decode cL_law 351 = .ok (.aload_n 1, 1) := by decide +kernel
theorem dL_law_352 : decode cL_law 352 = .ok (.aload_n 0, 1) := by decide +kernel
theorem dL_law_353 : decode cL_law 353 = .ok (.iload_n 3, 1) := by decide +kernel
theorem dL_law_354 : decode cL_law 354 = .ok (.iconst 1, 1) := by decide +kernel
theorem dL_law_355 : decode cL_law 355 = .ok (.iadd, 1) := by decide +kernel
theorem dL_law_356 : decode cL_law 356 = .ok (.iaload, 1) := by decide +kernel
theorem dL_law_357 : decode cL_law 357 = .ok (.invokevirtual 53, 3) := by decide +kernel
theorem dL_law_360 : decode cL_law 360 = .ok (.aload_n 2, 1) := by decide +kernel
theorem dL_law_361 : decode cL_law 361 = .ok (.aload_n 0, 1) := by decide +kernel
theorem dL_law_362 : decode cL_law 362 = .ok (.iload_n 3, 1) := by decide +kernel
theorem dL_law_363 : decode cL_law 363 = .ok (.iconst 1, 1) := by decide +kernel
theorem dL_law_364 : decode cL_law 364 = .ok (.iadd, 1) := by decide +kernel
theorem dL_law_365 : decode cL_law 365 = .ok (.iaload, 1) := by decide +kernel
theorem dL_law_366 : decode cL_law 366 = .ok (.invokevirtual 56, 3) := by decide +kernel
theorem dL_law_369 : decode cL_law 369 = .ok (.if_icmp .eq 253, 3) := by decide +kernel
theorem dL_law_372 : decode cL_law 372 = .ok (.iconst 0, 1) := by decide +kernel
theorem dL_law_373 : decode cL_law 373 = .ok (.ireturn, 1) := by decide +kernel
theorem dL_law_374 : decode cL_law 374 = .ok (.aload_n 1, 1) := by decide +kernel
theorem dL_law_375 : decode cL_law 375 = .ok (.aload_n 0, 1) := by decide +kernel
theorem dL_law_376 : decode cL_law 376 = .ok (.iload_n 3, 1) := by decide +kernel
theorem dL_law_377 : decode cL_law 377 = .ok (.iconst 1, 1) := by decide +kernel
theorem dL_law_378 : decode cL_law 378 = .ok (.iadd, 1) := by decide +kernel
theorem dL_law_379 : decode cL_law 379 = .ok (.iaload, 1) := by decide +kernel
theorem dL_law_380 : decode cL_law 380 = .ok (.aload_n 0, 1) := by decide +kernel
theorem dL_law_381 : decode cL_law 381 = .ok (.iload_n 3, 1) := by decide +kernel
theorem dL_law_382 : decode cL_law 382 = .ok (.iconst 2, 1) := by decide +kernel
theorem dL_law_383 : decode cL_law 383 = .ok (.iadd, 1) := by decide +kernel
theorem dL_law_384 : decode cL_law 384 = .ok (.iaload, 1) := by decide +kernel
theorem dL_law_385 : decode cL_law 385 = .ok (.aload_n 0, 1) := by decide +kernel
theorem dL_law_386 : decode cL_law 386 = .ok (.iload_n 3, 1) := by decide +kernel
theorem dL_law_387 : decode cL_law 387 = .ok (.iconst 3, 1) := by decide +kernel
theorem dL_law_388 : decode cL_law 388 = .ok (.iadd, 1) := by decide +kernel
theorem dL_law_389 : decode cL_law 389 = .ok (.iaload, 1) := by decide +kernel
theorem dL_law_390 : decode cL_law 390 = .ok (.invokevirtual 57, 3) := by decide +kernel
theorem dL_law_393 : decode cL_law 393 = .ok (.aload_n 2, 1) := by decide +kernel
theorem dL_law_394 : decode cL_law 394 = .ok (.aload_n 0, 1) := by decide +kernel
theorem dL_law_395 : decode cL_law 395 = .ok (.iload_n 3, 1) := by decide +kernel
theorem dL_law_396 : decode cL_law 396 = .ok (.iconst 1, 1) := by decide +kernel
theorem dL_law_397 : decode cL_law 397 = .ok (.iadd, 1) := by decide +kernel
theorem dL_law_398 : decode cL_law 398 = .ok (.iaload, 1) := by decide +kernel
theorem dL_law_399 : decode cL_law 399 = .ok (.aload_n 0, 1) := by decide +kernel
theorem dL_law_400 : decode cL_law 400 = .ok (.iload_n 3, 1) := by decide +kernel
theorem dL_law_401 : decode cL_law 401 = .ok (.iconst 2, 1) := by decide +kernel
theorem dL_law_402 : decode cL_law 402 = .ok (.iadd, 1) := by decide +kernel
theorem dL_law_403 : decode cL_law 403 = .ok (.iaload, 1) := by decide +kernel
theorem dL_law_404 : decode cL_law 404 = .ok (.aload_n 0, 1) := by decide +kernel
theorem dL_law_405 : decode cL_law 405 = .ok (.iload_n 3, 1) := by decide +kernel
theorem dL_law_406 : decode cL_law 406 = .ok (.iconst 3, 1) := by decide +kernel
theorem dL_law_407 : decode cL_law 407 = .ok (.iadd, 1) := by decide +kernel
theorem dL_law_408 : decode cL_law 408 = .ok (.iaload, 1) := by decide +kernel
theorem dL_law_409 : decode cL_law 409 = .ok (.invokevirtual 60, 3) := by decide +kernel
theorem dL_law_412 : decode cL_law 412 = .ok (.if_icmp .eq 210, 3) := by decide +kernel
theorem dL_law_415 : decode cL_law 415 = .ok (.iconst 0, 1) := by decide +kernel
theorem dL_law_416 : decode cL_law 416 = .ok (.ireturn, 1) := by decide +kernel
theorem dL_law_417 : decode cL_law 417 = .ok (.aload_n 1, 1) := by decide +kernel
theorem dL_law_418 : decode cL_law 418 = .ok (.aload_n 0, 1) := by decide +kernel
theorem dL_law_419 : decode cL_law 419 = .ok (.iload_n 3, 1) := by decide +kernel
theorem dL_law_420 : decode cL_law 420 = .ok (.iconst 1, 1) := by decide +kernel
theorem dL_law_421 : decode cL_law 421 = .ok (.iadd, 1) := by decide +kernel
theorem dL_law_422 : decode cL_law 422 = .ok (.iaload, 1) := by decide +kernel
theorem dL_law_423 : decode cL_law 423 = .ok (.aload_n 0, 1) := by decide +kernel
theorem dL_law_424 : decode cL_law 424 = .ok (.iload_n 3, 1) := by decide +kernel
theorem dL_law_425 : decode cL_law 425 = .ok (.iconst 2, 1) := by decide +kernel
theorem dL_law_426 : decode cL_law 426 = .ok (.iadd, 1) := by decide +kernel
theorem dL_law_427 : decode cL_law 427 = .ok (.iaload, 1) := by decide +kernel
theorem dL_law_428 : decode cL_law 428 = .ok (.aload_n 0, 1) := by decide +kernel
theorem dL_law_429 : decode cL_law 429 = .ok (.iload_n 3, 1) := by decide +kernel
theorem dL_law_430 : decode cL_law 430 = .ok (.iconst 3, 1) := by decide +kernel
theorem dL_law_431 : decode cL_law 431 = .ok (.iadd, 1) := by decide +kernel
theorem dL_law_432 : decode cL_law 432 = .ok (.iaload, 1) := by decide +kernel
theorem dL_law_433 : decode cL_law 433 = .ok (.invokevirtual 61, 3) := by decide +kernel
theorem dL_law_436 : decode cL_law 436 = .ok (.aload_n 2, 1) := by decide +kernel
theorem dL_law_437 : decode cL_law 437 = .ok (.aload_n 0, 1) := by decide +kernel
theorem dL_law_438 : decode cL_law 438 = .ok (.iload_n 3, 1) := by decide +kernel
theorem dL_law_439 : decode cL_law 439 = .ok (.iconst 1, 1) := by decide +kernel
theorem dL_law_440 : decode cL_law 440 = .ok (.iadd, 1) := by decide +kernel
theorem dL_law_441 : decode cL_law 441 = .ok (.iaload, 1) := by decide +kernel
theorem dL_law_442 : decode cL_law 442 = .ok (.aload_n 0, 1) := by decide +kernel
theorem dL_law_443 : decode cL_law 443 = .ok (.iload_n 3, 1) := by decide +kernel
theorem dL_law_444 : decode cL_law 444 = .ok (.iconst 2, 1) := by decide +kernel
theorem dL_law_445 : decode cL_law 445 = .ok (.iadd, 1) := by decide +kernel
theorem dL_law_446 : decode cL_law 446 = .ok (.iaload, 1) := by decide +kernel
theorem dL_law_447 : decode cL_law 447 = .ok (.aload_n 0, 1) := by decide +kernel
theorem dL_law_448 : decode cL_law 448 = .ok (.iload_n 3, 1) := by decide +kernel
theorem dL_law_449 : decode cL_law 449 = .ok (.iconst 3, 1) := by decide +kernel
theorem dL_law_450 : decode cL_law 450 = .ok (.iadd, 1) := by decide +kernel
theorem dL_law_451 : decode cL_law 451 = .ok (.iaload, 1) := by decide +kernel
theorem dL_law_452 : decode cL_law 452 = .ok (.invokevirtual 64, 3) := by decide +kernel
theorem dL_law_455 : decode cL_law 455 = .ok (.if_icmp .eq 167, 3) := by decide +kernel
theorem dL_law_458 : decode cL_law 458 = .ok (.iconst 0, 1) := by decide +kernel
theorem dL_law_459 : decode cL_law 459 = .ok (.ireturn, 1) := by decide +kernel
theorem dL_law_460 : decode cL_law 460 = .ok (.aload_n 1, 1) := by decide +kernel
theorem dL_law_461 : decode cL_law 461 = .ok (.aload_n 0, 1) := by decide +kernel
theorem dL_law_462 : decode cL_law 462 = .ok (.iload_n 3, 1) := by decide +kernel
theorem dL_law_463 : decode cL_law 463 = .ok (.iconst 1, 1) := by decide +kernel
theorem dL_law_464 : decode cL_law 464 = .ok (.iadd, 1) := by decide +kernel
theorem dL_law_465 : decode cL_law 465 = .ok (.iaload, 1) := by decide +kernel
theorem dL_law_466 : decode cL_law 466 = .ok (.aload_n 0, 1) := by decide +kernel
theorem dL_law_467 : decode cL_law 467 = .ok (.iload_n 3, 1) := by decide +kernel
theorem dL_law_468 : decode cL_law 468 = .ok (.iconst 2, 1) := by decide +kernel
theorem dL_law_469 : decode cL_law 469 = .ok (.iadd, 1) := by decide +kernel
theorem dL_law_470 : decode cL_law 470 = .ok (.iaload, 1) := by decide +kernel
theorem dL_law_471 : decode cL_law 471 = .ok (.invokevirtual 65, 3) := by decide +kernel
theorem dL_law_474 : decode cL_law 474 = .ok (.aload_n 2, 1) := by decide +kernel
theorem dL_law_475 : decode cL_law 475 = .ok (.aload_n 0, 1) := by decide +kernel
theorem dL_law_476 : decode cL_law 476 = .ok (.iload_n 3, 1) := by decide +kernel
theorem dL_law_477 : decode cL_law 477 = .ok (.iconst 1, 1) := by decide +kernel
theorem dL_law_478 : decode cL_law 478 = .ok (.iadd, 1) := by decide +kernel
theorem dL_law_479 : decode cL_law 479 = .ok (.iaload, 1) := by decide +kernel
theorem dL_law_480 : decode cL_law 480 = .ok (.aload_n 0, 1) := by decide +kernel
theorem dL_law_481 : decode cL_law 481 = .ok (.iload_n 3, 1) := by decide +kernel
theorem dL_law_482 : decode cL_law 482 = .ok (.iconst 2, 1) := by decide +kernel
theorem dL_law_483 : decode cL_law 483 = .ok (.iadd, 1) := by decide +kernel
theorem dL_law_484 : decode cL_law 484 = .ok (.iaload, 1) := by decide +kernel
theorem dL_law_485 : decode cL_law 485 = .ok (.invokevirtual 68, 3) := by decide +kernel
theorem dL_law_488 : decode cL_law 488 = .ok (.if_icmp .eq 134, 3) := by decide +kernel
theorem dL_law_491 : decode cL_law 491 = .ok (.iconst 0, 1) := by decide +kernel
theorem dL_law_492 : decode cL_law 492 = .ok (.ireturn, 1) := by decide +kernel
theorem dL_law_493 : decode cL_law 493 = .ok (.aload_n 1, 1) := by decide +kernel
theorem dL_law_494 : decode cL_law 494 = .ok (.aload_n 0, 1) := by decide +kernel
theorem dL_law_495 : decode cL_law 495 = .ok (.iload_n 3, 1) := by decide +kernel
theorem dL_law_496 : decode cL_law 496 = .ok (.iconst 1, 1) := by decide +kernel
theorem dL_law_497 : decode cL_law 497 = .ok (.iadd, 1) := by decide +kernel
theorem dL_law_498 : decode cL_law 498 = .ok (.iaload, 1) := by decide +kernel
theorem dL_law_499 : decode cL_law 499 = .ok (.aload_n 0, 1) := by decide +kernel
theorem dL_law_500 : decode cL_law 500 = .ok (.iload_n 3, 1) := by decide +kernel
theorem dL_law_501 : decode cL_law 501 = .ok (.iconst 2, 1) := by decide +kernel
theorem dL_law_502 : decode cL_law 502 = .ok (.iadd, 1) := by decide +kernel
theorem dL_law_503 : decode cL_law 503 = .ok (.iaload, 1) := by decide +kernel
theorem dL_law_504 : decode cL_law 504 = .ok (.aload_n 0, 1) := by decide +kernel
theorem dL_law_505 : decode cL_law 505 = .ok (.iload_n 3, 1) := by decide +kernel
theorem dL_law_506 : decode cL_law 506 = .ok (.iconst 3, 1) := by decide +kernel
theorem dL_law_507 : decode cL_law 507 = .ok (.iadd, 1) := by decide +kernel
theorem dL_law_508 : decode cL_law 508 = .ok (.iaload, 1) := by decide +kernel
theorem dL_law_509 : decode cL_law 509 = .ok (.invokevirtual 69, 3) := by decide +kernel
theorem dL_law_512 : decode cL_law 512 = .ok (.aload_n 2, 1) := by decide +kernel
theorem dL_law_513 : decode cL_law 513 = .ok (.aload_n 0, 1) := by decide +kernel
theorem dL_law_514 : decode cL_law 514 = .ok (.iload_n 3, 1) := by decide +kernel
theorem dL_law_515 : decode cL_law 515 = .ok (.iconst 1, 1) := by decide +kernel
theorem dL_law_516 : decode cL_law 516 = .ok (.iadd, 1) := by decide +kernel
theorem dL_law_517 : decode cL_law 517 = .ok (.iaload, 1) := by decide +kernel
theorem dL_law_518 : decode cL_law 518 = .ok (.aload_n 0, 1) := by decide +kernel
theorem dL_law_519 : decode cL_law 519 = .ok (.iload_n 3, 1) := by decide +kernel
theorem dL_law_520 : decode cL_law 520 = .ok (.iconst 2, 1) := by decide +kernel
theorem dL_law_521 : decode cL_law 521 = .ok (.iadd, 1) := by decide +kernel
theorem dL_law_522 : decode cL_law 522 = .ok (.iaload, 1) := by decide +kernel
theorem dL_law_523 : decode cL_law 523 = .ok (.aload_n 0, 1) := by decide +kernel
theorem dL_law_524 : decode cL_law 524 = .ok (.iload_n 3, 1) := by decide +kernel
theorem dL_law_525 : decode cL_law 525 = .ok (.iconst 3, 1) := by decide +kernel
theorem dL_law_526 : decode cL_law 526 = .ok (.iadd, 1) := by decide +kernel
theorem dL_law_527 : decode cL_law 527 = .ok (.iaload, 1) := by decide +kernel
theorem dL_law_528 : decode cL_law 528 = .ok (.invokevirtual 72, 3) := by decide +kernel
theorem dL_law_531 : decode cL_law 531 = .ok (.if_icmp .eq 91, 3) := by decide +kernel
theorem dL_law_534 : decode cL_law 534 = .ok (.iconst 0, 1) := by decide +kernel
theorem dL_law_535 : decode cL_law 535 = .ok (.ireturn, 1) := by decide +kernel
theorem dL_law_536 : decode cL_law 536 = .ok (.aload_n 1, 1) := by decide +kernel
theorem dL_law_537 : decode cL_law 537 = .ok (.invokevirtual 73, 3) := by decide +kernel
theorem dL_law_540 : decode cL_law 540 = .ok (.aload_n 2, 1) := by decide +kernel
theorem dL_law_541 : decode cL_law 541 = .ok (.invokevirtual 76, 3) := by decide +kernel
theorem dL_law_544 : decode cL_law 544 = .ok (.if_icmp .eq 78, 3) := by decide +kernel
theorem dL_law_547 : decode cL_law 547 = .ok (.iconst 0, 1) := by decide +kernel
theorem dL_law_548 : decode cL_law 548 = .ok (.ireturn, 1) := by decide +kernel
theorem dL_law_549 : decode cL_law 549 = .ok (.aload_n 1, 1) := by decide +kernel
theorem dL_law_550 : decode cL_law 550 = .ok (.aload_n 0, 1) := by decide +kernel
theorem dL_law_551 : decode cL_law 551 = .ok (.iload_n 3, 1) := by decide +kernel
theorem dL_law_552 : decode cL_law 552 = .ok (.iconst 1, 1) := by decide +kernel
theorem dL_law_553 : decode cL_law 553 = .ok (.iadd, 1) := by decide +kernel
theorem dL_law_554 : decode cL_law 554 = .ok (.iaload, 1) := by decide +kernel
theorem dL_law_555 : decode cL_law 555 = .ok (.invokevirtual 77, 3) := by decide +kernel
theorem dL_law_558 : decode cL_law 558 = .ok (.aload_n 2, 1) := by decide +kernel
theorem dL_law_559 : decode cL_law 559 = .ok (.aload_n 0, 1) := by decide +kernel
theorem dL_law_560 : decode cL_law 560 = .ok (.iload_n 3, 1) := by decide +kernel
theorem dL_law_561 : decode cL_law 561 = .ok (.iconst 1, 1) := by decide +kernel
theorem dL_law_562 : decode cL_law 562 = .ok (.iadd, 1) := by decide +kernel
theorem dL_law_563 : decode cL_law 563 = .ok (.iaload, 1) := by decide +kernel
theorem dL_law_564 : decode cL_law 564 = .ok (.invokevirtual 80, 3) := by decide +kernel
theorem dL_law_567 : decode cL_law 567 = .ok (.if_icmp .eq 55, 3) := by decide +kernel
theorem dL_law_570 : decode cL_law 570 = .ok (.iconst 0, 1) := by decide +kernel
theorem dL_law_571 : decode cL_law 571 = .ok (.ireturn, 1) := by decide +kernel
theorem dL_law_572 : decode cL_law 572 = .ok (.aload_n 1, 1) := by decide +kernel
theorem dL_law_573 : decode cL_law 573 = .ok (.invokevirtual 81, 3) := by decide +kernel
theorem dL_law_576 : decode cL_law 576 = .ok (.aload_n 2, 1) := by decide +kernel
theorem dL_law_577 : decode cL_law 577 = .ok (.invokevirtual 84, 3) := by decide +kernel
theorem dL_law_580 : decode cL_law 580 = .ok (.if_icmp .eq 42, 3) := by decide +kernel
theorem dL_law_583 : decode cL_law 583 = .ok (.iconst 0, 1) := by decide +kernel
theorem dL_law_584 : decode cL_law 584 = .ok (.ireturn, 1) := by decide +kernel
theorem dL_law_585 : decode cL_law 585 = .ok (.aload_n 1, 1) := by decide +kernel
theorem dL_law_586 : decode cL_law 586 = .ok (.aload_n 0, 1) := by decide +kernel
theorem dL_law_587 : decode cL_law 587 = .ok (.iload_n 3, 1) := by decide +kernel
theorem dL_law_588 : decode cL_law 588 = .ok (.iconst 1, 1) := by decide +kernel
theorem dL_law_589 : decode cL_law 589 = .ok (.iadd, 1) := by decide +kernel
theorem dL_law_590 : decode cL_law 590 = .ok (.iaload, 1) := by decide +kernel
theorem dL_law_591 : decode cL_law 591 = .ok (.invokevirtual 85, 3) := by decide +kernel
theorem dL_law_594 : decode cL_law 594 = .ok (.aload_n 2, 1) := by decide +kernel
theorem dL_law_595 : decode cL_law 595 = .ok (.aload_n 0, 1) := by decide +kernel
theorem dL_law_596 : decode cL_law 596 = .ok (.iload_n 3, 1) := by decide +kernel
theorem dL_law_597 : decode cL_law 597 = .ok (.iconst 1, 1) := by decide +kernel
theorem dL_law_598 : decode cL_law 598 = .ok (.iadd, 1) := by decide +kernel
theorem dL_law_599 : decode cL_law 599 = .ok (.iaload, 1) := by decide +kernel
theorem dL_law_600 : decode cL_law 600 = .ok (.invokevirtual 88, 3) := by decide +kernel
theorem dL_law_603 : decode cL_law 603 = .ok (.if_icmp .eq 19, 3) := by decide +kernel
theorem dL_law_606 : decode cL_law 606 = .ok (.iconst 0, 1) := by decide +kernel
theorem dL_law_607 : decode cL_law 607 = .ok (.ireturn, 1) := by decide +kernel
theorem dL_law_608 : decode cL_law 608 = .ok (.aload_n 1, 1) := by decide +kernel
theorem dL_law_609 : decode cL_law 609 = .ok (.invokevirtual 89, 3) := by decide +kernel
theorem dL_law_612 : decode cL_law 612 = .ok (.aload_n 2, 1) := by decide +kernel
theorem dL_law_613 : decode cL_law 613 = .ok (.invokevirtual 93, 3) := by decide +kernel
theorem dL_law_616 : decode cL_law 616 = .ok (.lcmp, 1) := by decide +kernel
theorem dL_law_617 : decode cL_law 617 = .ok (.ifCond .eq 5, 3) := by decide +kernel
theorem dL_law_620 : decode cL_law 620 = .ok (.iconst 0, 1) := by decide +kernel
theorem dL_law_621 : decode cL_law 621 = .ok (.ireturn, 1) := by decide +kernel
theorem dL_law_622 : decode cL_law 622 = .ok (.iinc 3 4, 3) := by decide +kernel
theorem dL_law_625 : decode cL_law 625 = .ok (.goto (-607), 3) := by decide +kernel
theorem dL_law_628 : decode cL_law 628 = .ok (.iconst 1, 1) := by decide +kernel
theorem dL_law_629 : decode cL_law 629 = .ok (.ireturn, 1) := by decide +kernel
end
section
/-- a method: name, bytes, locals, answer, number of its class, frames below it, parameters, a constructor (1), place of its code word -/
abbrev ME : Type := MethodName × ByteArray × Nat × Option FieldType × Nat × Nat × Nat × Nat × Nat
def mX0_init : ME := (yX0_init, cX0_init, 2, none, 0, 4, 0, 1, 230)
def mX0_keep : ME := (yX0_keep, cX0_keep, 2, none, 0, 4, 1, 0, 314)
def mX0_giveBack : ME := (yX0_giveBack, cX0_giveBack, 2, none, 0, 4, 1, 0, 581)
def mX1_init : ME := (yX1_init, cX1_init, 2, none, 1, 3, 0, 1, 237)
def mX1_take : ME := (yX1_take, cX1_take, 3, none, 1, 3, 1, 0, 318)
def mX1_give : ME := (yX1_give, cX1_give, 3, none, 1, 3, 1, 0, 585)
def mX2_init : ME := (yX2_init, cX2_init, 1, none, 2, 2, 0, 1, 96)
def mX2_fill : ME := (yX2_fill, cX2_fill, 6, (some .int), 2, 1, 4, 0, 372)
def mX2_countBytes : ME := (yX2_countBytes, cX2_countBytes, 4, (some .int), 2, 0, 1, 0, 573)
def mX2_beginsSpan : ME := (yX2_beginsSpan, cX2_beginsSpan, 2, (some .boolean), 2, 0, 1, 0, 547)
def mX2_countSpans : ME := (yX2_countSpans, cX2_countSpans, 3, (some .int), 2, 1, 0, 0, 543)
def mX2_beginOfSpan : ME := (yX2_beginOfSpan, cX2_beginOfSpan, 4, (some .int), 2, 1, 1, 0, 557)
def mX2_endOfSpan : ME := (yX2_endOfSpan, cX2_endOfSpan, 3, (some .int), 2, 1, 1, 0, 561)
def mX3_init : ME := (yX3_init, cX3_init, 2, none, 3, 3, 0, 1, 89)
def mX3_hasLine : ME := (yX3_hasLine, cX3_hasLine, 2, (some .boolean), 3, 0, 1, 0, 349)
def mX3_hasByte : ME := (yX3_hasByte, cX3_hasByte, 3, (some .boolean), 3, 1, 2, 0, 484)
def mX3_openLine : ME := (yX3_openLine, cX3_openLine, 4, none, 3, 0, 1, 0, 340)
def mX3_closeLine : ME := (yX3_closeLine, cX3_closeLine, 4, none, 3, 1, 1, 0, 472)
def mX3_repaint : ME := (yX3_repaint, cX3_repaint, 7, (some .int), 3, 5, 2, 0, 345)
def mX4_init : ME := (yX4_init, cX4_init, 2, none, 4, 2, 1, 1, 187)
def mX4_paintLine : ME := (yX4_paintLine, cX4_paintLine, 4, none, 4, 4, 1, 0, 360)
def mX4_paintTillMark : ME := (yX4_paintTillMark, cX4_paintTillMark, 3, none, 4, 2, 1, 0, 364)
def mX4_paintFrom : ME := (yX4_paintFrom, cX4_paintFrom, 6, (some .int), 4, 3, 3, 0, 388)
def mX4_takeInRemark : ME := (yX4_takeInRemark, cX4_takeInRemark, 2, (some .int), 4, 1, 1, 0, 392)
def mX4_takeInString : ME := (yX4_takeInString, cX4_takeInString, 2, (some .int), 4, 2, 1, 0, 404)
def mX4_takeInCode : ME := (yX4_takeInCode, cX4_takeInCode, 2, (some .int), 4, 2, 1, 0, 441)
def mX4_paintName : ME := (yX4_paintName, cX4_paintName, 5, (some .int), 4, 2, 2, 0, 415)
def mX4_endOfFigures : ME := (yX4_endOfFigures, cX4_endOfFigures, 4, (some .int), 4, 1, 2, 0, 430)
def mX4_beginsMark : ME := (yX4_beginsMark, cX4_beginsMark, 3, (some .boolean), 4, 1, 2, 0, 434)
def mX5_init : ME := (yX5_init, cX5_init, 2, none, 5, 1, 1, 1, 68)
def mX5_signAt : ME := (yX5_signAt, cX5_signAt, 2, (some .int), 5, 0, 1, 0, 368)
def mX5_copyFrom : ME := (yX5_copyFrom, cX5_copyFrom, 2, none, 5, 1, 1, 0, 322)
def mX5_isLike : ME := (yX5_isLike, cX5_isLike, 2, (some .boolean), 5, 1, 1, 0, 463)
def mX5_holds : ME := (yX5_holds, cX5_holds, 5, (some .boolean), 5, 0, 3, 0, 423)
def mX5_put : ME := (yX5_put, cX5_put, 3, none, 5, 1, 2, 0, 299)
def mX5_erase : ME := (yX5_erase, cX5_erase, 2, none, 5, 1, 1, 0, 489)
def mX5_moveTail : ME := (yX5_moveTail, cX5_moveTail, 3, none, 5, 1, 2, 0, 497)
def mX6_init : ME := (yX6_init, cX6_init, 1, none, 6, 1, 0, 1, 170)
def mX6_copyFrom : ME := (yX6_copyFrom, cX6_copyFrom, 2, none, 6, 1, 1, 0, 334)
def mX6_add : ME := (yX6_add, cX6_add, 8, none, 6, 0, 3, 0, 527)
def mX6_shadeOf : ME := (yX6_shadeOf, cX6_shadeOf, 4, (some .int), 6, 0, 2, 0, 535)
def mX7_init : ME := (yX7_init, cX7_init, 1, none, 7, 1, 0, 1, 104)
def mX7_begin : ME := (yX7_begin, cX7_begin, 1, none, 7, 0, 0, 0, 109)
def mX7_copyFrom : ME := (yX7_copyFrom, cX7_copyFrom, 2, none, 7, 1, 1, 0, 353)
def mX7_isLike : ME := (yX7_isLike, cX7_isLike, 3, (some .boolean), 7, 0, 1, 0, 454)
def mX7_opener : ME := (yX7_opener, cX7_opener, 3, (some .int), 7, 0, 1, 0, 381)
def mX7_mode : ME := (yX7_mode, cX7_mode, 2, (some .int), 7, 1, 0, 0, 377)
def mX7_quote : ME := (yX7_quote, cX7_quote, 2, (some .int), 7, 1, 0, 0, 408)
def mX7_liesInString : ME := (yX7_liesInString, cX7_liesInString, 1, (some .boolean), 7, 1, 0, 0, 445)
def mX7_open : ME := (yX7_open, cX7_open, 2, (some .boolean), 7, 0, 1, 0, 396)
def mX7_close : ME := (yX7_close, cX7_close, 1, none, 7, 0, 0, 0, 400)
def mX7_closeLineStrings : ME := (yX7_closeLineStrings, cX7_closeLineStrings, 2, none, 7, 0, 0, 0, 450)
def mX8_init : ME := (yX8_init, cX8_init, 2, none, 8, 2, 0, 1, 153)
def mX8_copyFrom : ME := (yX8_copyFrom, cX8_copyFrom, 3, none, 8, 2, 1, 0, 329)
def mX8_has : ME := (yX8_has, cX8_has, 5, (some .boolean), 8, 1, 3, 0, 419)
def mX8_add : ME := (yX8_add, cX8_add, 2, none, 8, 2, 1, 0, 510)
def mX8_removeWith : ME := (yX8_removeWith, cX8_removeWith, 4, (some .int), 8, 2, 1, 0, 518)
def mX9_init : ME := (yX9_init, cX9_init, 1, none, 9, 5, 0, 1, 60)
def mX9_type : ME := (yX9_type, cX9_type, 2, (some .int), 9, 2, 1, 0, 288)
def mX9_clear : ME := (yX9_clear, cX9_clear, 2, (some .int), 9, 0, 0, 0, 306)
def mX9_inserts : ME := (yX9_inserts, cX9_inserts, 2, (some .int), 9, 6, 1, 0, 310)
def mX9_sets : ME := (yX9_sets, cX9_sets, 4, (some .int), 9, 6, 1, 0, 458)
def mX9_drops : ME := (yX9_drops, cX9_drops, 2, (some .int), 9, 6, 1, 0, 468)
def mX9_puts : ME := (yX9_puts, cX9_puts, 5, (some .int), 9, 6, 3, 0, 476)
def mX9_erases : ME := (yX9_erases, cX9_erases, 5, (some .int), 9, 6, 2, 0, 480)
def mX9_splits : ME := (yX9_splits, cX9_splits, 3, (some .int), 9, 6, 2, 0, 493)
def mX9_word : ME := (yX9_word, cX9_word, 2, (some .int), 9, 6, 0, 0, 501)
def mX9_unword : ME := (yX9_unword, cX9_unword, 3, (some .int), 9, 6, 1, 0, 514)
def mX9_rule : ME := (yX9_rule, cX9_rule, 6, (some .int), 9, 5, 3, 0, 523)
def mX9_at : ME := (yX9_at, cX9_at, 5, (some .int), 9, 2, 3, 0, 531)
def mX9_of : ME := (yX9_of, cX9_of, 4, (some .int), 9, 2, 2, 0, 539)
def mX9_span : ME := (yX9_span, cX9_span, 6, (some .int), 9, 2, 3, 0, 553)
def mX9_anew : ME := (yX9_anew, cX9_anew, 1, (some .int), 9, 0, 0, 0, 565)
def mX9_painted : ME := (yX9_painted, cX9_painted, 4, (some .int), 9, 1, 1, 0, 569)
def mX9_back : ME := (yX9_back, cX9_back, 1, (some .int), 9, 6, 0, 0, 577)
def mX9_told : ME := (yX9_told, cX9_told, 2, (some .int), 9, 1, 1, 0, 589)
def mX9_digest : ME := (yX9_digest, cX9_digest, 4, (some .long), 9, 4, 0, 0, 593)
def mX9_digestLine : ME := (yX9_digestLine, cX9_digestLine, 8, (some .long), 9, 3, 2, 0, 600)
def mX9_refuse : ME := (yX9_refuse, cX9_refuse, 3, (some .int), 9, 0, 1, 0, 295)
def mX9_isByte : ME := (yX9_isByte, cX9_isByte, 1, (some .boolean), 9, 0, 1, 0, 291)
def mX9_isLetter : ME := (yX9_isLetter, cX9_isLetter, 1, (some .boolean), 9, 0, 1, 0, 411)
def mX9_isFigure : ME := (yX9_isFigure, cX9_isFigure, 1, (some .boolean), 9, 0, 1, 0, 426)
def mX9_isCapital : ME := (yX9_isCapital, cX9_isCapital, 1, (some .boolean), 9, 0, 1, 0, 437)
def mX9_isQuote : ME := (yX9_isQuote, cX9_isQuote, 1, (some .boolean), 9, 0, 1, 0, 384)
def mX9_isWordLike : ME := (yX9_isWordLike, cX9_isWordLike, 2, (some .boolean), 9, 1, 1, 0, 504)
def mX10_init : ME := (yX10_init, cX10_init, 1, none, 10, 1, 0, 1, 607)
def mX10_in : ME := (yX10_in, cX10_in, 3, (some .boolean), 10, 0, 3, 0, 670)
def mX10_refuses : ME := (yX10_refuses, cX10_refuses, 2, (some .int), 10, 0, 1, 0, 674)
def mX10_remembers : ME := (yX10_remembers, cX10_remembers, 2, none, 10, 0, 0, 0, 686)
def mX10_top : ME := (yX10_top, cX10_top, 1, (some .int), 10, 0, 0, 0, 722)
def mX10_comesOn : ME := (yX10_comesOn, cX10_comesOn, 2, (some .boolean), 10, 0, 1, 0, 759)
def mX10_goesOff : ME := (yX10_goesOff, cX10_goesOff, 1, none, 10, 0, 0, 0, 763)
def mX10_standing : ME := (yX10_standing, cX10_standing, 1, (some .int), 10, 0, 0, 0, 775)
def mX10_manyOf : ME := (yX10_manyOf, cX10_manyOf, 1, (some .int), 10, 0, 1, 0, 845)
def mX10_topOf : ME := (yX10_topOf, cX10_topOf, 1, (some .int), 10, 1, 1, 0, 842)
def mX10_modeOf : ME := (yX10_modeOf, cX10_modeOf, 1, (some .int), 10, 0, 1, 0, 744)
def mX10_byteAt : ME := (yX10_byteAt, cX10_byteAt, 2, (some .int), 10, 0, 1, 0, 718)
def mX10_isLetter : ME := (yX10_isLetter, cX10_isLetter, 1, (some .boolean), 10, 1, 1, 0, 729)
def mX10_isFigure : ME := (yX10_isFigure, cX10_isFigure, 1, (some .boolean), 10, 1, 1, 0, 747)
def mX10_colour : ME := (yX10_colour, cX10_colour, 4, none, 10, 1, 2, 0, 741)
def mX10_pushes : ME := (yX10_pushes, cX10_pushes, 5, none, 10, 2, 2, 0, 755)
def mX10_isWord : ME := (yX10_isWord, cX10_isWord, 7, (some .boolean), 10, 1, 2, 0, 737)
def mX10_letters : ME := (yX10_letters, cX10_letters, 2, (some .int), 10, 2, 0, 0, 733)
def mX10_figures : ME := (yX10_figures, cX10_figures, 2, (some .int), 10, 2, 0, 0, 751)
def mX10_paintsCode : ME := (yX10_paintsCode, cX10_paintsCode, 5, (some .int), 10, 3, 1, 0, 726)
def mX10_paintsString : ME := (yX10_paintsString, cX10_paintsString, 3, none, 10, 3, 0, 0, 771)
def mX10_paintsRemark : ME := (yX10_paintsRemark, cX10_paintsRemark, 2, none, 10, 3, 0, 0, 767)
def mX10_paintsMarked : ME := (yX10_paintsMarked, cX10_paintsMarked, 3, none, 10, 1, 0, 0, 714)
def mX10_paintsLine : ME := (yX10_paintsLine, cX10_paintsLine, 3, none, 10, 4, 0, 0, 710)
def mX10_paints : ME := (yX10_paints, cX10_paints, 1, none, 10, 5, 0, 0, 706)
def mX10_changes : ME := (yX10_changes, cX10_changes, 5, none, 10, 6, 2, 0, 702)
def mX10_type : ME := (yX10_type, cX10_type, 2, (some .int), 10, 1, 1, 0, 667)
def mX10_clear : ME := (yX10_clear, cX10_clear, 2, (some .int), 10, 0, 0, 0, 678)
def mX10_isLine : ME := (yX10_isLine, cX10_isLine, 2, (some .boolean), 10, 1, 1, 0, 783)
def mX10_takesText : ME := (yX10_takesText, cX10_takesText, 3, none, 10, 0, 1, 0, 698)
def mX10_moves : ME := (yX10_moves, cX10_moves, 4, none, 10, 0, 2, 0, 694)
def mX10_opens : ME := (yX10_opens, cX10_opens, 3, none, 10, 1, 1, 0, 690)
def mX10_inserts : ME := (yX10_inserts, cX10_inserts, 2, (some .int), 10, 7, 1, 0, 682)
def mX10_sets : ME := (yX10_sets, cX10_sets, 5, (some .int), 10, 7, 1, 0, 779)
def mX10_drops : ME := (yX10_drops, cX10_drops, 4, (some .int), 10, 7, 1, 0, 787)
def mX10_puts : ME := (yX10_puts, cX10_puts, 6, (some .int), 10, 7, 3, 0, 791)
def mX10_erases : ME := (yX10_erases, cX10_erases, 6, (some .int), 10, 7, 2, 0, 795)
def mX10_splits : ME := (yX10_splits, cX10_splits, 6, (some .int), 10, 7, 2, 0, 799)
def mX10_isTextWord : ME := (yX10_isTextWord, cX10_isTextWord, 3, (some .boolean), 10, 2, 0, 0, 807)
def mX10_isTold : ME := (yX10_isTold, cX10_isTold, 5, (some .boolean), 10, 0, 0, 0, 811)
def mX10_word : ME := (yX10_word, cX10_word, 3, (some .int), 10, 7, 0, 0, 803)
def mX10_unword : ME := (yX10_unword, cX10_unword, 6, (some .int), 10, 7, 1, 0, 815)
def mX10_rule : ME := (yX10_rule, cX10_rule, 5, (some .int), 10, 1, 3, 0, 819)
def mX10_shadeOf : ME := (yX10_shadeOf, cX10_shadeOf, 9, (some .int), 10, 0, 2, 0, 831)
def mX10_byteTold : ME := (yX10_byteTold, cX10_byteTold, 5, (some .int), 10, 1, 3, 0, 827)
def mX10_at : ME := (yX10_at, cX10_at, 5, (some .int), 10, 2, 3, 0, 823)
def mX10_begins : ME := (yX10_begins, cX10_begins, 3, (some .boolean), 10, 0, 2, 0, 853)
def mX10_spansOf : ME := (yX10_spansOf, cX10_spansOf, 4, (some .int), 10, 1, 1, 0, 849)
def mX10_lineTold : ME := (yX10_lineTold, cX10_lineTold, 5, (some .int), 10, 2, 2, 0, 839)
def mX10_of : ME := (yX10_of, cX10_of, 3, (some .int), 10, 3, 2, 0, 835)
def mX10_span : ME := (yX10_span, cX10_span, 7, (some .int), 10, 2, 3, 0, 857)
def mX10_anew : ME := (yX10_anew, cX10_anew, 1, (some .int), 10, 0, 0, 0, 861)
def mX10_painted : ME := (yX10_painted, cX10_painted, 5, (some .int), 10, 1, 1, 0, 865)
def mX10_back : ME := (yX10_back, cX10_back, 2, (some .int), 10, 6, 0, 0, 869)
def mX10_toldOf : ME := (yX10_toldOf, cX10_toldOf, 2, (some .int), 10, 0, 1, 0, 877)
def mX10_told : ME := (yX10_told, cX10_told, 2, (some .int), 10, 1, 1, 0, 873)
def mX10_mix : ME := (yX10_mix, cX10_mix, 3, none, 10, 0, 1, 0, 886)
def mX10_digest : ME := (yX10_digest, cX10_digest, 4, (some .long), 10, 3, 0, 0, 881)
def mL_law : ME := (x, cL_law, 4, (some .boolean), 11, 8, 1, 0, 0)
def mtL : List ME := [mX0_init, mX0_keep, mX0_giveBack, mX1_init, mX1_take, mX1_give, mX2_init, mX2_fill, mX2_countBytes, mX2_beginsSpan, mX2_countSpans, mX2_beginOfSpan, mX2_endOfSpan, mX3_init, mX3_hasLine, mX3_hasByte, mX3_openLine, mX3_closeLine, mX3_repaint, mX4_init, mX4_paintLine, mX4_paintTillMark, mX4_paintFrom, mX4_takeInRemark, mX4_takeInString, mX4_takeInCode, mX4_paintName, mX4_endOfFigures, mX4_beginsMark, mX5_init, mX5_signAt, mX5_copyFrom, mX5_isLike, mX5_holds, mX5_put, mX5_erase, mX5_moveTail, mX6_init, mX6_copyFrom, mX6_add, mX6_shadeOf, mX7_init, mX7_begin, mX7_copyFrom, mX7_isLike, mX7_opener, mX7_mode, mX7_quote, mX7_liesInString, mX7_open, mX7_close, mX7_closeLineStrings, mX8_init, mX8_copyFrom, mX8_has, mX8_add, mX8_removeWith, mX9_init, mX9_type, mX9_clear, mX9_inserts, mX9_sets, mX9_drops, mX9_puts, mX9_erases, mX9_splits, mX9_word, mX9_unword, mX9_rule, mX9_at, mX9_of, mX9_span, mX9_anew, mX9_painted, mX9_back, mX9_told, mX9_digest, mX9_digestLine, mX9_refuse, mX9_isByte, mX9_isLetter, mX9_isFigure, mX9_isCapital, mX9_isQuote, mX9_isWordLike, mX10_init, mX10_in, mX10_refuses, mX10_remembers, mX10_top, mX10_comesOn, mX10_goesOff, mX10_standing, mX10_manyOf, mX10_topOf, mX10_modeOf, mX10_byteAt, mX10_isLetter, mX10_isFigure, mX10_colour, mX10_pushes, mX10_isWord, mX10_letters, mX10_figures, mX10_paintsCode, mX10_paintsString, mX10_paintsRemark, mX10_paintsMarked, mX10_paintsLine, mX10_paints, mX10_changes, mX10_type, mX10_clear, mX10_isLine, mX10_takesText, mX10_moves, mX10_opens, mX10_inserts, mX10_sets, mX10_drops, mX10_puts, mX10_erases, mX10_splits, mX10_isTextWord, mX10_isTold, mX10_word, mX10_unword, mX10_rule, mX10_shadeOf, mX10_byteTold, mX10_at, mX10_begins, mX10_spansOf, mX10_lineTold, mX10_of, mX10_span, mX10_anew, mX10_painted, mX10_back, mX10_toldOf, mX10_told, mX10_mix, mX10_digest]
def Rn (k : Nat) : String := ([RX0, RX1, RX2, RX3, RX4, RX5, RX6, RX7, RX8, RX9, RX10, RL] : List String).getD k ""
def lk {α : Type} : List (Nat × α) → Nat → Option α
  | [], _ => none
  | (i, v) :: l, j => if i = j then some v else lk l j
def fT : List (List (Nat × Nat × Nat × Nat)) := [[(11, 0, 0, 258), (18, 0, 1, 259), (22, 0, 2, 261)],
  [(11, 1, 0, 245), (23, 1, 1, 246), (30, 1, 2, 247), (34, 1, 3, 248), (38, 3, 4, 213), (41, 3, 0, 203), (45, 2, 0, 126), (55, 3, 1, 206), (59, 3, 2, 209)],
  [(14, 2, 0, 124), (20, 2, 1, 129), (24, 2, 2, 131), (30, 2, 3, 133), (34, 2, 4, 136), (44, 5, 1, 76)],
  [(11, 3, 0, 202), (21, 3, 1, 205), (28, 3, 2, 208), (37, 3, 3, 211), (41, 3, 4, 212), (49, 2, 0, 127), (53, 5, 1, 78), (58, 2, 4, 137), (62, 4, 1, 193), (66, 2, 3, 134)],
  [(9, 4, 0, 191), (18, 4, 1, 192), (22, 4, 2, 194), (26, 7, 2, 114), (33, 2, 0, 125), (39, 5, 1, 77), (119, 7, 1, 112)],
  [(15, 5, 0, 73), (21, 5, 1, 74)],
  [(9, 6, 0, 172), (15, 6, 1, 173), (18, 6, 2, 174)],
  [(9, 7, 0, 110), (18, 7, 1, 111), (22, 7, 2, 115)],
  [(11, 8, 0, 158), (20, 8, 1, 159)],
  [(14, 9, 0, 269), (21, 9, 1, 270), (28, 9, 2, 271), (32, 9, 3, 272), (36, 9, 4, 273), (48, 5, 1, 75), (55, 3, 4, 214), (65, 3, 0, 204), (69, 2, 0, 128), (109, 3, 1, 207), (119, 8, 1, 160), (126, 3, 2, 210), (130, 6, 2, 175), (136, 2, 1, 130), (139, 2, 2, 132), (149, 2, 3, 135), (153, 7, 1, 113), (164, 7, 2, 116), (176, 0, 1, 260)],
  [(7, 10, 0, 609), (13, 10, 1, 610), (16, 10, 3, 612), (19, 10, 4, 613), (22, 10, 7, 616), (25, 10, 8, 617), (28, 10, 9, 618), (31, 10, 10, 619), (34, 10, 11, 620), (37, 10, 2, 611), (41, 10, 12, 621), (44, 10, 13, 622), (47, 10, 14, 623), (54, 10, 15, 624), (61, 10, 16, 625), (125, 10, 6, 615), (131, 10, 5, 614), (185, 10, 17, 626)],
  []]
def cT : List (List (Nat × Nat × Nat × Nat × Nat × Nat × Nat)) := [[(3, 4, 0, 231, 0, 0, 0), (17, 3, 3, 235, 236, 0, 53), (25, 0, 4, 315, 316, 317, 53), (29, 6, 0, 336, 0, 0, 0), (35, 0, 5, 582, 583, 584, 53)],
  [(3, 4, 0, 238, 0, 0, 0), (17, 3, 29, 240, 67, 0, 44), (22, 3, 52, 242, 152, 0, 49), (29, 3, 37, 244, 169, 0, 50), (51, 0, 31, 319, 320, 321, 44), (56, 0, 53, 326, 327, 328, 49), (60, 0, 38, 331, 332, 333, 50)],
  [(3, 4, 0, 97, 0, 0, 0), (11, 3, 29, 99, 67, 0, 44), (29, 3, 41, 102, 103, 0, 48), (38, 5, 0, 373, 0, 0, 0), (48, 0, 9, 544, 545, 546, 47)],
  [(3, 4, 0, 90, 0, 0, 0), (17, 3, 6, 94, 95, 0, 47), (20, 3, 52, 151, 152, 0, 49), (27, 3, 37, 168, 169, 0, 50), (34, 3, 19, 185, 186, 0, 51), (45, 0, 14, 346, 347, 348, 46), (69, 0, 43, 350, 351, 352, 48), (75, 0, 42, 355, 107, 108, 48), (78, 5, 0, 356, 0, 0, 0), (84, 0, 20, 357, 358, 359, 51), (88, 0, 44, 451, 452, 453, 48)],
  [(3, 4, 0, 188, 0, 0, 0), (17, 3, 41, 190, 103, 0, 48), (29, 0, 21, 361, 363, 1, 51), (44, 0, 46, 374, 375, 376, 48), (48, 0, 22, 385, 387, 2, 51), (52, 5, 0, 446, 0, 0, 0), (58, 0, 51, 447, 448, 449, 48), (61, 0, 30, 365, 366, 367, 44), (65, 0, 7, 369, 370, 371, 47), (69, 0, 23, 389, 391, 3, 51), (72, 0, 24, 401, 403, 4, 51), (75, 2, 80, 409, 410, 0, 43), (79, 0, 26, 412, 414, 5, 51), (83, 2, 81, 424, 425, 0, 43), (86, 0, 27, 427, 429, 6, 51), (90, 0, 28, 431, 433, 7, 51), (94, 0, 25, 438, 440, 8, 51), (97, 0, 49, 393, 394, 395, 48), (100, 0, 50, 397, 398, 399, 48), (103, 0, 47, 405, 406, 407, 48), (106, 0, 48, 442, 443, 444, 48), (110, 0, 54, 416, 417, 418, 49), (116, 2, 82, 435, 436, 0, 43)],
  [(3, 4, 0, 69, 0, 0, 0), (9, 5, 0, 70, 0, 0, 0), (25, 6, 0, 323, 0, 0, 0), (28, 7, 0, 300, 0, 0, 0), (34, 0, 33, 464, 421, 422, 44)],
  [(3, 4, 0, 171, 0, 0, 0), (22, 7, 0, 335, 0, 0, 0)],
  [(3, 4, 0, 105, 0, 0, 0), (15, 0, 42, 106, 107, 108, 48), (25, 7, 0, 354, 0, 0, 0), (31, 0, 45, 378, 379, 380, 48), (35, 2, 83, 382, 383, 0, 43)],
  [(3, 4, 0, 154, 0, 0, 0), (17, 3, 29, 157, 67, 0, 44), (24, 0, 31, 330, 320, 321, 44), (28, 0, 33, 420, 421, 422, 44), (32, 0, 30, 519, 366, 367, 44)],
  [(1, 4, 0, 61, 0, 0, 0), (11, 3, 29, 66, 67, 0, 44), (20, 3, 13, 87, 88, 0, 46), (27, 3, 0, 228, 229, 0, 52), (40, 1, 79, 289, 290, 0, 43), (44, 0, 78, 292, 294, 0, 43), (51, 0, 34, 296, 297, 298, 44), (58, 0, 1, 311, 312, 313, 52), (62, 0, 16, 337, 338, 339, 46), (74, 0, 31, 341, 320, 321, 44), (78, 0, 18, 342, 343, 344, 46), (82, 0, 14, 459, 347, 348, 46), (85, 0, 32, 460, 461, 462, 44), (89, 0, 17, 469, 470, 471, 46), (92, 0, 15, 481, 482, 483, 46), (96, 0, 30, 485, 366, 367, 44), (99, 0, 35, 486, 487, 488, 44), (102, 0, 36, 494, 495, 496, 44), (106, 1, 84, 502, 503, 0, 43), (113, 0, 54, 506, 417, 418, 49), (120, 0, 55, 507, 508, 509, 49), (123, 0, 56, 515, 516, 517, 49), (133, 0, 39, 524, 525, 526, 50), (142, 0, 40, 532, 533, 534, 50), (145, 0, 10, 540, 541, 542, 47), (158, 0, 46, 548, 375, 376, 48), (161, 0, 47, 549, 406, 407, 48), (167, 0, 11, 554, 555, 556, 47), (170, 0, 12, 558, 559, 560, 47), (173, 0, 8, 570, 571, 572, 47), (177, 0, 2, 578, 579, 580, 52), (184, 0, 75, 596, 587, 588, 43), (187, 0, 77, 597, 599, 9, 43), (191, 0, 70, 601, 537, 538, 43), (194, 0, 69, 602, 529, 530, 43), (198, 1, 80, 505, 410, 0, 43)],
  [(1, 4, 0, 608, 0, 0, 0), (50, 1, 93, 843, 844, 0, 54), (57, 1, 86, 668, 669, 0, 54), (64, 0, 89, 719, 721, 20, 54), (68, 1, 95, 742, 743, 0, 54), (71, 0, 99, 738, 740, 24, 54), (75, 0, 90, 756, 758, 27, 54), (79, 0, 96, 715, 717, 19, 54), (82, 1, 97, 727, 728, 0, 54), (85, 1, 98, 745, 746, 0, 54), (88, 0, 102, 730, 732, 22, 54), (91, 0, 101, 734, 736, 23, 54), (95, 0, 103, 748, 750, 25, 54), (98, 0, 100, 752, 754, 26, 54), (101, 0, 91, 760, 762, 28, 54), (104, 0, 107, 711, 713, 18, 54), (107, 0, 104, 723, 725, 21, 54), (110, 0, 106, 764, 766, 29, 54), (113, 0, 105, 768, 770, 30, 54), (116, 0, 108, 707, 709, 17, 54), (119, 0, 92, 772, 774, 31, 54), (122, 0, 109, 703, 705, 16, 54), (128, 0, 87, 671, 673, 10, 54), (134, 0, 115, 691, 693, 13, 54), (137, 0, 88, 683, 685, 11, 54), (140, 0, 116, 687, 689, 12, 54), (144, 0, 114, 695, 697, 14, 54), (147, 0, 110, 699, 701, 15, 54), (150, 0, 113, 780, 782, 32, 54), (153, 0, 123, 804, 806, 33, 54), (157, 0, 124, 808, 810, 34, 54), (160, 0, 128, 828, 830, 36, 54), (164, 0, 129, 824, 826, 35, 54), (168, 0, 131, 850, 852, 39, 54), (171, 1, 94, 840, 841, 0, 54), (174, 0, 132, 846, 848, 38, 54), (177, 0, 133, 836, 838, 37, 54), (180, 0, 139, 874, 876, 40, 54), (191, 0, 141, 883, 885, 41, 54)],
  [(9, 3, 57, 58, 59, 0, 43), (12, 3, 85, 605, 606, 0, 54), (13, 0, 58, 285, 286, 287, 43), (17, 0, 111, 664, 665, 666, 54), (18, 0, 59, 303, 304, 305, 43), (22, 0, 112, 675, 676, 677, 54), (23, 0, 60, 307, 308, 309, 43), (26, 0, 117, 679, 680, 681, 54), (27, 0, 61, 455, 456, 457, 43), (30, 0, 118, 776, 777, 778, 54), (31, 0, 62, 465, 466, 467, 43), (34, 0, 119, 784, 785, 786, 54), (35, 0, 63, 473, 474, 475, 43), (39, 0, 120, 788, 789, 790, 54), (40, 0, 64, 477, 478, 479, 43), (44, 0, 121, 792, 793, 794, 54), (45, 0, 65, 490, 491, 492, 43), (48, 0, 122, 796, 797, 798, 54), (49, 0, 66, 498, 499, 500, 43), (52, 0, 125, 800, 801, 802, 54), (53, 0, 67, 511, 512, 513, 43), (56, 0, 126, 812, 813, 814, 54), (57, 0, 68, 520, 521, 522, 43), (60, 0, 127, 816, 817, 818, 54), (61, 0, 69, 528, 529, 530, 43), (64, 0, 130, 820, 821, 822, 54), (65, 0, 70, 536, 537, 538, 43), (68, 0, 134, 832, 833, 834, 54), (69, 0, 71, 550, 551, 552, 43), (72, 0, 135, 854, 855, 856, 54), (73, 0, 72, 562, 563, 564, 43), (76, 0, 136, 858, 859, 860, 54), (77, 0, 73, 566, 567, 568, 43), (80, 0, 137, 862, 863, 864, 54), (81, 0, 74, 574, 575, 576, 43), (84, 0, 138, 866, 867, 868, 54), (85, 0, 75, 586, 587, 588, 43), (88, 0, 140, 870, 871, 872, 54), (89, 0, 76, 590, 591, 592, 43), (93, 0, 142, 878, 879, 880, 54)]]
def nT : List (List (Nat × Nat × Nat × Nat × Nat)) := [[(9, 1, 232, 234, 53)],
  [(9, 5, 239, 65, 44), (20, 8, 241, 150, 49), (27, 6, 243, 167, 50)],
  [(9, 5, 98, 65, 44), (27, 7, 100, 101, 48)],
  [(9, 2, 91, 93, 47), (18, 8, 149, 150, 49), (25, 6, 166, 167, 50), (32, 4, 183, 184, 51)],
  [(15, 7, 189, 101, 48)],
  [],
  [],
  [],
  [(9, 5, 155, 65, 44)],
  [(7, 5, 64, 65, 44), (18, 3, 85, 86, 46), (25, 0, 226, 227, 52)],
  [],
  [(7, 9, 56, 57, 43), (10, 10, 603, 604, 54)]]
def kT : List (List (Nat × Int64 × Nat)) := [[],
  [],
  [],
  [],
  [],
  [],
  [],
  [],
  [],
  [(180, 2543, 594), (182, 31, 595)],
  [(183, 31, 887), (189, 2543, 882)],
  []]
/-- kinds of fields: 0 int, 1 boolean, 2 long, 3 a reference; 10 more where it is final -/
def gT : List (List Nat) := [[13, 0, 0], [13, 13, 13, 0], [13, 13, 13, 13, 1], [13, 13, 13, 13, 0], [13, 13, 0], [13, 0], [13, 13, 0], [13, 0, 0], [13, 0], [13, 13, 13, 13, 0], [13, 13, 0, 13, 13, 0, 0, 13, 13, 13, 13, 13, 0, 0, 0, 0, 0, 2]]
end
section
/-! ===== a small machine over the same bytes: cells by number (0 the script, then as they are made), their shapes, and what they hold ===== -/
abbrev m_nm (y : ME) : MethodName := y.1
abbrev m_bc (y : ME) : ByteArray := y.2.1
abbrev m_ml (y : ME) : Nat := y.2.2.1
abbrev m_rt (y : ME) : Option FieldType := y.2.2.2.1
abbrev m_oc (y : ME) : Nat := y.2.2.2.2.1
abbrev m_dp (y : ME) : Nat := y.2.2.2.2.2.1
abbrev m_na (y : ME) : Nat := y.2.2.2.2.2.2.1
abbrev m_in (y : ME) : Nat := y.2.2.2.2.2.2.2.1
abbrev m_pl (y : ME) : Nat := y.2.2.2.2.2.2.2.2
/-- shapes (an object: its class and 0; ints: 20 and how many; references: 20 + kind and how many; nothing: 99), how many cells, how many slots -/
abbrev WS : Type := (Nat → Nat × Nat) × Nat × Nat
/-- what cells hold: ints, references, longs -/
abbrev HS : Type := (Nat → Nat → Int32) × (Nat → Nat → Option Nat) × (Nat → Nat → Int64)
def u2 {α : Type} (f : Nat → Nat → α) (a k : Nat) (v : α) : Nat → Nat → α := fun b j => if b = a ∧ j = k then v else f b j
def uA {α : Type} (f : Nat → Nat → α) (a : Nat) (g : Nat → α) : Nat → Nat → α := fun b j => if b = a then g j else f b j
def u1 {α : Type} (f : Nat → α) (a : Nat) (v : α) : Nat → α := fun b => if b = a then v else f b
def gtg (ci k : Nat) : Nat := (gT.getD ci []).getD k 99
def fRes (oc i : Nat) : Option (Nat × Nat × Nat) := lk (fT.getD oc []) i
def cRes (oc i : Nat) : Option (Nat × Nat × Nat × Nat × Nat × Nat) := lk (cT.getD oc []) i
def nRes (oc i : Nat) : Option (Nat × Nat × Nat × Nat) := lk (nT.getD oc []) i
def kRes (oc i : Nat) : Option (Int64 × Nat) := lk (kT.getD oc []) i
/-- a class's array kind: 1 Line, 2 Row, 3 Kept -/
def kdOf (ci : Nat) : Nat := if ci = 2 then 1 else if ci = 5 then 2 else if ci = 1 then 3 else 0
def clOf (kd : Nat) : Nat := if kd = 1 then 2 else if kd = 2 then 5 else 1
def nfOf (ci : Nat) : Nat := (gT.getD ci []).length
def rdF (h : HS) (t a k : Nat) : Value := if t % 10 = 2 then .long (h.2.2 a k) else if t % 10 = 3 then va_rf (h.2.1 a k) else .int (h.1 a k)
abbrev RS : Type := Option (Option Value × WS × HS)
abbrev EX : Type := ME → Nat → List Value → List Value → WS → HS → RS
def gd (c : Prop) [Decidable c] (r : RS) : RS := if c then r else none
def jmp (pc : Nat) (off : Int) (k : Nat → RS) : RS := gd (0 ≤ (pc : Int) + off) (k ((pc : Int) + off).toNat)
def asI (v : Value) (k : Int32 → RS) : RS := match v with | .int x => k x | _ => none
def asL (v : Value) (k : Int64 → RS) : RS := match v with | .long x => k x | _ => none
def asR (v : Value) (k : Nat → RS) : RS := match v with | .ref x => k x | _ => none
def pop1 (st : List Value) (k : Value → List Value → RS) : RS := match st with | v :: t => k v t | [] => none
def popI (st : List Value) (k : Int32 → List Value → RS) : RS := pop1 st fun v t => asI v fun x => k x t
def popL (st : List Value) (k : Int64 → List Value → RS) : RS := pop1 st fun v t => asL v fun x => k x t
def popR (st : List Value) (k : Nat → List Value → RS) : RS := pop1 st fun v t => asR v fun x => k x t
def stI (ls : List Value) (i : Nat) (v : Value) (k : List Value → RS) : RS := gd (i < ls.length ∧ (i = 0 ∨ (ls.getD (i - 1) .null).category = 1)) (k (ls.set i v))
def stL (ls : List Value) (i : Nat) (v : Value) (k : List Value → RS) : RS := gd (i + 1 < ls.length ∧ (i = 0 ∨ (ls.getD (i - 1) .null).category = 1)) (k ((ls.set i v).set (i + 1) .null))
def cnd (c : Jvm.ClassFile.Cond) (x y : Int32) : Prop := match c with
  | .eq => x = y | .ne => ¬ x = y | .lt => x < y | .ge => y ≤ x | .gt => y < x | .le => x ≤ y
def cndD (c : Jvm.ClassFile.Cond) (x y : Int32) : Decidable (cnd c x y) := match c with
  | .eq => inferInstanceAs (Decidable (x = y)) | .ne => inferInstanceAs (Decidable (¬ x = y)) | .lt => inferInstanceAs (Decidable (x < y)) | .ge => inferInstanceAs (Decidable (y ≤ x)) | .gt => inferInstanceAs (Decidable (y < x)) | .le => inferInstanceAs (Decidable (x ≤ y))
def brc (c : Prop) (d : Decidable c) (a b : RS) : RS := @ite _ c d a b
def alc (w : WS) (s : Nat × Nat) (k : Nat) : WS := (u1 w.1 (w.2.1 + 1) s, w.2.1 + 1, w.2.2 + k)
def expL : List Value → List Value
  | [] => []
  | v :: vs => if v.category = 2 then v :: .null :: expL vs else v :: expL vs
def entL (n : Nat) (as : List Value) : List Value := expL as ++ List.replicate (n - (expL as).length) .null
def vin (i : Int32) (n : Nat) : Prop := ¬ i < 0 ∧ i.toNatClampNeg < n
def vinD (i : Int32) (n : Nat) : Decidable (vin i n) := inferInstanceAs (Decidable (¬ i < 0 ∧ i.toNatClampNeg < n))
def gdv (i : Int32) (n : Nat) (r : RS) : RS := @ite _ (vin i n) (vinD i n) r none
/-- a call: the callee with its arguments, then the rest -/
def cal (E : EX) (y z : ME) (pc : Nat) (ls : List Value) (as rest : List Value) (w : WS) (h : HS) : RS :=
  gd (rest.length ≤ 4 ∧ (expL as).length ≤ m_ml z ∧ m_dp z + 1 ≤ m_dp y) (match E z 0 (entL (m_ml z) as) [] w h with
    | some (r, w', h') => E y (pc + 3) ls (r.toList ++ rest) w' h'
    | none => none)
def calV (E : EX) (y z : ME) (pc : Nat) (ls st : List Value) (w : WS) (h : HS) : RS :=
  gd (m_na z ≤ st.length) (popR (st.drop (m_na z)) fun b rest => gd (w.1 b = (m_oc z, 0)) (cal E y z pc ls (.ref b :: (st.take (m_na z)).reverse) rest w h))
def calS (E : EX) (y z : ME) (pc : Nat) (ls st : List Value) (w : WS) (h : HS) : RS :=
  gd (m_na z ≤ st.length) (cal E y z pc ls (st.take (m_na z)).reverse (st.drop (m_na z)) w h)
def rOK (t : Option FieldType) (x : Int32) : Prop := t = some .int ∨ (t = some .boolean ∧ (x = 0 ∨ x = 1))
def rOKD (t : Option FieldType) (x : Int32) : Decidable (rOK t x) := inferInstanceAs (Decidable (t = some .int ∨ (t = some .boolean ∧ (x = 0 ∨ x = 1))))
def putI (y : ME) (w : WS) (h : HS) (ci k a : Nat) (v : Value) (kk : HS → RS) : RS :=
  gd (gtg ci k < 10 ∨ (m_in y = 1 ∧ m_oc y = ci)) (gd (w.1 a = (ci, 0) ∧ k < nfOf ci) (
    if gtg ci k % 10 = 0 then asI v fun x => kk (u2 h.1 a k x, h.2.1, h.2.2)
    else if gtg ci k % 10 = 1 then asI v fun x => gd (x = 0 ∨ x = 1) (kk (u2 h.1 a k x, h.2.1, h.2.2))
    else if gtg ci k % 10 = 2 then asL v fun x => kk (h.1, h.2.1, u2 h.2.2 a k x)
    else if gtg ci k % 10 = 3 then asR v fun x => kk (h.1, u2 h.2.1 a k (some x), h.2.2)
    else none))
def inv (E : EX) (y : ME) (pc : Nat) (ls st : List Value) (w : WS) (h : HS) (op : Nat) (i : Nat) : RS :=
  match cRes (m_oc y) i with
  | some (kd, id, _) =>
    if kd = 0 then gd (op = 0) (match mtL[id]? with | some z => calV E y z pc ls st w h | none => none)
    else if kd = 1 then gd (op = 2) (match mtL[id]? with | some z => calS E y z pc ls st w h | none => none)
    else if kd = 2 then gd (op = 2) (match mtL[id]? with | some z => calS E y z pc ls st w h | none => none)
    else if kd = 3 then gd (op = 1) (match mtL[id]? with | some z => calV E y z pc ls st w h | none => none)
    else if kd = 4 then gd (op = 1 ∧ 1 ≤ m_dp y) (popR st fun _ t => gd (t.length ≤ 4) (E y (pc + 3) ls t w h))
    else if kd = 5 then gd (op = 2 ∧ 1 ≤ m_dp y) (popI st fun b t => popI t fun a t => gd (t.length ≤ 4) (E y (pc + 3) ls (.int (if a < b then b else a) :: t) w h))
    else if kd = 6 then gd (op = 2 ∧ 1 ≤ m_dp y) (popI st fun b t => popI t fun a t => gd (t.length ≤ 4) (E y (pc + 3) ls (.int (if b < a then b else a) :: t) w h))
    else if kd = 7 then gd (op = 2 ∧ 1 ≤ m_dp y) (popI st fun n t => popI t fun dp t => popR t fun a1 t => popI t fun sp t => popR t fun a0 t =>
      gd (t.length ≤ 4 ∧ a0 ≠ 0 ∧ a1 ≠ 0 ∧ (w.1 a0).1 = 20 ∧ (w.1 a1).1 = 20 ∧ ¬ sp < 0 ∧ ¬ dp < 0 ∧ ¬ n < 0 ∧ sp.toNatClampNeg + n.toNatClampNeg ≤ (w.1 a0).2 ∧ dp.toNatClampNeg + n.toNatClampNeg ≤ (w.1 a1).2)
        (E y (pc + 3) ls t w (uA h.1 a1 (va_cpy (h.1 a0) (h.1 a1) sp.toNatClampNeg dp.toNatClampNeg n.toNatClampNeg), h.2.1, h.2.2)))
    else none
  | none => none
/-- one instruction -/
def stq (E : EX) (y : ME) (pc : Nat) (ls st : List Value) (w : WS) (h : HS) (i : Instr) : RS :=
  match i with
  | .iconst n => E y (pc + 1) ls (.int (Int32.ofInt n) :: st) w h
  | .bipush n => E y (pc + 2) ls (.int (Int8.ofInt n).toInt32 :: st) w h
  | .sipush n => E y (pc + 3) ls (.int (Int16.ofInt n).toInt32 :: st) w h
  | .ldc2_w i => match kRes (m_oc y) i with | some (v, _) => E y (pc + 3) ls (.long v :: st) w h | none => none
  | .iload_n k => asI (ls.getD k.val .null) fun x => E y (pc + 1) ls (.int x :: st) w h
  | .iload k => asI (ls.getD k .null) fun x => E y (pc + 2) ls (.int x :: st) w h
  | .lload_n k => asL (ls.getD k.val .null) fun x => E y (pc + 1) ls (.long x :: st) w h
  | .lload k => asL (ls.getD k .null) fun x => E y (pc + 2) ls (.long x :: st) w h
  | .aload_n k => asR (ls.getD k.val .null) fun x => E y (pc + 1) ls (.ref x :: st) w h
  | .aload k => asR (ls.getD k .null) fun x => E y (pc + 2) ls (.ref x :: st) w h
  | .istore_n k => popI st fun x t => stI ls k.val (.int x) fun ls => E y (pc + 1) ls t w h
  | .istore k => popI st fun x t => stI ls k (.int x) fun ls => E y (pc + 2) ls t w h
  | .lstore_n k => popL st fun x t => stL ls k.val (.long x) fun ls => E y (pc + 1) ls t w h
  | .lstore k => popL st fun x t => stL ls k (.long x) fun ls => E y (pc + 2) ls t w h
  | .astore_n k => popR st fun x t => stI ls k.val (.ref x) fun ls => E y (pc + 1) ls t w h
  | .astore k => popR st fun x t => stI ls k (.ref x) fun ls => E y (pc + 2) ls t w h
  | .iinc k n => asI (ls.getD k .null) fun x => stI ls k (.int (x + Int32.ofInt n)) fun ls => E y (pc + 3) ls st w h
  | .iadd => popI st fun b t => popI t fun a t => E y (pc + 1) ls (.int (a + b) :: t) w h
  | .isub => popI st fun b t => popI t fun a t => E y (pc + 1) ls (.int (a - b) :: t) w h
  | .imul => popI st fun b t => popI t fun a t => E y (pc + 1) ls (.int (a * b) :: t) w h
  | .iand => popI st fun b t => popI t fun a t => E y (pc + 1) ls (.int (a &&& b) :: t) w h
  | .ior => popI st fun b t => popI t fun a t => E y (pc + 1) ls (.int (a ||| b) :: t) w h
  | .ishl => popI st fun b t => popI t fun a t => E y (pc + 1) ls (.int (a <<< (b &&& 31)) :: t) w h
  | .ishr => popI st fun b t => popI t fun a t => E y (pc + 1) ls (.int (a >>> (b &&& 31)) :: t) w h
  | .ladd => popL st fun b t => popL t fun a t => E y (pc + 1) ls (.long (a + b) :: t) w h
  | .lmul => popL st fun b t => popL t fun a t => E y (pc + 1) ls (.long (a * b) :: t) w h
  | .lcmp => popL st fun b t => popL t fun a t => E y (pc + 1) ls (.int (lg_cmp a b) :: t) w h
  | .i2l => popI st fun x t => E y (pc + 1) ls (.long x.toInt64 :: t) w h
  | .dup => pop1 st fun v t => gd (v.category = 1) (E y (pc + 1) ls (v :: v :: t) w h)
  | .dup2 => pop1 st fun v t => pop1 t fun u t => gd (v.category = 1 ∧ u.category = 1) (E y (pc + 1) ls (v :: u :: v :: u :: t) w h)
  | .pop => pop1 st fun v t => gd (v.category = 1) (E y (pc + 1) ls t w h)
  | .goto off => jmp pc off fun q => E y q ls st w h
  | .ifCond c off => popI st fun x t => jmp pc off fun q => brc (cnd c x 0) (cndD c x 0) (E y q ls t w h) (E y (pc + 3) ls t w h)
  | .if_icmp c off => popI st fun b t => popI t fun a t => jmp pc off fun q => brc (cnd c a b) (cndD c a b) (E y q ls t w h) (E y (pc + 3) ls t w h)
  | .tableswitch d lo hi offs => popI st fun x t => brc (x.toInt < lo ∨ hi < x.toInt) inferInstance (jmp pc d fun q => E y q ls t w h) (match offs[(x.toInt - lo).toNat]? with | some off => jmp pc off fun q => E y q ls t w h | none => none)
  | .lookupswitch d ps => popI st fun x t => gd ((ps.toList.zip (ps.toList.drop 1)).all (fun (a, next) => a.1 < next.1) = true) (jmp pc (Op.lookupswitch.offset ps.toList d x.toInt) fun q => E y q ls t w h)
  | .getfield i => match fRes (m_oc y) i with | some (ci, k, _) => popR st fun a t => gd (w.1 a = (ci, 0) ∧ k < nfOf ci) (E y (pc + 3) ls (rdF h (gtg ci k) a k :: t) w h) | none => none
  | .putfield i => match fRes (m_oc y) i with | some (ci, k, _) => pop1 st fun v t => popR t fun a t => putI y w h ci k a v fun h => E y (pc + 3) ls t w h | none => none
  | .iaload => popI st fun i t => popR t fun a t => gd ((w.1 a).1 = 20) (gdv i (w.1 a).2 (E y (pc + 1) ls (.int (h.1 a i.toNatClampNeg) :: t) w h))
  | .iastore => popI st fun x t => popI t fun i t => popR t fun a t => gd ((w.1 a).1 = 20 ∧ a ≠ 0) (gdv i (w.1 a).2 (E y (pc + 1) ls t w (u2 h.1 a i.toNatClampNeg x, h.2.1, h.2.2)))
  | .aaload => popI st fun i t => popR t fun a t => gd ((w.1 a).1 = 21 ∨ (w.1 a).1 = 22 ∨ (w.1 a).1 = 23) (gdv i (w.1 a).2 (E y (pc + 1) ls (va_rf (h.2.1 a i.toNatClampNeg) :: t) w h))
  | .aastore => popR st fun x t => popI t fun i t => popR t fun a t => gd (((w.1 a).1 = 21 ∨ (w.1 a).1 = 22 ∨ (w.1 a).1 = 23) ∧ w.1 x = (clOf ((w.1 a).1 - 20), 0)) (gdv i (w.1 a).2 (E y (pc + 1) ls t w (h.1, u2 h.2.1 a i.toNatClampNeg (some x), h.2.2)))
  | .arraylength => popR st fun a t => gd ((w.1 a).1 = 20 ∨ (w.1 a).1 = 21 ∨ (w.1 a).1 = 22 ∨ (w.1 a).1 = 23) (E y (pc + 1) ls (.int (nI (w.1 a).2) :: t) w h)
  | .new i => match nRes (m_oc y) i with | some (ci, _) => E y (pc + 3) ls (.ref (w.2.1 + 1) :: st) (alc w (ci, 0) (nfOf ci)) h | none => none
  | .newarray .int => popI st fun n t => gd (¬ n < 0 ∧ n.toNatClampNeg ≤ 5000) (E y (pc + 2) ls (.ref (w.2.1 + 1) :: t) (alc w (20, n.toNatClampNeg) n.toNatClampNeg) h)
  | .anewarray i => match nRes (m_oc y) i with | some (ci, _) => popI st fun n t => gd (¬ n < 0 ∧ n.toNatClampNeg ≤ 5000 ∧ kdOf ci ≠ 0) (E y (pc + 3) ls (.ref (w.2.1 + 1) :: t) (alc w (20 + kdOf ci, n.toNatClampNeg) n.toNatClampNeg) h) | none => none
  | .invokevirtual i => inv E y pc ls st w h 0 i
  | .invokespecial i => inv E y pc ls st w h 1 i
  | .invokestatic i => inv E y pc ls st w h 2 i
  | .ireturn => match st with | [.int x] => @ite _ (rOK (m_rt y) x) (rOKD (m_rt y) x) (some (some (.int x), w, h)) none | _ => none
  | .lreturn => match st with | [.long x] => gd (m_rt y = some .long) (some (some (.long x), w, h)) | _ => none
  | .return_ => match st with | [] => gd (m_rt y = none) (some (none, w, h)) | _ => none
  | _ => none
/-- how long an instruction is; 0: a switch, any -/
def iln (i : Instr) : Nat := match i with
  | .iconst _ => 1 | .bipush _ => 2 | .sipush _ => 3 | .ldc2_w _ => 3
  | .iload_n _ => 1 | .iload _ => 2 | .lload_n _ => 1 | .lload _ => 2 | .aload_n _ => 1 | .aload _ => 2
  | .istore_n _ => 1 | .istore _ => 2 | .lstore_n _ => 1 | .lstore _ => 2 | .astore_n _ => 1 | .astore _ => 2
  | .iinc _ _ => 3 | .goto _ => 3 | .ifCond _ _ => 3 | .if_icmp _ _ => 3
  | .tableswitch _ _ _ _ => 0 | .lookupswitch _ _ => 0
  | .getfield _ => 3 | .putfield _ => 3 | .new _ => 3 | .newarray _ => 2 | .anewarray _ => 3
  | .invokevirtual _ => 3 | .invokespecial _ => 3 | .invokestatic _ => 3
  | _ => 1
def stp (E : EX) (y : ME) (pc : Nat) (ls st : List Value) (w : WS) (h : HS) : RS :=
  match decode (m_bc y) pc with
  | .ok (i, len) => gd (iln i = 0 ∨ len = iln i) (stq E y pc ls st w h i)
  | _ => none
def xc : Nat → EX
  | 0 => fun _ _ _ _ _ _ => none
  | n + 1 => stp (xc n)
end
section
/-! ===== more fuel, the same answer; cells are only added ===== -/
theorem gd_some {c : Prop} [Decidable c] {r : RS} {o : Option Value × WS × HS} : gd c r = some o ↔ c ∧ r = some o := by
  unfold gd; split <;> simp_all
theorem gdv_some {i : Int32} {n : Nat} {r : RS} {o : Option Value × WS × HS} : gdv i n r = some o ↔ vin i n ∧ r = some o := by
  unfold gdv; split <;> simp_all
theorem jmp_some {pc : Nat} {off : Int} {k : Nat → RS} {o : Option Value × WS × HS} : jmp pc off k = some o ↔ ∃ q : Nat, (pc : Int) + off = (q : Int) ∧ k q = some o := by
  unfold jmp; rw [gd_some]
  constructor
  · rintro ⟨h1, h2⟩; exact ⟨_, by omega, h2⟩
  · rintro ⟨q, h1, h2⟩; exact ⟨by omega, by rw [h1]; simpa using h2⟩
theorem asI_some {v : Value} {k : Int32 → RS} {o : Option Value × WS × HS} : asI v k = some o ↔ ∃ x, v = .int x ∧ k x = some o := by
  unfold asI; split <;> simp_all
theorem asL_some {v : Value} {k : Int64 → RS} {o : Option Value × WS × HS} : asL v k = some o ↔ ∃ x, v = .long x ∧ k x = some o := by
  unfold asL; split <;> simp_all
theorem asR_some {v : Value} {k : Nat → RS} {o : Option Value × WS × HS} : asR v k = some o ↔ ∃ x, v = .ref x ∧ k x = some o := by
  unfold asR; split <;> simp_all
theorem pop1_some {st : List Value} {k : Value → List Value → RS} {o : Option Value × WS × HS} : pop1 st k = some o ↔ ∃ v t, st = v :: t ∧ k v t = some o := by
  unfold pop1; split <;> simp_all
theorem popI_some {st : List Value} {k : Int32 → List Value → RS} {o : Option Value × WS × HS} : popI st k = some o ↔ ∃ x t, st = .int x :: t ∧ k x t = some o := by
  simp only [popI, pop1_some, asI_some]
  constructor
  · rintro ⟨v, t, rfl, x, rfl, h⟩; exact ⟨x, t, rfl, h⟩
  · rintro ⟨x, t, rfl, h⟩; exact ⟨_, t, rfl, x, rfl, h⟩
theorem popL_some {st : List Value} {k : Int64 → List Value → RS} {o : Option Value × WS × HS} : popL st k = some o ↔ ∃ x t, st = .long x :: t ∧ k x t = some o := by
  simp only [popL, pop1_some, asL_some]
  constructor
  · rintro ⟨v, t, rfl, x, rfl, h⟩; exact ⟨x, t, rfl, h⟩
  · rintro ⟨x, t, rfl, h⟩; exact ⟨_, t, rfl, x, rfl, h⟩
theorem popR_some {st : List Value} {k : Nat → List Value → RS} {o : Option Value × WS × HS} : popR st k = some o ↔ ∃ x t, st = .ref x :: t ∧ k x t = some o := by
  simp only [popR, pop1_some, asR_some]
  constructor
  · rintro ⟨v, t, rfl, x, rfl, h⟩; exact ⟨x, t, rfl, h⟩
  · rintro ⟨x, t, rfl, h⟩; exact ⟨_, t, rfl, x, rfl, h⟩
theorem stI_some {ls : List Value} {i : Nat} {v : Value} {k : List Value → RS} {o : Option Value × WS × HS} : stI ls i v k = some o ↔ (i < ls.length ∧ (i = 0 ∨ (ls.getD (i - 1) .null).category = 1)) ∧ k (ls.set i v) = some o := by
  unfold stI; rw [gd_some]
theorem stL_some {ls : List Value} {i : Nat} {v : Value} {k : List Value → RS} {o : Option Value × WS × HS} : stL ls i v k = some o ↔ (i + 1 < ls.length ∧ (i = 0 ∨ (ls.getD (i - 1) .null).category = 1)) ∧ k ((ls.set i v).set (i + 1) .null) = some o := by
  unfold stL; rw [gd_some]
theorem brc_some {c : Prop} {d : Decidable c} {a b : RS} {o : Option Value × WS × HS} : brc c d a b = some o ↔ (c → a = some o) ∧ (¬ c → b = some o) := by
  unfold brc; split <;> simp_all
theorem rok_some {t : Option FieldType} {x : Int32} {a b : RS} {o : Option Value × WS × HS} : @ite RS (rOK t x) (rOKD t x) a b = some o ↔ (rOK t x → a = some o) ∧ (¬ rOK t x → b = some o) := by
  split <;> simp_all
def rle (r r' : RS) : Prop := ∀ o, r = some o → r' = some o
theorem rle_rf {r : RS} : rle r r := fun _ h => h
theorem rle_gd {c : Prop} [Decidable c] {r r' : RS} (h : rle r r') : rle (gd c r) (gd c r') := fun o hh => gd_some.mpr ⟨(gd_some.mp hh).1, h o (gd_some.mp hh).2⟩
theorem rle_gdv {i : Int32} {n : Nat} {r r' : RS} (h : rle r r') : rle (gdv i n r) (gdv i n r') := fun o hh => gdv_some.mpr ⟨(gdv_some.mp hh).1, h o (gdv_some.mp hh).2⟩
theorem rle_jmp {pc : Nat} {off : Int} {k k' : Nat → RS} (h : ∀ q, rle (k q) (k' q)) : rle (jmp pc off k) (jmp pc off k') := fun o hh => by
  obtain ⟨q, e, h2⟩ := jmp_some.mp hh
  exact jmp_some.mpr ⟨q, e, h q o h2⟩
theorem rle_asI {v : Value} {k k' : Int32 → RS} (h : ∀ q, rle (k q) (k' q)) : rle (asI v k) (asI v k') := fun o hh => by
  obtain ⟨q, e, h2⟩ := asI_some.mp hh
  exact asI_some.mpr ⟨q, e, h q o h2⟩
theorem rle_asL {v : Value} {k k' : Int64 → RS} (h : ∀ q, rle (k q) (k' q)) : rle (asL v k) (asL v k') := fun o hh => by
  obtain ⟨q, e, h2⟩ := asL_some.mp hh
  exact asL_some.mpr ⟨q, e, h q o h2⟩
theorem rle_asR {v : Value} {k k' : Nat → RS} (h : ∀ q, rle (k q) (k' q)) : rle (asR v k) (asR v k') := fun o hh => by
  obtain ⟨q, e, h2⟩ := asR_some.mp hh
  exact asR_some.mpr ⟨q, e, h q o h2⟩
theorem rle_pop1 {st : List Value} {k k' : Value → List Value → RS} (h : ∀ v t, rle (k v t) (k' v t)) : rle (pop1 st k) (pop1 st k') := fun o hh => by
  obtain ⟨v, t, e, h2⟩ := pop1_some.mp hh
  exact pop1_some.mpr ⟨v, t, e, h v t o h2⟩
theorem rle_popI {st : List Value} {k k' : Int32 → List Value → RS} (h : ∀ v t, rle (k v t) (k' v t)) : rle (popI st k) (popI st k') := rle_pop1 fun _ t => rle_asI fun x => h x t
theorem rle_popL {st : List Value} {k k' : Int64 → List Value → RS} (h : ∀ v t, rle (k v t) (k' v t)) : rle (popL st k) (popL st k') := rle_pop1 fun _ t => rle_asL fun x => h x t
theorem rle_popR {st : List Value} {k k' : Nat → List Value → RS} (h : ∀ v t, rle (k v t) (k' v t)) : rle (popR st k) (popR st k') := rle_pop1 fun _ t => rle_asR fun x => h x t
theorem rle_stI {ls : List Value} {i : Nat} {v : Value} {k k' : List Value → RS} (h : ∀ q, rle (k q) (k' q)) : rle (stI ls i v k) (stI ls i v k') := rle_gd (h _)
theorem rle_stL {ls : List Value} {i : Nat} {v : Value} {k k' : List Value → RS} (h : ∀ q, rle (k q) (k' q)) : rle (stL ls i v k) (stL ls i v k') := rle_gd (h _)
theorem rle_brc {c : Prop} {d : Decidable c} {a b a' b' : RS} (h1 : rle a a') (h2 : rle b b') : rle (brc c d a b) (brc c d a' b') := fun o hh => brc_some.mpr ⟨fun q => h1 o ((brc_some.mp hh).1 q), fun q => h2 o ((brc_some.mp hh).2 q)⟩
theorem rle_ite {c : Prop} [Decidable c] {a b a' b' : RS} (h1 : rle a a') (h2 : rle b b') : rle (if c then a else b) (if c then a' else b') := by
  split
  · exact h1
  · exact h2
/-- the answers of E are answers of F -/
def Le (E F : EX) : Prop := ∀ y pc ls st w h, rle (E y pc ls st w h) (F y pc ls st w h)
theorem cal_le {E F : EX} (hE : Le E F) {y z : ME} {pc : Nat} {ls as rest : List Value} {w : WS} {h : HS} : rle (cal E y z pc ls as rest w h) (cal F y z pc ls as rest w h) := by
  unfold cal
  refine rle_gd ?_
  intro o h2
  split at h2
  · next r w' h' he => rw [hE _ _ _ _ _ _ _ he]; exact hE _ _ _ _ _ _ _ h2
  · cases h2
theorem calV_le {E F : EX} (hE : Le E F) {y z : ME} {pc : Nat} {ls st : List Value} {w : WS} {h : HS} : rle (calV E y z pc ls st w h) (calV F y z pc ls st w h) :=
  rle_gd (rle_popR fun _ _ => rle_gd (cal_le hE))
theorem calS_le {E F : EX} (hE : Le E F) {y z : ME} {pc : Nat} {ls st : List Value} {w : WS} {h : HS} : rle (calS E y z pc ls st w h) (calS F y z pc ls st w h) :=
  rle_gd (cal_le hE)
theorem putI_le {y : ME} {w : WS} {h : HS} {ci k a : Nat} {v : Value} {kk kk' : HS → RS} (hk : ∀ h, rle (kk h) (kk' h)) : rle (putI y w h ci k a v kk) (putI y w h ci k a v kk') :=
  rle_gd (rle_gd (rle_ite (rle_asI fun _ => hk _) (rle_ite (rle_asI fun _ => rle_gd (hk _)) (rle_ite (rle_asL fun _ => hk _) (rle_ite (rle_asR fun _ => hk _) rle_rf)))))
theorem inv_le {E F : EX} (hE : Le E F) {y : ME} {pc : Nat} {ls st : List Value} {w : WS} {h : HS} {op i : Nat} : rle (inv E y pc ls st w h op i) (inv F y pc ls st w h op i) := by
  unfold inv
  split
  · refine rle_ite (rle_gd ?_) (rle_ite (rle_gd ?_) (rle_ite (rle_gd ?_) (rle_ite (rle_gd ?_) (rle_ite (rle_gd (rle_popR fun _ _ => rle_gd (hE _ _ _ _ _ _))) (rle_ite (rle_gd (rle_popI fun _ _ => rle_popI fun _ _ => rle_gd (hE _ _ _ _ _ _))) (rle_ite (rle_gd (rle_popI fun _ _ => rle_popI fun _ _ => rle_gd (hE _ _ _ _ _ _))) (rle_ite (rle_gd (rle_popI fun _ _ => rle_popI fun _ _ => rle_popR fun _ _ => rle_popI fun _ _ => rle_popR fun _ _ => rle_gd (hE _ _ _ _ _ _))) rle_rf)))))))
    · split
      · exact calV_le hE
      · exact rle_rf
    · split
      · exact calS_le hE
      · exact rle_rf
    · split
      · exact calS_le hE
      · exact rle_rf
    · split
      · exact calV_le hE
      · exact rle_rf
  · exact rle_rf
theorem stq_le {E F : EX} (hE : Le E F) {y : ME} {pc : Nat} {ls st : List Value} {w : WS} {h : HS} {i : Instr} : rle (stq E y pc ls st w h i) (stq F y pc ls st w h i) := by
  unfold stq
  split
  all_goals first
    | with_reducible exact rle_rf
    | exact hE _ _ _ _ _ _
    | exact inv_le hE
    | (split <;> first | exact hE _ _ _ _ _ _ | with_reducible exact rle_rf | exact rle_popR fun _ _ => rle_gd (hE _ _ _ _ _ _) | exact rle_popI fun _ _ => rle_gd (hE _ _ _ _ _ _) | exact rle_pop1 fun _ _ => rle_popR fun _ _ => putI_le fun _ => hE _ _ _ _ _ _)
    | exact rle_asI fun _ => hE _ _ _ _ _ _
    | exact rle_asL fun _ => hE _ _ _ _ _ _
    | exact rle_asR fun _ => hE _ _ _ _ _ _
    | exact rle_popI fun _ _ => rle_stI fun _ => hE _ _ _ _ _ _
    | exact rle_popL fun _ _ => rle_stL fun _ => hE _ _ _ _ _ _
    | exact rle_popR fun _ _ => rle_stI fun _ => hE _ _ _ _ _ _
    | exact rle_asI fun _ => rle_stI fun _ => hE _ _ _ _ _ _
    | exact rle_popI fun _ _ => rle_popI fun _ _ => hE _ _ _ _ _ _
    | exact rle_popL fun _ _ => rle_popL fun _ _ => hE _ _ _ _ _ _
    | exact rle_popI fun _ _ => hE _ _ _ _ _ _
    | exact rle_pop1 fun _ _ => rle_gd (hE _ _ _ _ _ _)
    | exact rle_pop1 fun _ _ => rle_pop1 fun _ _ => rle_gd (hE _ _ _ _ _ _)
    | exact rle_jmp fun _ => hE _ _ _ _ _ _
    | exact rle_popI fun _ _ => rle_jmp fun _ => rle_brc (hE _ _ _ _ _ _) (hE _ _ _ _ _ _)
    | exact rle_popI fun _ _ => rle_popI fun _ _ => rle_jmp fun _ => rle_brc (hE _ _ _ _ _ _) (hE _ _ _ _ _ _)
    | (refine rle_popI fun _ _ => rle_brc (rle_jmp fun _ => hE _ _ _ _ _ _) ?_; split <;> first | exact rle_jmp fun _ => hE _ _ _ _ _ _ | with_reducible exact rle_rf)
    | exact rle_popI fun _ _ => rle_gd (rle_jmp fun _ => hE _ _ _ _ _ _)
    | exact rle_popI fun _ _ => rle_popR fun _ _ => rle_gd (rle_gdv (hE _ _ _ _ _ _))
    | exact rle_popI fun _ _ => rle_popI fun _ _ => rle_popR fun _ _ => rle_gd (rle_gdv (hE _ _ _ _ _ _))
    | exact rle_popR fun _ _ => rle_popI fun _ _ => rle_popR fun _ _ => rle_gd (rle_gdv (hE _ _ _ _ _ _))
    | exact rle_popR fun _ _ => rle_gd (hE _ _ _ _ _ _)
    | exact rle_popI fun _ _ => rle_gd (hE _ _ _ _ _ _)
theorem stp_le {E F : EX} (hE : Le E F) : Le (stp E) (stp F) := by
  intro y pc ls st w h
  unfold stp
  split
  · exact rle_gd (stq_le hE)
  · exact rle_rf
theorem xc_s : ∀ n, Le (xc n) (xc (n + 1))
  | 0 => fun _ _ _ _ _ _ _ h => by cases h
  | n + 1 => stp_le (xc_s n)
theorem xc_le {a b : Nat} (hab : a ≤ b) : Le (xc a) (xc b) := by
  induction hab with
  | refl => exact fun _ _ _ _ _ _ => rle_rf
  | step _ ih => exact fun y pc ls st w h o ho => xc_s _ y pc ls st w h o (ih y pc ls st w h o ho)
/-- cells are only added -/
def wge (w : WS) (r : RS) : Prop := ∀ v w' h', r = some (v, w', h') → w.2.1 ≤ w'.2.1 ∧ w.2.2 ≤ w'.2.2
def Ge (E : EX) : Prop := ∀ y pc ls st w h, wge w (E y pc ls st w h)
theorem wge_0 {w : WS} : wge w none := fun _ _ _ h => by cases h
theorem wge_gd {w : WS} {c : Prop} [Decidable c] {r : RS} (h : wge w r) : wge w (gd c r) := fun v w' h' hh => h v w' h' (gd_some.mp hh).2
theorem wge_gdv {w : WS} {i : Int32} {n : Nat} {r : RS} (h : wge w r) : wge w (gdv i n r) := fun v w' h' hh => h v w' h' (gdv_some.mp hh).2
theorem wge_jmp {w : WS} {pc : Nat} {off : Int} {k : Nat → RS} (h : ∀ q, wge w (k q)) : wge w (jmp pc off k) := fun v w' h' hh => by
  obtain ⟨q, e, h2⟩ := jmp_some.mp hh
  exact h q v w' h' h2
theorem wge_asI {w : WS} {v : Value} {k : Int32 → RS} (h : ∀ q, wge w (k q)) : wge w (asI v k) := fun v w' h' hh => by
  obtain ⟨q, e, h2⟩ := asI_some.mp hh
  exact h q v w' h' h2
theorem wge_asL {w : WS} {v : Value} {k : Int64 → RS} (h : ∀ q, wge w (k q)) : wge w (asL v k) := fun v w' h' hh => by
  obtain ⟨q, e, h2⟩ := asL_some.mp hh
  exact h q v w' h' h2
theorem wge_asR {w : WS} {v : Value} {k : Nat → RS} (h : ∀ q, wge w (k q)) : wge w (asR v k) := fun v w' h' hh => by
  obtain ⟨q, e, h2⟩ := asR_some.mp hh
  exact h q v w' h' h2
theorem wge_pop1 {w : WS} {st : List Value} {k : Value → List Value → RS} (h : ∀ v t, wge w (k v t)) : wge w (pop1 st k) := fun v w' h' hh => by
  obtain ⟨q, t, e, h2⟩ := pop1_some.mp hh
  exact h q t v w' h' h2
theorem wge_popI {w : WS} {st : List Value} {k : Int32 → List Value → RS} (h : ∀ v t, wge w (k v t)) : wge w (popI st k) := wge_pop1 fun _ t => wge_asI fun x => h x t
theorem wge_popL {w : WS} {st : List Value} {k : Int64 → List Value → RS} (h : ∀ v t, wge w (k v t)) : wge w (popL st k) := wge_pop1 fun _ t => wge_asL fun x => h x t
theorem wge_popR {w : WS} {st : List Value} {k : Nat → List Value → RS} (h : ∀ v t, wge w (k v t)) : wge w (popR st k) := wge_pop1 fun _ t => wge_asR fun x => h x t
theorem wge_brc {w : WS} {c : Prop} {d : Decidable c} {a b : RS} (h1 : wge w a) (h2 : wge w b) : wge w (brc c d a b) := fun v w' h' hh => by
  unfold brc at hh
  split at hh
  · exact h1 v w' h' hh
  · exact h2 v w' h' hh
theorem wge_ite {w : WS} {c : Prop} {d : Decidable c} {a b : RS} (h1 : wge w a) (h2 : wge w b) : wge w (@ite _ c d a b) := by
  split
  · exact h1
  · exact h2
theorem wge_alc {w : WS} {s : Nat × Nat} {k : Nat} {r : RS} (h : wge (alc w s k) r) : wge w r := fun v w' h' hh => by
  have := h v w' h' hh
  simp only [alc] at this
  omega
theorem wge_end {w : WS} {h : HS} {v : Option Value} : wge w (some (v, w, h)) := fun _ _ _ hh => by cases hh; exact ⟨Nat.le_refl _, Nat.le_refl _⟩
theorem wge_cal {E : EX} (hE : Ge E) {y z : ME} {pc : Nat} {ls as rest : List Value} {w : WS} {h : HS} : wge w (cal E y z pc ls as rest w h) := by
  unfold cal
  refine wge_gd ?_
  intro v w2 h2 hh
  split at hh
  · next r w' h' he =>
    have h1 := hE _ _ _ _ _ _ _ _ _ he
    have h3 := hE _ _ _ _ _ _ _ _ _ hh
    omega
  · cases hh
theorem wge_calV {E : EX} (hE : Ge E) {y z : ME} {pc : Nat} {ls st : List Value} {w : WS} {h : HS} : wge w (calV E y z pc ls st w h) :=
  wge_gd (wge_popR fun _ _ => wge_gd (wge_cal hE))
theorem wge_calS {E : EX} (hE : Ge E) {y z : ME} {pc : Nat} {ls st : List Value} {w : WS} {h : HS} : wge w (calS E y z pc ls st w h) :=
  wge_gd (wge_cal hE)
theorem wge_putI {y : ME} {w : WS} {h : HS} {ci k a : Nat} {v : Value} {kk : HS → RS} (hk : ∀ h, wge w (kk h)) : wge w (putI y w h ci k a v kk) :=
  wge_gd (wge_gd (wge_ite (wge_asI fun _ => hk _) (wge_ite (wge_asI fun _ => wge_gd (hk _)) (wge_ite (wge_asL fun _ => hk _) (wge_ite (wge_asR fun _ => hk _) wge_0)))))
theorem wge_inv {E : EX} (hE : Ge E) {y : ME} {pc : Nat} {ls st : List Value} {w : WS} {h : HS} {op i : Nat} : wge w (inv E y pc ls st w h op i) := by
  unfold inv
  split
  · refine wge_ite (wge_gd ?_) (wge_ite (wge_gd ?_) (wge_ite (wge_gd ?_) (wge_ite (wge_gd ?_) (wge_ite (wge_gd (wge_popR fun _ _ => wge_gd (hE _ _ _ _ _ _))) (wge_ite (wge_gd (wge_popI fun _ _ => wge_popI fun _ _ => wge_gd (hE _ _ _ _ _ _))) (wge_ite (wge_gd (wge_popI fun _ _ => wge_popI fun _ _ => wge_gd (hE _ _ _ _ _ _))) (wge_ite (wge_gd (wge_popI fun _ _ => wge_popI fun _ _ => wge_popR fun _ _ => wge_popI fun _ _ => wge_popR fun _ _ => wge_gd (hE _ _ _ _ _ _))) wge_0)))))))
    · split
      · exact wge_calV hE
      · exact wge_0
    · split
      · exact wge_calS hE
      · exact wge_0
    · split
      · exact wge_calS hE
      · exact wge_0
    · split
      · exact wge_calV hE
      · exact wge_0
  · exact wge_0
theorem wge_stq {E : EX} (hE : Ge E) {y : ME} {pc : Nat} {ls st : List Value} {w : WS} {h : HS} {i : Instr} : wge w (stq E y pc ls st w h i) := by
  unfold stq
  split
  all_goals first
    | with_reducible exact wge_0
    | exact hE _ _ _ _ _ _
    | exact wge_inv hE
    | (split <;> first | exact hE _ _ _ _ _ _ | with_reducible exact wge_0 | exact wge_popR fun _ _ => wge_gd (hE _ _ _ _ _ _) | exact wge_popI fun _ _ => wge_gd (wge_alc (hE _ _ _ _ _ _)) | exact wge_alc (hE _ _ _ _ _ _) | exact wge_pop1 fun _ _ => wge_popR fun _ _ => wge_putI fun _ => hE _ _ _ _ _ _ | exact wge_ite wge_end wge_0 | exact wge_gd wge_end)
    | exact wge_asI fun _ => hE _ _ _ _ _ _
    | exact wge_asL fun _ => hE _ _ _ _ _ _
    | exact wge_asR fun _ => hE _ _ _ _ _ _
    | exact wge_popI fun _ _ => wge_gd (hE _ _ _ _ _ _)
    | exact wge_popL fun _ _ => wge_gd (hE _ _ _ _ _ _)
    | exact wge_popR fun _ _ => wge_gd (hE _ _ _ _ _ _)
    | exact wge_asI fun _ => wge_gd (hE _ _ _ _ _ _)
    | exact wge_popI fun _ _ => wge_popI fun _ _ => hE _ _ _ _ _ _
    | exact wge_popL fun _ _ => wge_popL fun _ _ => hE _ _ _ _ _ _
    | exact wge_popI fun _ _ => hE _ _ _ _ _ _
    | exact wge_pop1 fun _ _ => wge_gd (hE _ _ _ _ _ _)
    | exact wge_pop1 fun _ _ => wge_pop1 fun _ _ => wge_gd (hE _ _ _ _ _ _)
    | exact wge_jmp fun _ => hE _ _ _ _ _ _
    | exact wge_popI fun _ _ => wge_jmp fun _ => wge_brc (hE _ _ _ _ _ _) (hE _ _ _ _ _ _)
    | exact wge_popI fun _ _ => wge_popI fun _ _ => wge_jmp fun _ => wge_brc (hE _ _ _ _ _ _) (hE _ _ _ _ _ _)
    | (refine wge_popI fun _ _ => wge_brc (wge_jmp fun _ => hE _ _ _ _ _ _) ?_; split <;> first | exact wge_jmp fun _ => hE _ _ _ _ _ _ | with_reducible exact wge_0)
    | exact wge_popI fun _ _ => wge_gd (wge_jmp fun _ => hE _ _ _ _ _ _)
    | exact wge_popI fun _ _ => wge_popR fun _ _ => wge_gd (wge_gdv (hE _ _ _ _ _ _))
    | exact wge_popI fun _ _ => wge_popI fun _ _ => wge_popR fun _ _ => wge_gd (wge_gdv (hE _ _ _ _ _ _))
    | exact wge_popR fun _ _ => wge_popI fun _ _ => wge_popR fun _ _ => wge_gd (wge_gdv (hE _ _ _ _ _ _))
    | exact wge_popI fun _ _ => wge_gd (wge_alc (hE _ _ _ _ _ _))
theorem wge_stp {E : EX} (hE : Ge E) : Ge (stp E) := by
  intro y pc ls st w h
  unfold stp
  split
  · exact wge_gd (wge_stq hE)
  · exact wge_0
theorem xc_ge : ∀ n, Ge (xc n)
  | 0 => fun _ _ _ _ _ _ _ _ _ h => by cases h
  | n + 1 => wge_stp (xc_ge n)
end
section
/-! ===== what the tables say of each entry, counted by the kernel ===== -/
def tb : List Cond := lw_tbl.filter goodWord
theorem at_tb {i : Nat} {w : Cond} (h : lw_tbl[i]? = some w) (hg : goodWord w = true) : w ∈ tb := List.mem_filter.mpr ⟨List.mem_of_getElem? h, hg⟩
theorem lk_mem {α : Type} {j : Nat} {v : α} : ∀ {l : List (Nat × α)}, lk l j = some v → (j, v) ∈ l
  | [], h => by cases h
  | (i, u) :: l, h => by
    unfold lk at h
    split at h
    · next e => subst e; cases h; exact List.mem_cons_self
    · exact List.mem_cons_of_mem _ (lk_mem h)
theorem lk_memD {α : Type} {j oc : Nat} {v : α} {T : List (List (Nat × α))} (h : lk (T.getD oc []) j = some v) : oc < T.length ∧ (j, v) ∈ T.getD oc [] := by
  refine ⟨?_, lk_mem h⟩
  rcases Nat.lt_or_ge oc T.length with q | q
  · exact q
  · rw [List.getD_eq_getElem?_getD, List.getElem?_eq_none q] at h; cases h
def Tn (ci : Nat) : u_T := match ci with
  | 0 => TX0
  | 1 => TX1
  | 2 => TX2
  | 3 => TX3
  | 4 => TX4
  | 5 => TX5
  | 6 => TX6
  | 7 => TX7
  | 8 => TX8
  | 9 => TX9
  | _ => TX10
def tyN (ci : Nat) : Nat → FieldType := match ci with
  | 0 => tyX0
  | 1 => tyX1
  | 2 => tyX2
  | 3 => tyX3
  | 4 => tyX4
  | 5 => tyX5
  | 6 => tyX6
  | 7 => tyX7
  | 8 => tyX8
  | 9 => tyX9
  | _ => tyX10
theorem vw_at : ∀ ci, ci < 11 → vwCl[ci]? = some (Rn ci, Tn ci, nfOf ci)
  | 0, _ => rfl
  | 1, _ => rfl
  | 2, _ => rfl
  | 3, _ => rfl
  | 4, _ => rfl
  | 5, _ => rfl
  | 6, _ => rfl
  | 7, _ => rfl
  | 8, _ => rfl
  | 9, _ => rfl
  | 10, _ => rfl
  | n + 11, h => absurd h (by omega)
theorem nm_ok : ∀ ci, ci < 11 → ∀ a, a < nfOf ci → ∀ b, b < nfOf ci → a ≠ b → (Tn ci a).2.1 ≠ (Tn ci b).2.1
  | 0, _ => nmX0
  | 1, _ => nmX1
  | 2, _ => nmX2
  | 3, _ => nmX3
  | 4, _ => nmX4
  | 5, _ => nmX5
  | 6, _ => nmX6
  | 7, _ => nmX7
  | 8, _ => nmX8
  | 9, _ => nmX9
  | 10, _ => nmX10
  | n + 11, h => absurd h (by omega)
theorem ty_ok : ∀ ci, ci < 11 → ∀ k, k < nfOf ci → parseFieldDescriptor (Tn ci k).2.2.1 = some (tyN ci k)
  | 0, _ => tyX0_ok
  | 1, _ => tyX1_ok
  | 2, _ => tyX2_ok
  | 3, _ => tyX3_ok
  | 4, _ => tyX4_ok
  | 5, _ => tyX5_ok
  | 6, _ => tyX6_ok
  | 7, _ => tyX7_ok
  | 8, _ => tyX8_ok
  | 9, _ => tyX9_ok
  | 10, _ => tyX10_ok
  | n + 11, h => absurd h (by omega)
def gP : List (List Nat) := [[262, 264, 266], [249, 251, 253, 255], [138, 140, 142, 144, 146], [215, 217, 219, 221, 223], [195, 197, 199], [79, 81], [176, 178, 180], [117, 119, 121], [161, 163], [274, 276, 278, 280, 282], [627, 629, 631, 633, 635, 637, 639, 641, 643, 645, 647, 649, 651, 653, 655, 657, 659, 661]]
def chG (ci k : Nat) : Bool := decide ((Tn ci k).1 = Rn ci) && decide ((Tn ci k).2.2.2 = decide (10 ≤ gtg ci k)) && decide (lw_tbl[(gP.getD ci []).getD k 0]? = some (u_lay (Rn ci) (Tn ci) k)) && goodWord (u_lay (Rn ci) (Tn ci) k) && (if gtg ci k % 10 = 0 then decide (tyN ci k = .int) else if gtg ci k % 10 = 1 then decide (tyN ci k = .boolean) else if gtg ci k % 10 = 2 then decide (tyN ci k = .long) else decide (gtg ci k % 10 = 3) && match tyN ci k with | .object _ => true | .array _ => true | _ => false)
set_option maxRecDepth 100000 in
theorem chG_ok : ∀ ci, ci < 11 → ∀ k, k < nfOf ci → chG ci k = true := by decide +kernel
def chF (oc : Nat) (e : Nat × Nat × Nat × Nat) : Bool := decide (lw_tbl[e.2.2.2]? = some (.fieldLink (Rn oc) e.1 (Rn e.2.1) (Tn e.2.1 e.2.2.1).2.1 (Tn e.2.1 e.2.2.1).2.2.1)) && decide (e.2.1 < 11)
set_option maxRecDepth 100000 in
theorem chF_ok : ∀ oc, oc < fT.length → ∀ e ∈ fT.getD oc [], chF oc e = true := by decide +kernel
def chN (oc : Nat) (e : Nat × Nat × Nat × Nat × Nat) : Bool := decide (lw_tbl[e.2.2.1]? = some (.classLink (Rn oc) e.1 (Rn e.2.1))) && decide (lw_tbl[e.2.2.2.1]? = some (.instantiable (Rn e.2.1) (nfOf e.2.1))) && decide (lw_tbl[e.2.2.2.2]? = some (.initialized (Rn e.2.1))) && decide (e.2.1 < 11)
set_option maxRecDepth 100000 in
theorem chN_ok : ∀ oc, oc < nT.length → ∀ e ∈ nT.getD oc [], chN oc e = true := by decide +kernel
def chK (oc : Nat) (e : Nat × Int64 × Nat) : Bool := decide (lw_tbl[e.2.2]? = some (.constantLong (Rn oc) e.1 e.2.1))
set_option maxRecDepth 100000 in
theorem chK_ok : ∀ oc, oc < kT.length → ∀ e ∈ kT.getD oc [], chK oc e = true := by decide +kernel
set_option maxRecDepth 100000 in
theorem cw_ok : mtL.map (fun z => lw_tbl[m_pl z]?) = mtL.map (fun z => some (Cond.code (m_nm z) (m_bc z) (m_ml z) (m_rt z))) := rfl
def chM (z : ME) : Bool := decide ((m_nm z).cls = Rn (m_oc z)) && plainName (m_nm z).cls && decide ((m_nm z).cls ≠ "java/lang/invoke/MethodHandle" ∧ (m_nm z).cls ≠ "java/lang/invoke/VarHandle" ∧ (parseMethodDescriptor (m_nm z).desc).map (fun d => d.parameters.length) = some (m_na z)) && decide (m_in z = 1 → (m_nm z).name = "<init>") && decide (m_ml z ≤ 9) && decide (m_oc z < 11)
set_option maxRecDepth 100000 in
theorem chM_ok : ∀ z ∈ mtL, chM z = true := by decide +kernel
def chC (oc : Nat) (e : Nat × Nat × Nat × Nat × Nat × Nat × Nat) : Bool :=
  if e.2.1 = 4 then decide (lw_tbl[e.2.2.2.1]? = some (.methodLink (Rn oc) e.1 Lib.objectInit))
  else if e.2.1 = 5 then decide (lw_tbl[e.2.2.2.1]? = some (.methodLink (Rn oc) e.1 Lib.Math.max.name))
  else if e.2.1 = 6 then decide (lw_tbl[e.2.2.2.1]? = some (.methodLink (Rn oc) e.1 Lib.Math.min.name))
  else if e.2.1 = 7 then decide (lw_tbl[e.2.2.2.1]? = some (.methodLink (Rn oc) e.1 arraycopyName))
  else match mtL[e.2.2.1]? with
    | none => false
    | some z => decide (lw_tbl[e.2.2.2.2.2.2]? = some (.initialized (m_nm z).cls)) &&
      (if e.2.1 = 0 then decide (lw_tbl[e.2.2.2.1]? = some (.methodLink (Rn oc) e.1 (m_nm z))) && decide (lw_tbl[e.2.2.2.2.1]? = some (.instanceMethod (m_nm z))) && decide (lw_tbl[e.2.2.2.2.2.1]? = some (.selects (m_nm z).cls (m_nm z) (m_nm z)))
       else if e.2.1 = 1 then decide (lw_tbl[e.2.2.2.1]? = some (.methodLink (Rn oc) e.1 (m_nm z))) && decide (lw_tbl[e.2.2.2.2.1]? = some (.static (m_nm z)))
       else if e.2.1 = 2 then decide (lw_tbl[e.2.2.2.1]? = some (.methodLinkNest (Rn oc) e.1 (m_nm z) "PaintedLines")) && decide (lw_tbl[e.2.2.2.2.1]? = some (.static (m_nm z)))
       else if e.2.1 = 3 then decide (lw_tbl[e.2.2.2.1]? = some (.methodLink (Rn oc) e.1 (m_nm z))) && decide (lw_tbl[e.2.2.2.2.1]? = some (.instanceMethod (m_nm z))) && decide ((m_nm z).name = "<init>") && decide (m_rt z = none)
       else false)
set_option maxRecDepth 100000 in
theorem chC_ok : ∀ oc, oc < cT.length → ∀ e ∈ cT.getD oc [], chC oc e = true := by decide +kernel
theorem w_oI : (.instanceMethod Lib.objectInit : Cond) ∈ tb := at_tb (i := 62) (by decide +kernel) (by decide +kernel)
theorem w_oC : (.code Lib.objectInit ⟨#[0xb1]⟩ 1 none : Cond) ∈ tb := at_tb (i := 63) (by decide +kernel) (by decide +kernel)
theorem w_maxS : (.static Lib.Math.max.name : Cond) ∈ tb := at_tb (i := 71) (by decide +kernel) (by decide +kernel)
theorem w_maxC : (.code Lib.Math.max.name Lib.Math.max.code 2 (some .int) : Cond) ∈ tb := at_tb (i := 72) (by decide +kernel) (by decide +kernel)
theorem w_minS : (.static Lib.Math.min.name : Cond) ∈ tb := at_tb (i := 324) (by decide +kernel) (by decide +kernel)
theorem w_minC : (.code Lib.Math.min.name Lib.Math.min.code 2 (some .int) : Cond) ∈ tb := at_tb (i := 325) (by decide +kernel) (by decide +kernel)
theorem w_mI : (.initialized "java/lang/Math" : Cond) ∈ tb := at_tb (i := 45) (by decide +kernel) (by decide +kernel)
theorem w_sI : (.initialized "java/lang/System" : Cond) ∈ tb := at_tb (i := 55) (by decide +kernel) (by decide +kernel)
theorem w_aN : (.native arraycopyName : Cond) ∈ tb := at_tb (i := 302) (by decide +kernel) (by decide +kernel)
theorem w_aS : (.static arraycopyName : Cond) ∈ tb := at_tb (i := 301) (by decide +kernel) (by decide +kernel)
theorem w_arI : (.arrayClass .int : Cond) ∈ tb := at_tb (i := 84) (by decide +kernel) (by decide +kernel)
theorem w_ar2 : (.arrayOver (.object RX2) : Cond) ∈ lw_tbl := List.mem_of_getElem? (i := 92) (by decide +kernel)
theorem w_ar5 : (.arrayOver (.object RX5) : Cond) ∈ lw_tbl := List.mem_of_getElem? (i := 156) (by decide +kernel)
theorem w_ar1 : (.arrayOver (.object RX1) : Cond) ∈ lw_tbl := List.mem_of_getElem? (i := 233) (by decide +kernel)
def nestL : List (Nat × Nat × MethodName) := [(4, 75, yX9_isLetter), (4, 83, yX9_isFigure), (4, 116, yX9_isCapital), (7, 35, yX9_isQuote)]
set_option maxRecDepth 100000 in
theorem nest_in : ∀ q ∈ nestL, Cond.methodLinkNest (Rn q.1) q.2.1 q.2.2 "PaintedLines" ∈ lw_tbl := by
  intro q hq
  simp only [nestL, List.mem_cons, List.not_mem_nil, or_false] at hq
  rcases hq with rfl | rfl | rfl | rfl
  · exact List.mem_of_getElem? (i := 409) (by decide +kernel)
  · exact List.mem_of_getElem? (i := 424) (by decide +kernel)
  · exact List.mem_of_getElem? (i := 435) (by decide +kernel)
  · exact List.mem_of_getElem? (i := 382) (by decide +kernel)
set_option maxRecDepth 100000 in
theorem nest_all : ∀ oc, oc < cT.length → ∀ e ∈ cT.getD oc [], e.2.1 = 2 → ∀ z, mtL[e.2.2.1]? = some z → (oc, e.1, m_nm z) ∈ nestL := by
  have h : ∀ oc, oc < cT.length → ∀ e ∈ cT.getD oc [], (decide (e.2.1 = 2) → (match mtL[e.2.2.1]? with | some z => decide ((oc, e.1, m_nm z) ∈ nestL) | none => true) = true) := by decide +kernel
  intro oc ho e he h2 z hz
  have := h oc ho e he (by simp [h2])
  rw [hz] at this
  simpa using this
end
section
/-! ===== the small machine's cells in the heap ===== -/
def rho (b base i : Nat) : Nat := if i = 0 then b else base + (i - 1)
def rv (b base : Nat) (v : Value) : Value := match v with | .ref i => .ref (rho b base i) | v => v
theorem rv_cat {b base : Nat} (v : Value) : (rv b base v).category = v.category := by cases v <;> rfl
theorem rv_rf {b base : Nat} (o : Option Nat) : rv b base (va_rf o) = va_rf (o.map (rho b base)) := by cases o <;> rfl
def ent (b base : Nat) (dA : Nat → ClassId) (w : WS) (h : HS) (a : Nat) : va_E :=
  if (w.1 a).1 = 20 then .inl (dA 0, (w.1 a).2, .inl (h.1 a))
  else if (w.1 a).1 = 21 ∨ (w.1 a).1 = 22 ∨ (w.1 a).1 = 23 then .inl (dA ((w.1 a).1 - 20), (w.1 a).2, .inr (.inr (.inr (.inr (fun j => (h.2.1 a j).map (rho b base))))))
  else .inr ((w.1 a).1, (List.range (nfOf (w.1 a).1)).map (fun k => rv b base (rdF h (gtg (w.1 a).1 k) a k)))
def wsO (b base : Nat) (dA : Nat → ClassId) (w : WS) (h : HS) : va_W := (List.range w.2.1).map (fun i => (base + i, ent b base dA w h (i + 1)))
theorem wsO_at {b base : Nat} {dA : Nat → ClassId} {w : WS} {h : HS} {a : Nat} (h0 : a ≠ 0) (hn : a ≤ w.2.1) : (wsO b base dA w h)[a - 1]? = some (rho b base a, ent b base dA w h a) := by
  obtain ⟨i, rfl⟩ : ∃ i, a = i + 1 := ⟨a - 1, by omega⟩
  simp only [wsO, List.getElem?_map, rho, Nat.add_sub_cancel, Nat.add_eq_zero_iff, Nat.one_ne_zero, and_false, if_false]
  rw [List.getElem?_range (by omega)]
  rfl
theorem wsO_ix {b base : Nat} {dA : Nat → ClassId} {w : WS} {h : HS} {k : Nat} {q : Nat × va_E} (hq : (wsO b base dA w h)[k]? = some q) : k < w.2.1 ∧ q = (base + k, ent b base dA w h (k + 1)) := by
  have hk : k < w.2.1 := by
    have := (List.getElem?_eq_some_iff.mp hq).1
    simpa [wsO] using this
  refine ⟨hk, ?_⟩
  have := wsO_at (b := b) (base := base) (dA := dA) (w := w) (h := h) (a := k + 1) (by omega) (by omega)
  rw [Nat.add_sub_cancel, hq] at this
  simpa [rho] using this
theorem wsO_D {b base : Nat} {dA : Nat → ClassId} {w : WS} {h : HS} : va_D (fun q => base ≤ q) (wsO b base dA w h) := by
  refine ⟨fun i j p q hi hj e => ?_, fun k q hk => ?_⟩
  · have h1 := (wsO_ix hi).2; have h2 := (wsO_ix hj).2
    rw [h1, h2] at e
    simpa using e
  · rw [(wsO_ix hk).2]; exact Nat.le_add_right _ _
theorem wsO_set {b base : Nat} {dA : Nat → ClassId} {w : WS} {h h' : HS} {a : Nat} {E : va_E} (h0 : a ≠ 0) (hE : ent b base dA w h' a = E) (ho : ∀ c, c ≠ a → ent b base dA w h' c = ent b base dA w h c) : (wsO b base dA w h).set (a - 1) (rho b base a, E) = wsO b base dA w h' := by
  apply List.ext_getElem?
  intro k
  rw [List.getElem?_set]
  by_cases hk : k < w.2.1
  · by_cases e : a - 1 = k
    · obtain rfl : a = k + 1 := by omega
      have := wsO_at (b := b) (base := base) (dA := dA) (w := w) (h := h') (a := k + 1) (by omega) (by omega)
      rw [Nat.add_sub_cancel] at this
      simp only [Nat.add_sub_cancel, if_true, this, hE]
      rw [if_pos (by simp [wsO]; exact hk)]
    · rw [if_neg e]
      have h1 := wsO_at (b := b) (base := base) (dA := dA) (w := w) (h := h') (a := k + 1) (by omega) (by omega)
      have h2 := wsO_at (b := b) (base := base) (dA := dA) (w := w) (h := h) (a := k + 1) (by omega) (by omega)
      rw [Nat.add_sub_cancel] at h1 h2
      rw [h1, h2, ho (k + 1) (by omega)]
  · have l1 : (wsO b base dA w h).length = w.2.1 := by simp [wsO]
    have l2 : (wsO b base dA w h').length = w.2.1 := by simp [wsO]
    rw [List.getElem?_eq_none (by omega), List.getElem?_eq_none (l := wsO b base dA w h') (by omega)]
    split
    · rw [if_neg (by omega)]
    · rfl
theorem wsO_app {b base : Nat} {dA : Nat → ClassId} {w : WS} {h : HS} {s : Nat × Nat} {k : Nat} : wsO b base dA (alc w s k) h = wsO b base dA w h ++ [(base + w.2.1, ent b base dA (alc w s k) h (w.2.1 + 1))] := by
  simp only [wsO, alc, List.range_succ, List.map_append, List.map_cons, List.map_nil, List.append_cancel_right_eq]
  apply List.map_congr_left
  intro i hi
  have := List.mem_range.mp hi
  have e : (alc w s k).1 (i + 1) = w.1 (i + 1) := if_neg (show ¬ i + 1 = w.2.1 + 1 by omega)
  have e2 : ent b base dA (alc w s k) h (i + 1) = ent b base dA w h (i + 1) := by unfold ent; rw [e]
  exact congrArg (fun z => (base + i, z)) e2
theorem ent_same {b base : Nat} {dA : Nat → ClassId} {w : WS} {h h' : HS} {c : Nat} (h1 : ∀ j, h'.1 c j = h.1 c j) (h2 : ∀ j, h'.2.1 c j = h.2.1 c j) (h3 : ∀ j, h'.2.2 c j = h.2.2 c j) : ent b base dA w h' c = ent b base dA w h c := by
  have e1 : h'.1 c = h.1 c := funext h1
  simp only [ent, e1, h2, rdF, h3]
theorem map_set {α : Type} {N k : Nat} {f f' : Nat → α} {v : α} (h1 : ∀ j, j ≠ k → f' j = f j) (h2 : f' k = v) : (List.range N).map f' = ((List.range N).map f).set k v := by
  apply List.ext_getElem?
  intro j
  rw [List.getElem?_set]
  by_cases hj : j < N
  · by_cases e : k = j
    · subst e
      simp [hj, h2]
    · rw [if_neg e, List.getElem?_map, List.getElem?_map, List.getElem?_range hj]
      simp [h1 j (fun q => e q.symm)]
  · rw [List.getElem?_eq_none (by simp; omega), List.getElem?_eq_none (l := (List.range N).map f) (by simp; omega)]
    split
    · rw [if_neg (by simp; omega)]
    · rfl
theorem ent_obj {b base : Nat} {dA : Nat → ClassId} {w : WS} {h : HS} {a ci : Nat} (hs : w.1 a = (ci, 0)) (hc : ci < 11) : ent b base dA w h a = .inr (ci, (List.range (nfOf ci)).map (fun k => rv b base (rdF h (gtg ci k) a k))) := by
  simp only [ent, hs]
  rw [if_neg (by omega), if_neg (by omega)]
theorem ent_int {b base : Nat} {dA : Nat → ClassId} {w : WS} {h : HS} {a : Nat} (hs : (w.1 a).1 = 20) : ent b base dA w h a = .inl (dA 0, (w.1 a).2, .inl (h.1 a)) := by
  simp only [ent, hs, if_true]
theorem ent_ref {b base : Nat} {dA : Nat → ClassId} {w : WS} {h : HS} {a : Nat} (hs : (w.1 a).1 = 21 ∨ (w.1 a).1 = 22 ∨ (w.1 a).1 = 23) : ent b base dA w h a = .inl (dA ((w.1 a).1 - 20), (w.1 a).2, .inr (.inr (.inr (.inr (fun j => (h.2.1 a j).map (rho b base)))))) := by
  simp only [ent]
  rw [if_neg (by omega), if_pos hs]
/-- the whole picture -/
def RP (b base L : Nat) (xs : Nat → Int32) (D : va_G) (dA : Nat → ClassId) (w : WS) (h : HS) (H : Heap) : Prop :=
  va_P D vwCl (wsO b base dA w h) H ∧ w.1 0 = (20, L) ∧ (∀ j, h.1 0 j = xs j) ∧ (∀ a, w.2.1 < a → w.1 a = (99, 0) ∧ ∀ k, h.1 a k = 0 ∧ h.2.1 a k = none ∧ h.2.2 a k = 0)
theorem RP.live {b base L : Nat} {xs : Nat → Int32} {D : va_G} {dA : Nat → ClassId} {w : WS} {h : HS} {H : Heap} (r : RP b base L xs D dA w h H) {a : Nat} (ha : (w.1 a).1 < 99) : a ≤ w.2.1 := by
  rcases Nat.lt_or_ge w.2.1 a with q | q
  · have := (r.2.2.2 a q).1
    rw [this] at ha
    exact absurd ha (by decide)
  · exact q
theorem RP.obj0 {b base L : Nat} {xs : Nat → Int32} {D : va_G} {dA : Nat → ClassId} {w : WS} {h : HS} {H : Heap} (r : RP b base L xs D dA w h H) {a : Nat} (ha : (w.1 a).1 ≠ 20) : a ≠ 0 := by
  rintro rfl
  rw [r.2.1] at ha
  exact ha rfl
theorem RP.at {b base L : Nat} {xs : Nat → Int32} {D : va_G} {dA : Nat → ClassId} {w : WS} {h : HS} {H : Heap} (r : RP b base L xs D dA w h H) {a : Nat} (ha : (w.1 a).1 < 99) (h0 : a ≠ 0) : (wsO b base dA w h)[a - 1]? = some (rho b base a, ent b base dA w h a) := wsO_at h0 (r.live ha)
/-- ints stored in a cell -/
theorem RP.stI {b base L : Nat} {xs : Nat → Int32} {D : va_G} {dA : Nat → ClassId} {w : WS} {h h' : HS} {H H1 : Heap} (r : RP b base L xs D dA w h H) {a : Nat} (h0 : a ≠ 0) (hl : a ≤ w.2.1) (ho : ∀ c, c ≠ a → ∀ j, h'.1 c j = h.1 c j ∧ h'.2.1 c j = h.2.1 c j ∧ h'.2.2 c j = h.2.2 c j) {E : va_E} (hE : ent b base dA w h' a = E) (hP : va_P D vwCl ((wsO b base dA w h).set (a - 1) (rho b base a, E)) H1) : RP b base L xs D dA w h' H1 := by
  rw [wsO_set h0 hE (fun c hc => ent_same (fun j => (ho c hc j).1) (fun j => (ho c hc j).2.1) (fun j => (ho c hc j).2.2))] at hP
  refine ⟨hP, r.2.1, fun j => ?_, fun c hc => ⟨(r.2.2.2 c hc).1, fun k => ?_⟩⟩
  · rw [(ho 0 (fun q => h0 q.symm) j).1]; exact r.2.2.1 j
  · have := (r.2.2.2 c hc).2 k
    obtain ⟨e1, e2, e3⟩ := ho c (by omega) k
    rw [e1, e2, e3]
    exact this
/-- a new cell -/
theorem RP.new {b base L : Nat} {xs : Nat → Int32} {D : va_G} {dA : Nat → ClassId} {w : WS} {h : HS} {H H1 : Heap} (r : RP b base L xs D dA w h H) {s : Nat × Nat} {k : Nat} (hP : va_P D vwCl (wsO b base dA w h ++ [(base + w.2.1, ent b base dA (alc w s k) h (w.2.1 + 1))]) H1) : RP b base L xs D dA (alc w s k) h H1 := by
  rw [← wsO_app] at hP
  refine ⟨hP, ?_, r.2.2.1, fun c hc => ?_⟩
  · show u1 w.1 (w.2.1 + 1) s 0 = _
    simp only [u1]
    rw [if_neg (by omega)]
    exact r.2.1
  · have hc : w.2.1 + 1 < c := hc
    obtain ⟨h1, h2⟩ := r.2.2.2 c (by omega)
    refine ⟨?_, h2⟩
    show u1 w.1 (w.2.1 + 1) s c = _
    simp only [u1]
    rw [if_neg (by omega)]
    exact h1
/-- the locals -/
def lvO (b base : Nat) (ls : List Value) : List (Nat × Value) := (List.range ls.length).filterMap (fun i => if ls.getD i .null = .null then none else some (i, rv b base (ls.getD i .null)))
theorem lvO_mem {b base : Nat} {ls : List Value} {q : Nat × Value} : q ∈ lvO b base ls ↔ q.1 < ls.length ∧ ls.getD q.1 .null ≠ .null ∧ q.2 = rv b base (ls.getD q.1 .null) := by
  unfold lvO
  rw [List.mem_filterMap]
  constructor
  · rintro ⟨i, hi, h⟩
    split at h
    · cases h
    · next hn => cases h; exact ⟨List.mem_range.mp hi, hn, rfl⟩
  · rintro ⟨h1, h2, h3⟩
    refine ⟨q.1, List.mem_range.mpr h1, ?_⟩
    rw [if_neg h2, ← h3]
def LR (b base : Nat) (rl : Array Slot) (n : Nat) (ls : List Value) : Prop := ls.length = n ∧ lv_has rl n (lvO b base ls)
theorem LR.get {b base n : Nat} {rl : Array Slot} {ls : List Value} (h : LR b base rl n ls) {i : Nat} {u : Value} (hu : ls.getD i .null = u) (h0 : u ≠ .null) : rl[i]? = some (.val (rv b base u)) := by
  have hi : i < ls.length := by
    rcases Nat.lt_or_ge i ls.length with q | q
    · exact q
    · rw [List.getD_eq_getElem?_getD, List.getElem?_eq_none q] at hu
      exact absurd hu.symm h0
  exact h.2.2.2 (i, rv b base u) (lvO_mem.mpr ⟨hi, by rw [hu]; exact h0, by rw [hu]⟩)
theorem getD_set {ls : List Value} {i j : Nat} {v : Value} (hi : i < ls.length) : (ls.set i v).getD j .null = if i = j then v else ls.getD j .null := by
  rw [List.getD_eq_getElem?_getD, List.getElem?_set]
  split
  · rfl
  · rw [List.getD_eq_getElem?_getD]
theorem LR.st1 {b base n : Nat} {rl rl' : Array Slot} {ls : List Value} {i : Nat} {v : Value} (h : LR b base rl n ls) (hi : i < ls.length) (hp : i = 0 ∨ (ls.getD (i - 1) .null).category = 1) (h' : lv_has rl' n ((i, rv b base v) :: (lvO b base ls).filter (fun q => !(q.1 == i) && !(q.1 + 1 == i && q.2.category == 2)))) : LR b base rl' n (ls.set i v) := by
  refine ⟨by rw [List.length_set]; exact h.1, h'.1, h'.2.1, fun q hq => ?_⟩
  obtain ⟨h1, h2, h3⟩ := lvO_mem.mp hq
  rw [List.length_set] at h1
  rw [getD_set hi] at h2 h3
  refine h'.2.2 q ?_
  by_cases e : i = q.1
  · rw [if_pos e] at h3
    obtain ⟨q1, q2⟩ := q
    dsimp only at *
    subst e h3
    exact List.mem_cons_self
  · rw [if_neg e] at h2 h3
    refine List.mem_cons_of_mem _ (List.mem_filter.mpr ⟨lvO_mem.mpr ⟨h1, h2, h3⟩, ?_⟩)
    by_cases e2 : q.1 + 1 = i
    · have hq1 : i - 1 = q.1 := by omega
      have hc : (ls.getD q.1 .null).category = 1 := by
        rcases hp with hp | hp
        · omega
        · rw [hq1] at hp; exact hp
      rw [h3, rv_cat, hc]
      simp
      omega
    · simp
      constructor
      · exact fun q => e q.symm
      · exact Or.inl e2
theorem LR.st2 {b base n : Nat} {rl rl' : Array Slot} {ls : List Value} {i : Nat} {v : Value} (h : LR b base rl n ls) (hi : i + 1 < ls.length) (hp : i = 0 ∨ (ls.getD (i - 1) .null).category = 1) (h' : lv_has rl' n ((i, rv b base v) :: (lvO b base ls).filter (fun q => !(q.1 == i) && (!(q.1 == i + 1) && !(q.1 + 1 == i && q.2.category == 2))))) : LR b base rl' n ((ls.set i v).set (i + 1) .null) := by
  refine ⟨by rw [List.length_set, List.length_set]; exact h.1, h'.1, h'.2.1, fun q hq => ?_⟩
  obtain ⟨h1, h2, h3⟩ := lvO_mem.mp hq
  rw [List.length_set, List.length_set] at h1
  rw [getD_set (by rw [List.length_set]; exact hi), getD_set (by omega)] at h2 h3
  refine h'.2.2 q ?_
  by_cases e0 : i + 1 = q.1
  · rw [if_pos e0] at h2; exact absurd rfl h2
  · rw [if_neg e0] at h2 h3
    by_cases e : i = q.1
    · rw [if_pos e] at h3
      obtain ⟨q1, q2⟩ := q
      dsimp only at *
      subst e h3
      exact List.mem_cons_self
    · rw [if_neg e] at h2 h3
      refine List.mem_cons_of_mem _ (List.mem_filter.mpr ⟨lvO_mem.mpr ⟨h1, h2, h3⟩, ?_⟩)
      by_cases e2 : q.1 + 1 = i
      · have hq1 : i - 1 = q.1 := by omega
        have hc : (ls.getD q.1 .null).category = 1 := by
          rcases hp with hp | hp
          · omega
          · rw [hq1] at hp; exact hp
        rw [h3, rv_cat, hc]
        simp
        omega
      · simp
        exact ⟨fun q => e q.symm, fun q => e0 q.symm, Or.inl e2⟩
theorem expL_len (b base : Nat) : ∀ as : List Value, (lg_sl (as.map (rv b base))).length = (expL as).length
  | [] => rfl
  | v :: vs => by
    have ih := expL_len b base vs
    simp only [lg_sl] at ih ⊢
    simp only [List.map_cons, List.flatMap_cons, List.length_append, rv_cat, expL, ih]
    split <;> simp <;> omega
theorem expL_args (b base : Nat) : ∀ (as : List Value) (i j : Nat) (u : Value), (expL as).getD j .null = u → u ≠ .null → (i + j, rv b base u) ∈ lv_args i (as.map (rv b base))
  | [], i, j, u, h, h0 => by
    simp only [expL] at h
    rw [List.getD_eq_getElem?_getD] at h
    simp at h
    exact absurd h.symm h0
  | v :: vs, i, j, u, h, h0 => by
    simp only [expL] at h
    simp only [List.map_cons, lv_args, rv_cat]
    by_cases hc : v.category = 2
    · rw [if_pos hc] at h ⊢
      match j, h with
      | 0, h => rw [List.getD_cons_zero] at h; subst h; exact List.mem_cons_self
      | 1, h => rw [List.getD_cons_succ, List.getD_cons_zero] at h; exact absurd h.symm h0
      | j + 2, h =>
        rw [List.getD_cons_succ, List.getD_cons_succ] at h
        have := expL_args b base vs (i + 2) j u h h0
        rw [show i + (j + 2) = i + 2 + j by omega]
        exact List.mem_cons_of_mem _ this
    · rw [if_neg hc] at h ⊢
      match j, h with
      | 0, h => rw [List.getD_cons_zero] at h; subst h; exact List.mem_cons_self
      | j + 1, h =>
        rw [List.getD_cons_succ] at h
        have := expL_args b base vs (i + 1) j u h h0
        rw [show i + (j + 1) = i + 1 + j by omega]
        exact List.mem_cons_of_mem _ this
theorem LR.entry {b base n : Nat} {as : List Value} (h : (expL as).length ≤ n) : LR b base ((lg_sl (as.map (rv b base)) ++ List.replicate (n - (lg_sl (as.map (rv b base))).length) Slot.unset).toArray) n (entL n as) := by
  have h1 := lv_entry (as.map (rv b base)) (n := n) (by rw [expL_len]; exact h)
  refine ⟨by simp only [entL, List.length_append, List.length_replicate]; omega, h1.1, h1.2.1, fun q hq => ?_⟩
  obtain ⟨g1, g2, g3⟩ := lvO_mem.mp hq
  refine h1.2.2 q ?_
  have hx : (expL as).getD q.1 .null = (entL n as).getD q.1 .null := by
    simp only [entL, List.getD_eq_getElem?_getD]
    rcases Nat.lt_or_ge q.1 (expL as).length with z | z
    · rw [List.getElem?_append_left z]
    · rw [List.getElem?_append_right z, List.getElem?_eq_none z, List.getElem?_replicate]
      split <;> rfl
  have := expL_args b base as 0 q.1 _ hx g2
  rw [Nat.zero_add, ← g3] at this
  exact this
end
section
/-! ===== the instructions that touch cells, in the words of the small machine ===== -/
def KK (D : va_G) (dA : Nat → ClassId) (U : State) : Prop := va_K D vwCl [(dA 0, .int), (dA 1, .object RX2), (dA 2, .object RX5), (dA 3, .object RX1)] U ∧ (∀ q ∈ nestL, va_Nw (.methodLinkNest (Rn q.1) q.2.1 q.2.2 "PaintedLines") U) ∧ va_AO RX2 U ∧ va_AO RX5 U ∧ va_AO RX1 U
theorem KK.warm {D : va_G} {dA : Nat → ClassId} {s U : State} (hW : s.WarmedH U.vm) (h : KK D dA s) : KK D dA U := ⟨va_K.moved hW.alike h.1, fun q hq => va_Nw.warmM hW (h.2.1 q hq), va_AO.moved hW.alike h.2.2.1, va_AO.moved hW.alike h.2.2.2.1, va_AO.moved hW.alike h.2.2.2.2⟩
theorem KK.calling {D : va_G} {dA : Nat → ClassId} {U : State} {g : JFrame} {mk : MethodId} {a : Array Value} (h : KK D dA U) : KK D dA (U.calling g mk a) := ⟨va_K.moved (u := U) (U := U.calling g mk a) (Vm.Alike.refl U.vm) h.1, fun q hq => va_Nw.same rfl rfl (h.2.1 q hq), va_AO.moved (u := U) (U := U.calling g mk a) (Vm.Alike.refl U.vm) h.2.2.1, va_AO.moved (u := U) (U := U.calling g mk a) (Vm.Alike.refl U.vm) h.2.2.2.1, va_AO.moved (u := U) (U := U.calling g mk a) (Vm.Alike.refl U.vm) h.2.2.2.2⟩
theorem chG_lay {ci k : Nat} (hc : ci < 11) (hk : k < nfOf ci) : (Tn ci k).1 = Rn ci ∧ (Tn ci k).2.2.2 = decide (10 ≤ gtg ci k) ∧ u_lay (Rn ci) (Tn ci) k ∈ tb := by
  have h := chG_ok ci hc k hk
  simp only [chG, Bool.and_eq_true, decide_eq_true_eq] at h
  exact ⟨h.1.1.1.1, h.1.1.1.2, at_tb h.1.1.2 h.1.2⟩
theorem in_ws {ci : Nat} (hc : ci < 11) : ∀ w ∈ u_ws (Rn ci) (Tn ci) (nfOf ci), w ∈ tb := by
  intro w hw
  obtain ⟨k, hk, rfl⟩ := List.mem_map.mp hw
  exact (chG_lay hc (List.mem_range.mp hk)).2.2
theorem chG_ty {ci k : Nat} (hc : ci < 11) (hk : k < nfOf ci) : (gtg ci k % 10 = 0 ∧ tyN ci k = .int) ∨ (gtg ci k % 10 = 1 ∧ tyN ci k = .boolean) ∨ (gtg ci k % 10 = 2 ∧ tyN ci k = .long) ∨ (gtg ci k % 10 = 3 ∧ ((∃ C, tyN ci k = .object C) ∨ (∃ t, tyN ci k = .array t))) := by
  have h := chG_ok ci hc k hk
  simp only [chG, Bool.and_eq_true, decide_eq_true_eq] at h
  have h2 := h.2
  split at h2
  · next e => exact Or.inl ⟨e, by simpa using h2⟩
  · split at h2
    · next e => exact Or.inr (Or.inl ⟨e, by simpa using h2⟩)
    · split at h2
      · next e => exact Or.inr (Or.inr (Or.inl ⟨e, by simpa using h2⟩))
      · simp only [Bool.and_eq_true, decide_eq_true_eq] at h2
        refine Or.inr (Or.inr (Or.inr ⟨h2.1, ?_⟩))
        have h3 := h2.2
        split at h3
        · next C e => exact Or.inl ⟨C, e⟩
        · next t e => exact Or.inr ⟨t, e⟩
        · cases h3
theorem res_f {oc i ci k pl : Nat} (h : fRes oc i = some (ci, k, pl)) : ci < 11 ∧ Cond.fieldLink (Rn oc) i (Rn ci) (Tn ci k).2.1 (Tn ci k).2.2.1 ∈ tb := by
  obtain ⟨h1, h2⟩ := lk_memD h
  have := chF_ok oc h1 _ h2
  simp only [chF, Bool.and_eq_true, decide_eq_true_eq] at this
  exact ⟨this.2, at_tb this.1 rfl⟩
theorem res_n {oc i ci p1 p2 p3 : Nat} (h : nRes oc i = some (ci, p1, p2, p3)) : ci < 11 ∧ Cond.classLink (Rn oc) i (Rn ci) ∈ tb ∧ Cond.instantiable (Rn ci) (nfOf ci) ∈ tb ∧ Cond.initialized (Rn ci) ∈ tb := by
  obtain ⟨h1, h2⟩ := lk_memD h
  have := chN_ok oc h1 _ h2
  simp only [chN, Bool.and_eq_true, decide_eq_true_eq] at this
  exact ⟨this.2, at_tb this.1.1.1 rfl, at_tb this.1.1.2 rfl, at_tb this.1.2 rfl⟩
theorem res_k {oc i pl : Nat} {v : Int64} (h : kRes oc i = some (v, pl)) : Cond.constantLong (Rn oc) i v ∈ tb := by
  obtain ⟨h1, h2⟩ := lk_memD h
  have := chK_ok oc h1 _ h2
  simp only [chK, decide_eq_true_eq] at this
  exact at_tb this rfl
theorem vin_in {i : Int32} {n : Nat} (h : vin i n) : vp_in i n := fun q => q.elim h.1 (fun z => Nat.not_le.mpr h.2 z)
section SM
variable {p : Program} {l : Launch} {e : Env} {R : Room} {s : State} {m : MethodId} {args : Array Value} {below : List Frame} {meth : Method} {c : Code} {H : Heap} {locs : List Loc} {cells slots : Nat} {Q : State → Prop}
variable {b base L : Nat} {xs : Nat → Int32} {D : va_G} {dA : Nat → ClassId} {w : WS} {h h' : HS} {pc : Nat} {rl : Array Slot} {rest : List Value} {y : ME}
/-- the heap is just as large as its cells are many -/
theorem W_size {n0 : Nat} (hz : s.heap.size = base + n0) (hc : w.2.1 = n0 + cells) (r : RP b base L xs D dA w h H) {g : JFrame} (k : H.size = base + w.2.1 → W p l e R s m args below meth c H locs cells slots Q g) : W p l e R s m args below meth c H locs cells slots Q g := by
  intro T hT X
  have h1 : s.heap.size ≤ T.heap.size := X.same.2.1
  have h2 : T.heap.size ≤ s.heap.size + cells := X.same.2.2.1
  rw [hT] at h1 h2
  refine k ?_ T hT X
  by_cases h0 : w.2.1 = 0
  · omega
  · have h3 := wsO_at (b := b) (base := base) (dA := dA) (w := w) (h := h) (a := w.2.1) h0 (Nat.le_refl _)
    have h4 := (r.1 _ _ h3).lt
    simp only [rho, h0, if_false] at h4
    omega
theorem sm_get (hx : p.tables.exec = Jvm.exec) (hb : c.code = m_bc y) (hown : s.vm.findClass (Rn (m_oc y)) = some m.cls) (hts : ∀ w ∈ tb, w.before args s = true) (hK : KK D dA s) (r : RP b base L xs D dA w h H) {i ci k pl a : Nat} (hf : fRes (m_oc y) i = some (ci, k, pl)) (hs : w.1 a = (ci, 0)) (hk : k < nfOf ci) (hd : decode (m_bc y) pc = .ok (.getfield i, 3))
    (kk : W p l e R s m args below meth c H locs cells slots Q (F0 m (pc + 3) rl (rv b base (rdF h (gtg ci k) a k) :: rest))) : W p l e R s m args below meth c H locs cells slots Q (F0 m pc rl (.ref (rho b base a) :: rest)) := by
  obtain ⟨hci, hlink⟩ := res_f hf
  have h0 : a ≠ 0 := r.obj0 (by rw [hs]; show ci ≠ 20; omega)
  have hat := r.at (a := a) (by rw [hs]; show ci < 99; omega) h0
  rw [ent_obj hs hci] at hat
  refine va_get (D := D) (C := Rn ci) (T := Tn ci) (N := nfOf ci) (ref := Rn ci) hx hb hts (in_ws hci) hown hK.1 r.1 (a - 1) hat (vw_at ci hci) k hk (hts _ hlink) (fun x hx => by rw [(chG_lay hci hk).1] at hx; exact hx) ?_ hd kk
  rw [List.getElem?_map, List.getElem?_range hk]
  rfl
theorem sm_put (hx : p.tables.exec = Jvm.exec) (hb : c.code = m_bc y) (hown : s.vm.findClass (Rn (m_oc y)) = some m.cls) (hts : ∀ w ∈ tb, w.before args s = true) (hK : KK D dA s) (hin : m_in y = 1 → meth.name = "<init>") (r : RP b base L xs D dA w h H) {H0 : Heap} (hS : va_S (fun q => base ≤ q) H0 H locs) {i ci k pl a : Nat} {v : Value} (hf : fRes (m_oc y) i = some (ci, k, pl)) (hfin : gtg ci k < 10 ∨ (m_in y = 1 ∧ m_oc y = ci)) (hs : w.1 a = (ci, 0)) (hk : k < nfOf ci) (hd : decode (m_bc y) pc = .ok (.putfield i, 3))
    (hn : narrow (tyN ci k) (rv b base v) = rv b base v) (hfit : fits (tyN ci k) (rv b base v) = true) (h1 : ∀ j, j ≠ k → rdF h' (gtg ci j) a j = rdF h (gtg ci j) a j) (h2 : rdF h' (gtg ci k) a k = v) (ho : ∀ c, c ≠ a → ∀ j, h'.1 c j = h.1 c j ∧ h'.2.1 c j = h.2.1 c j ∧ h'.2.2 c j = h.2.2 c j)
    (kk : ∀ (H1 : Heap) (locs1 : List Loc), RP b base L xs D dA w h' H1 → va_S (fun q => base ≤ q) H0 H1 locs1 → W p l e R s m args below meth c H1 locs1 cells slots Q (F0 m (pc + 3) rl rest)) : W p l e R s m args below meth c H locs cells slots Q (F0 m pc rl (rv b base v :: .ref (rho b base a) :: rest)) := by
  obtain ⟨hci, hlink⟩ := res_f hf
  have h0 : a ≠ 0 := r.obj0 (by rw [hs]; show ci ≠ 20; omega)
  have hat := r.at (a := a) (by rw [hs]; show ci < 99; omega) h0
  have hle : a ≤ w.2.1 := r.live (by rw [hs]; show ci < 99; omega)
  rw [ent_obj hs hci] at hat
  have hE : ent b base dA w h' a = .inr (ci, ((List.range (nfOf ci)).map (fun k => rv b base (rdF h (gtg ci k) a k))).set k (rv b base v)) := by
    rw [ent_obj hs hci]
    congr 2
    exact map_set (fun j hj => by rw [h1 j hj]) (by rw [h2])
  by_cases hq : gtg ci k < 10
  · refine va_put (D := D) (C := Rn ci) (T := Tn ci) (N := nfOf ci) (ref := Rn ci) hx hb hts (in_ws hci) (tyN ci) (ty_ok ci hci) (nm_ok ci hci) hown hK.1 r.1 wsO_D hS (a - 1) hat (vw_at ci hci) k hk (hts _ hlink) (fun x hx => by rw [(chG_lay hci hk).1] at hx; exact hx) ?_ (ty_ok ci hci k hk) hn hfit (by simp; exact hk) hd (fun H1 locs1 hP1 hD1 hS1 => kk H1 locs1 (r.stI h0 hle ho hE hP1) hS1)
    rw [(chG_lay hci hk).2.1]
    simpa using hq
  · obtain ⟨q1, q2⟩ := hfin.resolve_left hq
    refine va_putF (D := D) (C := Rn ci) (T := Tn ci) (N := nfOf ci) (ref := Rn ci) hx hb hts (in_ws hci) (tyN ci) (ty_ok ci hci) (nm_ok ci hci) hown hK.1 r.1 wsO_D hS (a - 1) hat (vw_at ci hci) k hk (hts _ hlink) (fun x hx => by rw [(chG_lay hci hk).1] at hx; exact hx) ?_ (hin q1) ?_ (ty_ok ci hci k hk) hn hfit (by simp; exact hk) hd (fun H1 locs1 hP1 hD1 hS1 => kk H1 locs1 (r.stI h0 hle ho hE hP1) hS1)
    · rw [(chG_lay hci hk).2.1]
      simpa using hq
    · rw [(chG_lay hci hk).1, q2]
theorem sm_iald (hx : p.tables.exec = Jvm.exec) (hb : c.code = m_bc y) (hK : KK D dA s) (r : RP b base L xs D dA w h H) (hX : va_X b L xs s s.heap) (hbl : b < base) (hbs : base ≤ s.heap.size) (hS : va_S (fun q => base ≤ q) s.heap H locs) {a : Nat} {i : Int32} (hs : (w.1 a).1 = 20) (hi : vin i (w.1 a).2) (hd : decode (m_bc y) pc = .ok (.iaload, 1))
    (kk : W p l e R s m args below meth c H locs cells slots Q (F0 m (pc + 1) rl (.int (h.1 a i.toNatClampNeg) :: rest))) : W p l e R s m args below meth c H locs cells slots Q (F0 m pc rl (.int i :: .ref (rho b base a) :: rest)) := by
  by_cases h0 : a = 0
  · subst h0
    rw [r.2.1] at hi
    refine va_sld (A := fun q => base ≤ q) hx hb hX (by omega) (by omega) hS (vin_in hi) hd ?_
    rw [← r.2.2.1]
    exact kk
  · have hat := r.at (a := a) (by rw [hs]; decide) h0
    rw [ent_int hs] at hat
    exact va_iald hx hb hK.1 r.1 (a - 1) 0 hat rfl (vin_in hi) hd kk
theorem sm_iast (hx : p.tables.exec = Jvm.exec) (hb : c.code = m_bc y) (hK : KK D dA s) (r : RP b base L xs D dA w h H) {H0 : Heap} (hS : va_S (fun q => base ≤ q) H0 H locs) {a : Nat} {i x : Int32} (hs : (w.1 a).1 = 20) (h0 : a ≠ 0) (hi : vin i (w.1 a).2) (hd : decode (m_bc y) pc = .ok (.iastore, 1))
    (kk : ∀ (H1 : Heap) (locs1 : List Loc), RP b base L xs D dA w (u2 h.1 a i.toNatClampNeg x, h.2.1, h.2.2) H1 → va_S (fun q => base ≤ q) H0 H1 locs1 → W p l e R s m args below meth c H1 locs1 cells slots Q (F0 m (pc + 1) rl rest)) : W p l e R s m args below meth c H locs cells slots Q (F0 m pc rl (.int x :: .int i :: .ref (rho b base a) :: rest)) := by
  have hat := r.at (a := a) (by rw [hs]; decide) h0
  have hle : a ≤ w.2.1 := r.live (by rw [hs]; decide)
  rw [ent_int hs] at hat
  refine va_iast hx hb hK.1 r.1 wsO_D hS (a - 1) 0 hat rfl (vin_in hi) hd (fun H1 locs1 hP1 hD1 hS1 => kk H1 locs1 (r.stI h0 hle (fun c hc j => ⟨by simp [u2, hc], rfl, rfl⟩) ?_ hP1) hS1)
  rw [ent_int hs]
  congr 4
  funext j
  simp [u2, upd]
theorem sm_copy (hx : p.tables.exec = Jvm.exec) (hb : c.code = m_bc y) (hml : c.maxLocals = rl.size) (hown : s.vm.findClass (Rn (m_oc y)) = some m.cls) (hts : ∀ w ∈ tb, w.before args s = true) (hK : KK D dA s) (r : RP b base L xs D dA w h H) {H0 : Heap} (hS : va_S (fun q => base ≤ q) H0 H locs) {i a0 a1 : Nat} (hw : Cond.methodLink (Rn (m_oc y)) i arraycopyName ∈ tb) {sp dp n : Int32} (z0 : a0 ≠ 0) (z1 : a1 ≠ 0) (s0 : (w.1 a0).1 = 20) (s1 : (w.1 a1).1 = 20) (h1 : ¬ sp < 0) (h2 : ¬ dp < 0) (h3 : ¬ n < 0) (h4 : sp.toNatClampNeg + n.toNatClampNeg ≤ (w.1 a0).2) (h5 : dp.toNatClampNeg + n.toNatClampNeg ≤ (w.1 a1).2)
    (hfr : 1 ≤ R.frames) (hlo : (rest.map fun v => v.category).sum + (nativeFrameWords "java/lang/System" "arraycopy" 5 + 11) ≤ R.locals) (hd : decode (m_bc y) pc = .ok (.invokestatic i, 3))
    (kk : ∀ (H1 : Heap) (locs1 : List Loc), RP b base L xs D dA w (uA h.1 a1 (va_cpy (h.1 a0) (h.1 a1) sp.toNatClampNeg dp.toNatClampNeg n.toNatClampNeg), h.2.1, h.2.2) H1 → va_S (fun q => base ≤ q) H0 H1 locs1 → W p l e R s m args below meth c H1 locs1 cells slots Q (F0 m (pc + 3) rl rest)) : W p l e R s m args below meth c H locs cells slots Q (F0 m pc rl (.int n :: .int dp :: .ref (rho b base a1) :: .int sp :: .ref (rho b base a0) :: rest)) := by
  have hat0 := r.at (a := a0) (by rw [s0]; decide) z0
  have hat1 := r.at (a := a1) (by rw [s1]; decide) z1
  have hle : a1 ≤ w.2.1 := r.live (by rw [s1]; decide)
  rw [ent_int s0] at hat0
  rw [ent_int s1] at hat1
  refine va_copyi (ty := .int) hx hb hml hown (hts _ hw) (hts _ w_aN) (hts _ w_aS) (hts _ w_sI) hK.1 r.1 wsO_D hS (a0 - 1) (a1 - 1) 0 0 hat0 hat1 rfl rfl rfl h1 h2 h3 h4 h5 (fun _ _ => rfl) hfr hlo hd (fun H1 locs1 hP1 hD1 hS1 => kk H1 locs1 (r.stI z1 hle (fun c hc j => ⟨by simp [uA, hc], rfl, rfl⟩) ?_ hP1) hS1)
  rw [ent_int s1]
  congr 4
  funext j
  simp [uA]
theorem kd_ty {kd : Nat} (hk : kd = 21 ∨ kd = 22 ∨ kd = 23) : ([(dA 0, .int), (dA 1, .object RX2), (dA 2, .object RX5), (dA 3, .object RX1)] : List (ClassId × FieldType))[kd - 20]? = some (dA (kd - 20), .object (Rn (clOf (kd - 20)))) := by
  rcases hk with rfl | rfl | rfl <;> rfl
theorem sm_aald (hx : p.tables.exec = Jvm.exec) (hb : c.code = m_bc y) (hK : KK D dA s) (r : RP b base L xs D dA w h H) {a : Nat} {i : Int32} (hs : (w.1 a).1 = 21 ∨ (w.1 a).1 = 22 ∨ (w.1 a).1 = 23) (hi : vin i (w.1 a).2) (hd : decode (m_bc y) pc = .ok (.aaload, 1))
    (kk : W p l e R s m args below meth c H locs cells slots Q (F0 m (pc + 1) rl (rv b base (va_rf (h.2.1 a i.toNatClampNeg)) :: rest))) : W p l e R s m args below meth c H locs cells slots Q (F0 m pc rl (.int i :: .ref (rho b base a) :: rest)) := by
  have hat := r.at (a := a) (by omega) (r.obj0 (by omega))
  rw [ent_ref hs] at hat
  refine va_aldq hx hb hK.1 r.1 (a - 1) ((w.1 a).1 - 20) hat (kd_ty hs) (vin_in hi) hd ?_
  rw [← rv_rf]
  exact kk
theorem sm_aast (hx : p.tables.exec = Jvm.exec) (hb : c.code = m_bc y) (hK : KK D dA s) (r : RP b base L xs D dA w h H) {H0 : Heap} (hS : va_S (fun q => base ≤ q) H0 H locs) {a x : Nat} {i : Int32} (hs : (w.1 a).1 = 21 ∨ (w.1 a).1 = 22 ∨ (w.1 a).1 = 23) (hv : w.1 x = (clOf ((w.1 a).1 - 20), 0)) (hi : vin i (w.1 a).2) (hd : decode (m_bc y) pc = .ok (.aastore, 1))
    (kk : ∀ (H1 : Heap) (locs1 : List Loc), RP b base L xs D dA w (h.1, u2 h.2.1 a i.toNatClampNeg (some x), h.2.2) H1 → va_S (fun q => base ≤ q) H0 H1 locs1 → W p l e R s m args below meth c H1 locs1 cells slots Q (F0 m (pc + 1) rl rest)) : W p l e R s m args below meth c H locs cells slots Q (F0 m pc rl (.ref (rho b base x) :: .int i :: .ref (rho b base a) :: rest)) := by
  have h0 : a ≠ 0 := r.obj0 (by omega)
  have hat := r.at (a := a) (by omega) h0
  have hle : a ≤ w.2.1 := r.live (by omega)
  have hcl : clOf ((w.1 a).1 - 20) < 11 := by rcases hs with q | q | q <;> rw [q] <;> decide
  have hatx := r.at (a := x) (by rw [hv]; show clOf _ < 99; omega) (r.obj0 (by rw [hv]; show clOf _ ≠ 20; omega))
  rw [ent_ref hs] at hat
  rw [ent_obj hv hcl] at hatx
  refine va_astq (r := (Rn (clOf ((w.1 a).1 - 20)), Tn (clOf ((w.1 a).1 - 20)), nfOf (clOf ((w.1 a).1 - 20)))) hx hb hK.1 r.1 wsO_D hS (a - 1) ((w.1 a).1 - 20) (x - 1) (clOf ((w.1 a).1 - 20)) hat (kd_ty hs) hatx (vw_at _ hcl) (vin_in hi) hd (fun H1 locs1 hP1 hD1 hS1 => kk H1 locs1 (r.stI h0 hle (fun c hc j => ⟨rfl, by simp [u2, hc], rfl⟩) ?_ hP1) hS1)
  rw [ent_ref hs]
  congr 7
  funext j
  by_cases e : j = i.toNatClampNeg
  · simp [u2, va_up, e]
  · simp [u2, va_up, e]
theorem sm_alen (hx : p.tables.exec = Jvm.exec) (hb : c.code = m_bc y) (hK : KK D dA s) (r : RP b base L xs D dA w h H) (hX : va_X b L xs s s.heap) (hbl : b < base) (hbs : base ≤ s.heap.size) (hS : va_S (fun q => base ≤ q) s.heap H locs) {a : Nat} (hs : (w.1 a).1 = 20 ∨ (w.1 a).1 = 21 ∨ (w.1 a).1 = 22 ∨ (w.1 a).1 = 23) (hd : decode (m_bc y) pc = .ok (.arraylength, 1))
    (kk : W p l e R s m args below meth c H locs cells slots Q (F0 m (pc + 1) rl (.int (nI (w.1 a).2) :: rest))) : W p l e R s m args below meth c H locs cells slots Q (F0 m pc rl (.ref (rho b base a) :: rest)) := by
  by_cases h0 : a = 0
  · subst h0
    refine va_slen (b := b) (A := fun q => base ≤ q) hx hb hX (Nat.lt_of_lt_of_le hbl hbs) (Nat.not_le.mpr hbl) hS hd ?_
    rw [r.2.1] at kk
    exact kk
  · have hat := r.at (a := a) (by omega) h0
    rcases hs with hs | hs
    · rw [ent_int hs] at hat
      exact va_alen hx hb hK.1 r.1 (a - 1) 0 hat rfl rfl hd kk
    · rw [ent_ref hs] at hat
      exact va_alen hx hb hK.1 r.1 (a - 1) ((w.1 a).1 - 20) hat (kd_ty hs) rfl hd kk
/-- a new cell's address -/
theorem q_new {T : State} {n0 q : Nat} {E : va_E} {H1 : Heap} (hz : s.heap.size = base + n0) (hc : w.2.1 = n0 + cells) {slots' : Nat} (hT : T.heap = H1) (X : Stand p l e R s m args below meth c T locs (cells + 1) slots') (hP : va_P D vwCl (wsO b base dA w h ++ [(q, E)]) H1) (hD : va_D (fun q => base ≤ q) (wsO b base dA w h ++ [(q, E)])) : q = base + w.2.1 := by
  have h2 : T.heap.size ≤ s.heap.size + (cells + 1) := X.same.2.2.1
  rw [hT] at h2
  have hl : (wsO b base dA w h).length = w.2.1 := by simp [wsO]
  have hq : (wsO b base dA w h ++ [(q, E)])[w.2.1]? = some (q, E) := by
    rw [List.getElem?_append_right (by omega), hl, Nat.sub_self]; rfl
  have h3 := (hP _ _ hq).lt
  have h4 : base ≤ q := hD.2 _ _ hq
  dsimp only at h3
  rcases Nat.lt_or_ge q (base + w.2.1) with z | z
  · exfalso
    have h5 := wsO_at (b := b) (base := base) (dA := dA) (w := w) (h := h) (a := q - base + 1) (by omega) (by omega)
    have h6 : (wsO b base dA w h ++ [(q, E)])[q - base]? = some (rho b base (q - base + 1), ent b base dA w h (q - base + 1)) := by
      rw [List.getElem?_append_left (by omega)]
      exact h5
    have := hD.1 _ _ _ _ hq h6 (by simp only [rho, Nat.add_eq_zero_iff, Nat.one_ne_zero, and_false, if_false]; omega)
    omega
  · omega
theorem sm_new (hx : p.tables.exec = Jvm.exec) (hb : c.code = m_bc y) (hown : s.vm.findClass (Rn (m_oc y)) = some m.cls) (hts : ∀ w ∈ tb, w.before args s = true) (hK : KK D dA s) (r : RP b base L xs D dA w h H) (hS : va_S (fun q => base ≤ q) s.heap H locs) {n0 : Nat} (hz : s.heap.size = base + n0) (hc : w.2.1 = n0 + cells) {i ci p1 p2 p3 : Nat} (hf : nRes (m_oc y) i = some (ci, p1, p2, p3)) (hce : cells + 1 ≤ R.cells) (hsl : slots + nfOf ci ≤ R.slots) (hd : decode (m_bc y) pc = .ok (.new i, 3))
    (kk : ∀ H1 : Heap, RP b base L xs D dA (alc w (ci, 0) (nfOf ci)) h H1 → va_S (fun q => base ≤ q) s.heap H1 locs → W p l e R s m args below meth c H1 locs (cells + 1) (slots + nfOf ci) Q (F0 m (pc + 3) rl (.ref (rho b base (w.2.1 + 1)) :: rest))) : W p l e R s m args below meth c H locs cells slots Q (F0 m pc rl rest) := by
  obtain ⟨hci, g1, g2, g3⟩ := res_n hf
  have hs : (alc w (ci, 0) (nfOf ci)).1 (w.2.1 + 1) = (ci, 0) := if_pos rfl
  refine va_new (D := D) (cl := vwCl) (C := Rn ci) (T := Tn ci) (N := nfOf ci) (ci := ci) (fs := (List.range (nfOf ci)).map (fun k => rv b base (rdF h (gtg ci k) (w.2.1 + 1) k))) hx hb hts (in_ws hci) (tyN ci) (ty_ok ci hci) hown (hts _ g1) (hts _ g2) (hts _ g3) hK.1 r.1 wsO_D hS (fun q hq => by omega) (vw_at ci hci) ?_ hce hsl hd (fun q H1 hP1 hD1 hS1 => ?_)
  · intro j hj
    have hfr := (r.2.2.2 (w.2.1 + 1) (by omega)).2 j
    unfold vp_V
    rw [List.getD_eq_getElem?_getD, List.getElem?_map, List.getElem?_range hj]
    show _ = rv b base (rdF h (gtg ci j) (w.2.1 + 1) j)
    simp only [rdF, hfr.1, hfr.2.1, hfr.2.2]
    rcases chG_ty hci hj with ⟨q1, q2⟩ | ⟨q1, q2⟩ | ⟨q1, q2⟩ | ⟨q1, ⟨C, q2⟩ | ⟨C, q2⟩⟩ <;> rw [q2] <;> simp [q1, defaultValue, rv, va_rf]
  · intro T hT X
    have hq := q_new hz hc hT X hP1 hD1
    subst hq
    rw [← ent_obj (b := b) (base := base) (dA := dA) hs hci] at hP1
    have := kk H1 (r.new hP1) hS1 T hT X
    simpa [rho] using this
theorem sm_newa (hx : p.tables.exec = Jvm.exec) (hb : c.code = m_bc y) (hts : ∀ w ∈ tb, w.before args s = true) (hK : KK D dA s) (r : RP b base L xs D dA w h H) (hS : va_S (fun q => base ≤ q) s.heap H locs) {n0 : Nat} (hz : s.heap.size = base + n0) (hc : w.2.1 = n0 + cells) {n : Int32} (hn : ¬ n < 0) (hn2 : n.toNatClampNeg ≤ 5000) (hce : cells + 1 ≤ R.cells) (hsl : slots + n.toNatClampNeg ≤ R.slots) (hd : decode (m_bc y) pc = .ok (.newarray .int, 2))
    (kk : ∀ H1 : Heap, RP b base L xs D dA (alc w (20, n.toNatClampNeg) n.toNatClampNeg) h H1 → va_S (fun q => base ≤ q) s.heap H1 locs → W p l e R s m args below meth c H1 locs (cells + 1) (slots + n.toNatClampNeg) Q (F0 m (pc + 2) rl (.ref (rho b base (w.2.1 + 1)) :: rest))) : W p l e R s m args below meth c H locs cells slots Q (F0 m pc rl (.int n :: rest)) := by
  refine va_newa (atype := .int) (ty := .int) (a0 := (n.toNatClampNeg, .inl (fun _ => 0))) hx hb (hts _ w_arI) rfl hK.1 r.1 wsO_D hS (fun q hq => by omega) (fun _ => rfl) hn rfl (by show n.toNatClampNeg * 4 ≤ _; omega) hce hsl hd (fun q cA H1 hK1 hP1 hD1 hS1 => ?_)
  intro T hT X
  have hq := q_new hz hc hT X hP1 hD1
  subst hq
  have e1 : cA = dA 0 := by
    have f1 : s.vm.findClass ("[" ++ FieldType.int.toString) = some cA := (hK1.2 4 _ rfl).2
    have f2 : s.vm.findClass ("[" ++ FieldType.int.toString) = some (dA 0) := (hK.1.2 0 _ rfl).2
    exact Option.some.inj (f1.symm.trans f2)
  have e2 : ent b base dA (alc w (20, n.toNatClampNeg) n.toNatClampNeg) h (w.2.1 + 1) = .inl (cA, (n.toNatClampNeg, .inl (fun _ => 0))) := by
    have hs : (alc w (20, n.toNatClampNeg) n.toNatClampNeg).1 (w.2.1 + 1) = (20, n.toNatClampNeg) := if_pos rfl
    rw [ent_int (by rw [hs]), hs, e1]
    congr 4
    funext j
    exact ((r.2.2.2 (w.2.1 + 1) (by omega)).2 j).1
  rw [← e2] at hP1
  have := kk H1 (r.new hP1) hS1 T hT X
  simpa [rho] using this
theorem sm_newq (hx : p.tables.exec = Jvm.exec) (hb : c.code = m_bc y) (hown : s.vm.findClass (Rn (m_oc y)) = some m.cls) (hts : ∀ w ∈ tb, w.before args s = true) (hK : KK D dA s) (r : RP b base L xs D dA w h H) (hS : va_S (fun q => base ≤ q) s.heap H locs) {n0 : Nat} (hz : s.heap.size = base + n0) (hc : w.2.1 = n0 + cells) {i ci p1 p2 p3 : Nat} (hf : nRes (m_oc y) i = some (ci, p1, p2, p3)) (hkd : kdOf ci ≠ 0) {n : Int32} (hn : ¬ n < 0) (hn2 : n.toNatClampNeg ≤ 5000) (hce : cells + 1 ≤ R.cells) (hsl : slots + n.toNatClampNeg ≤ R.slots) (hd : decode (m_bc y) pc = .ok (.anewarray i, 3))
    (kk : ∀ H1 : Heap, RP b base L xs D dA (alc w (20 + kdOf ci, n.toNatClampNeg) n.toNatClampNeg) h H1 → va_S (fun q => base ≤ q) s.heap H1 locs → W p l e R s m args below meth c H1 locs (cells + 1) (slots + n.toNatClampNeg) Q (F0 m (pc + 3) rl (.ref (rho b base (w.2.1 + 1)) :: rest))) : W p l e R s m args below meth c H locs cells slots Q (F0 m pc rl (.int n :: rest)) := by
  obtain ⟨hci, g1, g2, g3⟩ := res_n hf
  have hc3 : ci = 2 ∨ ci = 5 ∨ ci = 1 := by
    unfold kdOf at hkd
    by_cases z1 : ci = 2
    · exact Or.inl z1
    · by_cases z2 : ci = 5
      · exact Or.inr (Or.inl z2)
      · by_cases z3 : ci = 1
        · exact Or.inr (Or.inr z3)
        · simp [z1, z2, z3] at hkd
  have hao : va_AO (Rn ci) s := by
    rcases hc3 with rfl | rfl | rfl
    · exact hK.2.2.1
    · exact hK.2.2.2.1
    · exact hK.2.2.2.2
  have hty : ([(dA 0, .int), (dA 1, .object RX2), (dA 2, .object RX5), (dA 3, .object RX1)] : List (ClassId × FieldType))[kdOf ci]? = some (dA (kdOf ci), .object (Rn ci)) := by
    rcases hc3 with rfl | rfl | rfl <;> rfl
  have hkr : 20 + kdOf ci = 21 ∨ 20 + kdOf ci = 22 ∨ 20 + kdOf ci = 23 := by
    rcases hc3 with rfl | rfl | rfl <;> decide
  refine va_newq (C := Rn ci) hx hb hown (hts _ g1) hao hK.1 r.1 wsO_D hS (fun q hq => by omega) hn rfl (by omega) hce hsl hd (fun q cA H1 hK1 hP1 hD1 hS1 => ?_)
  intro T hT X
  have hq := q_new hz hc hT X hP1 hD1
  subst hq
  have e1 : cA = dA (kdOf ci) := by
    obtain ⟨_, _, _, _, _, f1⟩ := (hK1.2 4 _ rfl).2
    obtain ⟨_, _, _, _, _, f2⟩ := (hK.1.2 _ _ hty).2
    exact Option.some.inj (f1.symm.trans f2)
  have e2 : ent b base dA (alc w (20 + kdOf ci, n.toNatClampNeg) n.toNatClampNeg) h (w.2.1 + 1) = .inl (cA, n.toNatClampNeg, .inr (.inr (.inr (.inr (fun _ => none))))) := by
    have hs : (alc w (20 + kdOf ci, n.toNatClampNeg) n.toNatClampNeg).1 (w.2.1 + 1) = (20 + kdOf ci, n.toNatClampNeg) := if_pos rfl
    rw [ent_ref (by rw [hs]; exact hkr), hs, e1]
    dsimp only
    rw [Nat.add_sub_cancel_left]
    congr 7
    funext j
    rw [((r.2.2.2 (w.2.1 + 1) (by omega)).2 j).2.1]
    rfl
  rw [← e2] at hP1
  have := kk H1 (r.new hP1) hS1 T hT X
  simpa [rho] using this
end SM
end
section
/-! ===== what the small machine answers, the machine answers ===== -/
def rOKp (y : ME) (pc : Nat) (r : Option Value) : Prop := match r with
  | some (.int x) => decode (m_bc y) pc = .ok (.ireturn, 1) ∧ rOK (m_rt y) x
  | some (.long _) => decode (m_bc y) pc = .ok (.lreturn, 1) ∧ m_rt y = some .long
  | none => decode (m_bc y) pc = .ok (.return_, 1) ∧ m_rt y = none
  | _ => False
/-- a method's frame: what holds all along -/
def Cx (b base L : Nat) (xs : Nat → Int32) (D : va_G) (dA : Nat → ClassId) (n0 : Nat) (p : Program) (R : Room) (s : State) (m : MethodId) (args : Array Value) (meth : Method) (c : Code) (y : ME) : Prop :=
  p.tables.exec = Jvm.exec ∧ c.code = m_bc y ∧ c.maxLocals = m_ml y ∧ s.vm.findClass (Rn (m_oc y)) = some m.cls ∧ (∀ w ∈ tb, w.before args s = true) ∧ KK D dA s ∧ (m_in y = 1 → meth.name = "<init>") ∧ m_dp y ≤ R.frames ∧ 28 * m_dp y ≤ R.locals ∧ s.heap.size = base + n0 ∧ b < base ∧ va_X b L xs s s.heap
/-- the machine comes to Q from here -/
def Gl (b base L : Nat) (xs : Nat → Int32) (D : va_G) (dA : Nat → ClassId) (n0 s0 : Nat) (p : Program) (l : Launch) (e : Env) (R : Room) (s : State) (m : MethodId) (args : Array Value) (below : List Frame) (meth : Method) (c : Code) (Q : State → Prop) (y : ME) (pc : Nat) (ls st : List Value) (w : WS) (h : HS) : Prop :=
  ∀ (rl : Array Slot) (H : Heap) (locs : List Loc) (cells slots : Nat), LR b base rl (m_ml y) ls → RP b base L xs D dA w h H → va_S (fun q => base ≤ q) s.heap H locs → w.2.1 = n0 + cells → w.2.2 = s0 + slots → W p l e R s m args below meth c H locs cells slots Q (F0 m pc rl (st.map (rv b base)))
/-- at the method's end the machine comes to Q -/
def Rt (b base L : Nat) (xs : Nat → Int32) (D : va_G) (dA : Nat → ClassId) (n0 s0 : Nat) (p : Program) (l : Launch) (e : Env) (R : Room) (s : State) (m : MethodId) (args : Array Value) (below : List Frame) (meth : Method) (c : Code) (Q : State → Prop) (y : ME) (o : Option Value × WS × HS) : Prop :=
  o.2.1.2.1 ≤ n0 + R.cells ∧ o.2.1.2.2 ≤ s0 + R.slots ∧ ∀ (pc : Nat) (rl : Array Slot) (H : Heap) (locs : List Loc) (cells slots : Nat), rOKp y pc o.1 → RP b base L xs D dA o.2.1 o.2.2 H → va_S (fun q => base ≤ q) s.heap H locs → o.2.1.2.1 = n0 + cells → o.2.1.2.2 = s0 + slots → W p l e R s m args below meth c H locs cells slots Q (F0 m pc rl (o.1.toList.map (rv b base)))
def Snd (l : Launch) (b base L : Nat) (xs : Nat → Int32) (D : va_G) (dA : Nat → ClassId) (E : EX) : Prop :=
  ∀ (y : ME) (p : Program) (e : Env) (R : Room) (s : State) (m : MethodId) (args : Array Value) (below : List Frame) (meth : Method) (c : Code) (Q : State → Prop) (n0 s0 : Nat), Cx b base L xs D dA n0 p R s m args meth c y → ∀ (pc : Nat) (ls st : List Value) (w : WS) (h : HS) (o : Option Value × WS × HS), E y pc ls st w h = some o → Rt b base L xs D dA n0 s0 p l e R s m args below meth c Q y o → Gl b base L xs D dA n0 s0 p l e R s m args below meth c Q y pc ls st w h
/-- a method's words -/
def mws (z : ME) : List Cond := Cond.code (m_nm z) (m_bc z) (m_ml z) (m_rt z) :: tb
def mrm (z : ME) (mc ms : Nat) : Room := { frames := m_dp z, cells := mc, slots := ms, locals := 28 * m_dp z }
theorem cw_in {z : ME} (hz : z ∈ mtL) : Cond.code (m_nm z) (m_bc z) (m_ml z) (m_rt z) ∈ tb := by
  obtain ⟨i, hi⟩ := List.getElem?_of_mem hz
  have h1 := congrArg (fun l => l[i]?) cw_ok
  rw [List.getElem?_map, List.getElem?_map, hi] at h1
  simp only [Option.map_some, Option.some.injEq] at h1
  exact at_tb h1 rfl
theorem m_ok {z : ME} (hz : z ∈ mtL) : (m_nm z).cls = Rn (m_oc z) ∧ plainName (m_nm z).cls = true ∧ ((m_nm z).cls ≠ "java/lang/invoke/MethodHandle" ∧ (m_nm z).cls ≠ "java/lang/invoke/VarHandle" ∧ (parseMethodDescriptor (m_nm z).desc).map (fun d => d.parameters.length) = some (m_na z)) ∧ (m_in z = 1 → (m_nm z).name = "<init>") ∧ m_ml z ≤ 9 ∧ m_oc z < 11 := by
  have h := chM_ok z hz
  simp only [chM, Bool.and_eq_true, decide_eq_true_eq] at h
  exact ⟨h.1.1.1.1.1, h.1.1.1.1.2, h.1.1.1.2, h.1.1.2, h.1.2, h.2⟩
/-- a method's start and end, by the small machine's states -/
def mPc (b base L : Nat) (xs : Nat → Int32) (D : va_G) (dA : Nat → ClassId) (as : List Value) (w : WS) (h : HS) : Array Value → State → Prop := fun v U => v = (as.map (rv b base)).toArray ∧ RP b base L xs D dA w h U.heap ∧ KK D dA U ∧ U.heap.size = base + w.2.1 ∧ va_X b L xs U U.heap
def mQc (b base L : Nat) (xs : Nat → Int32) (D : va_G) (dA : Nat → ClassId) (o : Option Value × WS × HS) : Array Value → State → Outcome → State → Prop := fun _ st oc t => oc = .returned (o.1.map (rv b base)) ∧ RP b base L xs D dA o.2.1 o.2.2 t.heap ∧ va_F (fun q => base ≤ q) st t
set_option maxHeartbeats 4000000 in
theorem met_of {l : Launch} {b base L : Nat} {xs : Nat → Int32} {D : va_G} {dA : Nat → ClassId} {E : EX} (ih : Snd l b base L xs D dA E) (hge : Ge E) (hb0 : b < base) {z : ME} (hz : z ∈ mtL) {as : List Value} {w : WS} {h : HS} {o : Option Value × WS × HS} (hlen : (expL as).length ≤ m_ml z) (hE : E z 0 (entL (m_ml z) as) [] w h = some o) :
    Met l (m_nm z) (mws z) (mrm z (o.2.1.2.1 - w.2.1) (o.2.1.2.2 - w.2.2)) (mPc b base L xs D dA as w h) (mQc b base L xs D dA o) (o.2.1.2.1 - w.2.1) (o.2.1.2.2 - w.2.2) (fun q => base ≤ q) := by
  obtain ⟨k1, k2, k3, k4, k5, k6⟩ := m_ok hz
  have hg := hge _ _ _ _ _ _ _ _ _ hE
  refine Met.ofW (cc := m_bc z) (maxL := m_ml z) (ret := m_rt z) k2 rfl ?_
  intro p e s m args below meth c s₁ B hml hv
  obtain ⟨rfl, hr, hK, hsz, hX⟩ := hv
  have hts0 := atoms_spec (ws := mws z) B.pre
  have hts : ∀ w ∈ tb, w.before (as.map (rv b base)).toArray s = true := fun w hw => hts0 w (List.mem_cons_of_mem _ hw)
  have hown : s.vm.findClass (m_nm z).cls = some m.cls := findClass_of_methodNamed B.named
  rw [k1] at hown
  have hlocks := B.notSynchronized
  have hin : m_in z = 1 → meth.name = "<init>" := fun q => ((name_of_methodNamed B.named B.method).1).trans (k4 q)
  have hr2 := B.returns
  have C : Cx b base L xs D dA w.2.1 p (mrm z (o.2.1.2.1 - w.2.1) (o.2.1.2.2 - w.2.2)) s m (as.map (rv b base)).toArray meth c z := ⟨B.exec, B.bytes, hml, hown, hts, hK, hin, Nat.le_refl _, Nat.le_refl _, hsz, hb0, hX⟩
  rw [lg_entry_eq]
  refine ih z p e _ s m _ below meth c _ w.2.1 w.2.2 C 0 _ [] w h o hE ⟨?_, ?_, ?_⟩ _ s.heap [] 0 0 (LR.entry hlen) hr va_S.rf rfl rfl
  · show o.2.1.2.1 ≤ w.2.1 + (o.2.1.2.1 - w.2.1); omega
  · show o.2.1.2.2 ≤ w.2.2 + (o.2.1.2.2 - w.2.2); omega
  · intro pc rl H locs cells slots hok hr' hS' hc hs
    obtain rfl : cells = o.2.1.2.1 - w.2.1 := by omega
    obtain rfl : slots = o.2.1.2.2 - w.2.2 := by omega
    have hx := B.exec
    have hb := B.bytes
    obtain ⟨r, w', h'⟩ := o
    match r, hok with
    | some (.int x), hok =>
      rcases hok.2 with q | ⟨q, q2⟩
      · exact W.iret (v := x) hx hb (hr2.trans q) (fun t ht hW => ⟨rfl, by rw [ht]; exact hr', hS'.F ht⟩) hS'.2.2 hok.1
      · exact W.zret (v := x) (ty := .boolean) hx hb (hr2.trans q) (by rcases q2 with rfl | rfl <;> rfl) (fun t ht hW => ⟨rfl, by rw [ht]; exact hr', hS'.F ht⟩) hS'.2.2 hok.1
    | some (.long x), hok => exact W.lret (v := x) hx hb (hr2.trans hok.2) (fun t ht hW => ⟨rfl, by rw [ht]; exact hr', hS'.F ht⟩) hS'.2.2 hok.1
    | none, hok => exact W.vret hx hb (hr2.trans hok.2) (fun t ht hW => ⟨rfl, by rw [ht]; exact hr', hS'.F ht⟩) hS'.2.2 hok.1
theorem mws_good {z : ME} (hz : z ∈ mtL) {args : Array Value} {s : State} (hts : ∀ w ∈ tb, w.before args s = true) : ∀ w ∈ mws z, ∀ (a' : Array Value) (U : State), s.WarmedH U.vm → w.before a' U = true := by
  intro w hw a' U hW
  have hw' : w ∈ tb := by
    rcases List.mem_cons.mp hw with rfl | hw
    · exact cw_in hz
    · exact hw
  exact word_at hW (good_of_word (List.mem_filter.mp hw').2) (hts w hw')
end
section
/-! ===== calls ===== -/
theorem cat_le (st : List Value) : (st.map fun v => v.category).sum ≤ 2 * st.length := by
  induction st with
  | nil => simp
  | cons v t ih =>
    have : v.category ≤ 2 := by cases v <;> simp [Value.category]
    simp only [List.map_cons, List.sum_cons, List.length_cons]
    omega
theorem cat_rv (b base : Nat) (st : List Value) : ((st.map (rv b base)).map fun v => v.category).sum ≤ 2 * st.length := by
  have := cat_le (st.map (rv b base))
  rwa [List.length_map] at this
section CL
variable {p : Program} {l : Launch} {e : Env} {R : Room} {s : State} {m : MethodId} {args : Array Value} {below : List Frame} {meth : Method} {c : Code} {H : Heap} {locs : List Loc} {cells slots : Nat} {Q : State → Prop}
variable {b base L : Nat} {xs : Nat → Int32} {D : va_G} {dA : Nat → ClassId} {w : WS} {h : HS} {pc : Nat} {rl : Array Slot} {y z : ME} {n0 s0 : Nat} {E : EX}
theorem sm_after {mc ms : Nat} {st0 rest : List Value} {a : Array Value} {o : Option Value × WS × HS} (hr : va_Run p l e R s m args below meth c H locs cells slots mc ms (F0 m pc rl st0) rest (mQc b base L xs D dA o a) (fun q => base ≤ q)) (hS : va_S (fun q => base ≤ q) s.heap H locs)
    (kk : ∀ (H1 : Heap) (locs1 : List Loc), RP b base L xs D dA o.2.1 o.2.2 H1 → va_S (fun q => base ≤ q) s.heap H1 locs1 → W p l e R s m args below meth c H1 locs1 (cells + mc) (slots + ms) Q (F0 m (pc + 3) rl ((o.1.map (rv b base)).toList ++ rest))) : W p l e R s m args below meth c H locs cells slots Q (F0 m pc rl st0) := by
  intro T hT X
  obtain ⟨v, st₀, t, T', L', h0, X', hL, e1, e2, ⟨hv, hrp, hz, hk⟩, st⟩ := hr T hT X
  cases hv
  rw [h0] at hz hk
  obtain ⟨t2, a1, b1⟩ := kk T'.heap (locs ++ L') (by rw [e1]; exact hrp) ⟨Nat.le_trans hS.1 (by rw [e1]; exact hz), fun q h1 h2 => by rw [e1, hk q (Nat.lt_of_lt_of_le h1 hS.1) h2]; exact hS.2.1 q h1 h2, fun q hq => by
      rcases List.mem_append.mp hq with h | h
      · exact hS.2.2 q h
      · exact hL q h⟩ T' rfl X'
  exact ⟨t2, st t2 a1, b1⟩
theorem mPc_blind {as : List Value} : FrameBlind (mPc b base L xs D dA as w h) := fun a U g mk q => ⟨q.1, q.2.1, q.2.2.1.calling, q.2.2.2.1, va_X.moved (u := U) (U := U.calling g mk a) (Vm.Alike.refl U.vm) q.2.2.2.2⟩
theorem mPc_of (C : Cx b base L xs D dA n0 p R s m args meth c y) (r : RP b base L xs D dA w h H) (hS : va_S (fun q => base ≤ q) s.heap H locs) (hz : H.size = base + w.2.1) {as : List Value} : ∀ U : State, U.heap = H → s.WarmedH U.vm → mPc b base L xs D dA as w h (as.map (rv b base)).toArray U := by
  intro U hU hW
  obtain ⟨hx, hb, hml, hown, hts, hK, hin, hf, hlo, hsz, hbl, hX⟩ := C
  refine ⟨rfl, by rw [hU]; exact r, hK.warm hW, by rw [hU]; exact hz, ?_⟩
  rw [hU]
  exact (hX.kept (hS.2.1 b (by omega) (Nat.not_le.mpr hbl))).moved hW.alike
/-- what every call needs -/
theorem cb_of (C : Cx b base L xs D dA n0 p R s m args meth c y) (hz : z ∈ mtL) (hdp : m_dp z + 1 ≤ m_dp y) {i mc ms : Nat} (hini : Cond.initialized (m_nm z).cls ∈ tb) (hl : Cond.methodLink (Rn (m_oc y)) i (m_nm z) ∈ tb) : CallB R s args (Rn (m_oc y)) i (m_nm z) (m_bc z) (m_ml z) (m_rt z) (mws z) (mrm z mc ms) mc ms (m_na z) := by
  obtain ⟨hx, hb, hml, hown, hts, hK, hin, hf, hlo, hsz, hbl, hX⟩ := C
  obtain ⟨k1, k2, k3, k4, k5, k6⟩ := m_ok hz
  refine ⟨rfl, rfl, ?_, ?_, mws_good hz hts, List.mem_cons_self, hts _ (cw_in hz), hts _ hini, ⟨k3.1, k3.2.1⟩, fun sig hs => ?_, hts _ hl⟩
  · show m_dp z + 1 ≤ R.frames; omega
  · show 8 + (m_ml z + 11) + 28 * m_dp z ≤ R.locals; omega
  · have := k3.2.2
    rw [hs] at this
    exact (Option.some.inj this).symm
theorem cn_of (C : Cx b base L xs D dA n0 p R s m args meth c y) (hz : z ∈ mtL) (hdp : m_dp z + 1 ≤ m_dp y) {i mc ms : Nat} (hini : Cond.initialized (m_nm z).cls ∈ tb) (hl : (m_oc y, i, m_nm z) ∈ nestL) : va_CN R s args (Rn (m_oc y)) i (m_nm z) "PaintedLines" (m_bc z) (m_ml z) (m_rt z) (mws z) (mrm z mc ms) mc ms (m_na z) := by
  obtain ⟨hx, hb, hml, hown, hts, hK, hin, hf, hlo, hsz, hbl, hX⟩ := C
  obtain ⟨k1, k2, k3, k4, k5, k6⟩ := m_ok hz
  have g1 : (mrm z mc ms).frames + 1 ≤ R.frames := by show m_dp z + 1 ≤ R.frames; omega
  have g2 : 8 + (m_ml z + 11) + (mrm z mc ms).locals ≤ R.locals := by show 8 + (m_ml z + 11) + 28 * m_dp z ≤ R.locals; omega
  have g3 : ∀ sig, parseMethodDescriptor (m_nm z).desc = some sig → m_na z = sig.parameters.length := fun sig hs => by
    have := k3.2.2
    rw [hs] at this
    exact (Option.some.inj this).symm
  have hnw : va_Nw (.methodLinkNest (Rn (m_oc y)) i (m_nm z) "PaintedLines") s := hK.2.1 (m_oc y, i, m_nm z) hl
  have g4 : (Cond.methodLinkNest (Rn (m_oc y)) i (m_nm z) "PaintedLines").before args s = true := va_Nw.use (w := .methodLinkNest (Rn (m_oc y)) i (m_nm z) "PaintedLines") rfl hnw
  exact ⟨⟨rfl, rfl, g1, g2, mws_good hz hts, List.mem_cons_self⟩, hts _ (cw_in hz), hts _ hini, ⟨k3.1, k3.2.1⟩, g3, g4⟩
/-- a call by whichever row: 'hrun' is the row, with the callee's contract put in -/
theorem sm_cal {o : Option Value × WS × HS} {ls as rest : List Value} {st0 : List Value} (ih : Snd l b base L xs D dA E) (hge : Ge E) (C : Cx b base L xs D dA n0 p R s m args meth c y) (hz : z ∈ mtL) (hh : cal E y z pc ls as rest w h = some o) (hret : Rt b base L xs D dA n0 s0 p l e R s m args below meth c Q y o) (hl : LR b base rl (m_ml y) ls) (r : RP b base L xs D dA w h H) (hS : va_S (fun q => base ≤ q) s.heap H locs) (hc : w.2.1 = n0 + cells) (hs : w.2.2 = s0 + slots)
    (hrun : ∀ (o1 : Option Value × WS × HS), H.size = base + w.2.1 → rest.length ≤ 4 → m_dp z + 1 ≤ m_dp y → Met l (m_nm z) (mws z) (mrm z (o1.2.1.2.1 - w.2.1) (o1.2.1.2.2 - w.2.2)) (mPc b base L xs D dA as w h) (mQc b base L xs D dA o1) (o1.2.1.2.1 - w.2.1) (o1.2.1.2.2 - w.2.2) (fun q => base ≤ q) → cells + (o1.2.1.2.1 - w.2.1) ≤ R.cells ∧ slots + (o1.2.1.2.2 - w.2.2) ≤ R.slots →
      va_Run p l e R s m args below meth c H locs cells slots (o1.2.1.2.1 - w.2.1) (o1.2.1.2.2 - w.2.2) (F0 m pc rl st0) (rest.map (rv b base)) (mQc b base L xs D dA o1 (as.map (rv b base)).toArray) (fun q => base ≤ q)) :
    W p l e R s m args below meth c H locs cells slots Q (F0 m pc rl st0) := by
  obtain ⟨ro, wo, ho⟩ := o
  unfold cal at hh
  rw [gd_some] at hh
  obtain ⟨⟨g1, g2, g3⟩, hh⟩ := hh
  split at hh
  · next rr w' h' hE =>
    have C0 := C
    obtain ⟨hx, hb, hml, hown, hts, hK, hin, hf, hlo, hsz, hbl, hX⟩ := C0
    refine W_size hsz hc r (fun hz2 => ?_)
    have q1 := hge _ _ _ _ _ _ _ _ _ hE
    have q2 := hge _ _ _ _ _ _ _ _ _ hh
    have q3 := hret.1
    have q4 := hret.2.1
    refine sm_after (hrun (rr, w', h') hz2 g1 g3 (met_of ih hge hbl hz g2 hE) ?_) hS (fun H1 locs1 r1 hS1 => ?_)
    · dsimp only at q1 q2 q3 q4 ⊢
      omega
    · have := ih y p e R s m args below meth c Q n0 s0 C (pc + 3) ls (rr.toList ++ rest) w' h' _ hh hret rl H1 locs1 (cells + (w'.2.1 - w.2.1)) (slots + (w'.2.2 - w.2.2)) hl r1 hS1 (by omega) (by omega)
      dsimp only
      have e1 : (rr.map (rv b base)).toList ++ rest.map (rv b base) = (rr.toList ++ rest).map (rv b base) := by
        cases rr <;> simp
      rw [e1]
      exact this
  · cases hh
theorem take_drop_map {n : Nat} {st rest : List Value} {v : Value} (hd : st.drop n = v :: rest) : st.map (rv b base) = ((st.take n).reverse.map (rv b base)).reverse ++ rv b base v :: rest.map (rv b base) := by
  conv => lhs; rw [← List.take_append_drop n st, hd]
  rw [List.map_append, List.map_cons, ← List.map_reverse, List.reverse_reverse]
theorem sm_calV {o : Option Value × WS × HS} {ls st : List Value} {i : Nat} (ih : Snd l b base L xs D dA E) (hge : Ge E) (C : Cx b base L xs D dA n0 p R s m args meth c y) (hz : z ∈ mtL) (hh : calV E y z pc ls st w h = some o) (hret : Rt b base L xs D dA n0 s0 p l e R s m args below meth c Q y o) (hl : LR b base rl (m_ml y) ls) (r : RP b base L xs D dA w h H) (hS : va_S (fun q => base ≤ q) s.heap H locs) (hc : w.2.1 = n0 + cells) (hs : w.2.2 = s0 + slots) (hd : decode (m_bc y) pc = .ok (.invokevirtual i, 3)) (hini : Cond.initialized (m_nm z).cls ∈ tb) (hlk : Cond.methodLink (Rn (m_oc y)) i (m_nm z) ∈ tb) (hinst : Cond.instanceMethod (m_nm z) ∈ tb) (hsel : Cond.selects (m_nm z).cls (m_nm z) (m_nm z) ∈ tb) :
    W p l e R s m args below meth c H locs cells slots Q (F0 m pc rl (st.map (rv b base))) := by
  unfold calV at hh
  simp only [gd_some, popR_some] at hh
  obtain ⟨h1, b', rest, h2, h3, h4⟩ := hh
  have C0 := C
  obtain ⟨hx, hb, hml, hown, hts, hK, hin, hf, hlo, hsz, hbl, hX⟩ := C0
  obtain ⟨k1, k2, k3, k4, k5, k6⟩ := m_ok hz
  refine sm_cal ih hge C hz h4 hret hl r hS hc hs (fun o1 hzz hr4 hdp hM hroom => ?_)
  have hat := r.at (a := b') (by rw [h3]; show m_oc z < 99; omega) (r.obj0 (by rw [h3]; show m_oc z ≠ 20; omega))
  rw [ent_obj h3 k6] at hat
  refine va_runV (As := (st.take (m_na z)).reverse.map (rv b base)) (n := m_na z) (C := (m_nm z).cls) (b := rho b base b') (g := F0 m pc rl (st.map (rv b base))) ⟨hx, hb, hml, hown, hts⟩ hM ⟨cb_of C hz hdp hini hlk, hts _ hinst, hts _ hsel⟩ ⟨mPc_blind, ?_, mPc_of C r hS hzz⟩ rfl ?_ hl.2.1 (take_drop_map h2) (lv_room ?_) hd hroom
  · rw [k1]
    exact va_recv hK.1 r.1 (vw_at _ k6) hat
  · simp only [List.length_map, List.length_reverse, List.length_take]; omega
  · have := cat_rv b base rest; omega
theorem sm_calI {o : Option Value × WS × HS} {ls st : List Value} {i : Nat} (ih : Snd l b base L xs D dA E) (hge : Ge E) (C : Cx b base L xs D dA n0 p R s m args meth c y) (hz : z ∈ mtL) (hh : calV E y z pc ls st w h = some o) (hret : Rt b base L xs D dA n0 s0 p l e R s m args below meth c Q y o) (hl : LR b base rl (m_ml y) ls) (r : RP b base L xs D dA w h H) (hS : va_S (fun q => base ≤ q) s.heap H locs) (hc : w.2.1 = n0 + cells) (hs : w.2.2 = s0 + slots) (hd : decode (m_bc y) pc = .ok (.invokespecial i, 3)) (hini : Cond.initialized (m_nm z).cls ∈ tb) (hlk : Cond.methodLink (Rn (m_oc y)) i (m_nm z) ∈ tb) (hinst : Cond.instanceMethod (m_nm z) ∈ tb) (hnm : (m_nm z).name = "<init>") (hrt : m_rt z = none) :
    W p l e R s m args below meth c H locs cells slots Q (F0 m pc rl (st.map (rv b base))) := by
  unfold calV at hh
  simp only [gd_some, popR_some] at hh
  obtain ⟨h1, b', rest, h2, h3, h4⟩ := hh
  have C0 := C
  obtain ⟨hx, hb, hml, hown, hts, hK, hin, hf, hlo, hsz, hbl, hX⟩ := C0
  obtain ⟨k1, k2, k3, k4, k5, k6⟩ := m_ok hz
  refine sm_cal ih hge C hz h4 hret hl r hS hc hs (fun o1 hzz hr4 hdp hM hroom => ?_)
  have hcb := cb_of (mc := o1.2.1.2.1 - w.2.1) (ms := o1.2.1.2.2 - w.2.2) C hz hdp hini hlk
  rw [hrt] at hcb
  refine va_runI (As := (st.take (m_na z)).reverse.map (rv b base)) (n := m_na z) (b := rho b base b') (g := F0 m pc rl (st.map (rv b base))) ⟨hx, hb, hml, hown, hts⟩ hM ⟨hcb, hnm, hts _ hinst⟩ ⟨mPc_blind, mPc_of C r hS hzz⟩ rfl ?_ hl.2.1 (take_drop_map h2) (lv_room ?_) hd hroom
  · simp only [List.length_map, List.length_reverse, List.length_take]; omega
  · have := cat_rv b base rest; omega
theorem take_drop_mapS {n : Nat} {st : List Value} : st.map (rv b base) = ((st.take n).reverse.map (rv b base)).reverse ++ (st.drop n).map (rv b base) := by
  conv => lhs; rw [← List.take_append_drop n st]
  rw [List.map_append, ← List.map_reverse, List.reverse_reverse]
theorem sm_calS {o : Option Value × WS × HS} {ls st : List Value} {i : Nat} (ih : Snd l b base L xs D dA E) (hge : Ge E) (C : Cx b base L xs D dA n0 p R s m args meth c y) (hz : z ∈ mtL) (hh : calS E y z pc ls st w h = some o) (hret : Rt b base L xs D dA n0 s0 p l e R s m args below meth c Q y o) (hl : LR b base rl (m_ml y) ls) (r : RP b base L xs D dA w h H) (hS : va_S (fun q => base ≤ q) s.heap H locs) (hc : w.2.1 = n0 + cells) (hs : w.2.2 = s0 + slots) (hd : decode (m_bc y) pc = .ok (.invokestatic i, 3)) (hini : Cond.initialized (m_nm z).cls ∈ tb) (hlk : Cond.methodLink (Rn (m_oc y)) i (m_nm z) ∈ tb ∨ (m_oc y, i, m_nm z) ∈ nestL) (hst : Cond.static (m_nm z) ∈ tb) :
    W p l e R s m args below meth c H locs cells slots Q (F0 m pc rl (st.map (rv b base))) := by
  unfold calS at hh
  simp only [gd_some] at hh
  obtain ⟨h1, h4⟩ := hh
  have C0 := C
  obtain ⟨hx, hb, hml, hown, hts, hK, hin, hf, hlo, hsz, hbl, hX⟩ := C0
  refine sm_cal ih hge C hz h4 hret hl r hS hc hs (fun o1 hzz hr4 hdp hM hroom => ?_)
  rcases hlk with hlk | hlk
  · refine va_runS (As := (st.take (m_na z)).reverse.map (rv b base)) (n := m_na z) (g := F0 m pc rl (st.map (rv b base))) ⟨hx, hb, hml, hown, hts⟩ hM ⟨cb_of C hz hdp hini hlk, hts _ hst⟩ ⟨mPc_blind, mPc_of C r hS hzz⟩ rfl ?_ hl.2.1 take_drop_mapS (lv_room ?_) hd hroom
    · simp only [List.length_map, List.length_reverse, List.length_take]; omega
    · have := cat_rv b base (st.drop (m_na z)); omega
  · refine va_runSN (As := (st.take (m_na z)).reverse.map (rv b base)) (n := m_na z) (g := F0 m pc rl (st.map (rv b base))) ⟨hx, hb, hml, hown, hts⟩ hM ⟨cn_of C hz hdp hini hlk, hts _ hst, trivial⟩ ⟨mPc_blind, mPc_of C r hS hzz⟩ rfl ?_ hl.2.1 take_drop_mapS (lv_room ?_) hd hroom
    · simp only [List.length_map, List.length_reverse, List.length_take]; omega
    · have := cat_rv b base (st.drop (m_na z)); omega
end CL
end
section
/-! ===== every instruction ===== -/
theorem res_c {oc i kd id p1 p2 p3 p4 : Nat} (h : cRes oc i = some (kd, id, p1, p2, p3, p4)) :
    (kd = 4 → Cond.methodLink (Rn oc) i Lib.objectInit ∈ tb) ∧ (kd = 5 → Cond.methodLink (Rn oc) i Lib.Math.max.name ∈ tb) ∧ (kd = 6 → Cond.methodLink (Rn oc) i Lib.Math.min.name ∈ tb) ∧ (kd = 7 → Cond.methodLink (Rn oc) i arraycopyName ∈ tb) ∧
    (kd < 4 → ∀ z, mtL[id]? = some z → Cond.initialized (m_nm z).cls ∈ tb ∧ (kd = 0 → Cond.methodLink (Rn oc) i (m_nm z) ∈ tb ∧ Cond.instanceMethod (m_nm z) ∈ tb ∧ Cond.selects (m_nm z).cls (m_nm z) (m_nm z) ∈ tb) ∧ (kd = 1 → Cond.methodLink (Rn oc) i (m_nm z) ∈ tb ∧ Cond.static (m_nm z) ∈ tb) ∧ (kd = 2 → (oc, i, m_nm z) ∈ nestL ∧ Cond.static (m_nm z) ∈ tb) ∧ (kd = 3 → Cond.methodLink (Rn oc) i (m_nm z) ∈ tb ∧ Cond.instanceMethod (m_nm z) ∈ tb ∧ (m_nm z).name = "<init>" ∧ m_rt z = none)) := by
  obtain ⟨h1, h2⟩ := lk_memD h
  have hc := chC_ok oc h1 _ h2
  refine ⟨?_, ?_, ?_, ?_, ?_⟩
  · rintro rfl
    simp only [chC, if_true, decide_eq_true_eq] at hc
    exact at_tb hc rfl
  · rintro rfl
    simp only [chC, if_true, decide_eq_true_eq, Nat.reduceEqDiff, if_false] at hc
    exact at_tb hc rfl
  · rintro rfl
    simp only [chC, if_true, decide_eq_true_eq, Nat.reduceEqDiff, if_false] at hc
    exact at_tb hc rfl
  · rintro rfl
    simp only [chC, if_true, decide_eq_true_eq, Nat.reduceEqDiff, if_false] at hc
    exact at_tb hc rfl
  · intro hk z hz
    simp only [chC] at hc
    rw [if_neg (by omega), if_neg (by omega), if_neg (by omega), if_neg (by omega), hz] at hc
    simp only [Bool.and_eq_true, decide_eq_true_eq] at hc
    refine ⟨at_tb hc.1 rfl, ?_, ?_, ?_, ?_⟩
    · rintro rfl
      have := hc.2
      simp only [if_true, Bool.and_eq_true, decide_eq_true_eq] at this
      exact ⟨at_tb this.1.1 rfl, at_tb this.1.2 rfl, at_tb this.2 rfl⟩
    · rintro rfl
      have := hc.2
      simp only [if_true, Bool.and_eq_true, decide_eq_true_eq, Nat.reduceEqDiff, if_false, Nat.one_ne_zero] at this
      exact ⟨at_tb this.1 rfl, at_tb this.2 rfl⟩
    · rintro rfl
      have := hc.2
      simp only [if_true, Bool.and_eq_true, decide_eq_true_eq, Nat.reduceEqDiff, if_false] at this
      exact ⟨nest_all oc h1 _ h2 rfl z hz, at_tb this.2 rfl⟩
    · rintro rfl
      have := hc.2
      simp only [if_true, Bool.and_eq_true, decide_eq_true_eq, Nat.reduceEqDiff, if_false] at this
      exact ⟨at_tb this.1.1.1 rfl, at_tb this.1.1.2 rfl, this.1.2, this.2⟩
section SS
variable {p : Program} {l : Launch} {e : Env} {R : Room} {s : State} {m : MethodId} {args : Array Value} {below : List Frame} {meth : Method} {c : Code} {Q : State → Prop}
variable {b base L : Nat} {xs : Nat → Int32} {D : va_G} {dA : Nat → ClassId} {w : WS} {h : HS} {pc : Nat} {y : ME} {n0 s0 : Nat} {E : EX}
set_option maxHeartbeats 4000000 in
theorem snd_inv {o : Option Value × WS × HS} {ls st : List Value} {op i : Nat} (ih : Snd l b base L xs D dA E) (hge : Ge E) (C : Cx b base L xs D dA n0 p R s m args meth c y) (hret : Rt b base L xs D dA n0 s0 p l e R s m args below meth c Q y o) (hh : inv E y pc ls st w h op i = some o) (hd0 : op = 0 → decode (m_bc y) pc = .ok (.invokevirtual i, 3)) (hd1 : op = 1 → decode (m_bc y) pc = .ok (.invokespecial i, 3)) (hd2 : op = 2 → decode (m_bc y) pc = .ok (.invokestatic i, 3)) : Gl b base L xs D dA n0 s0 p l e R s m args below meth c Q y pc ls st w h := by
  intro rl H locs cells slots hl r hS hc hs
  have C0 := C
  obtain ⟨hx, hb, hml, hown, hts, hK, hin, hf, hlo, hsz, hbl, hX⟩ := C0
  have hrl : c.maxLocals = rl.size := hml.trans hl.2.1.symm
  unfold inv at hh
  split at hh
  · next kd id pls he =>
    obtain ⟨p1, p2, p3, p4⟩ := pls
    obtain ⟨r4, r5, r6, r7, rr⟩ := res_c he
    split at hh
    · next k0 =>
      rw [gd_some] at hh
      obtain ⟨h0, hh⟩ := hh
      split at hh
      · next z hz =>
        obtain ⟨g1, g2, -⟩ := rr (by omega) z hz
        obtain ⟨g3, g4, g5⟩ := g2 k0
        exact sm_calV ih hge C (List.mem_of_getElem? hz) hh hret hl r hS hc hs (hd0 h0) g1 g3 g4 g5
      · cases hh
    · split at hh
      · next k0 =>
        rw [gd_some] at hh
        obtain ⟨h0, hh⟩ := hh
        split at hh
        · next z hz =>
          obtain ⟨g1, -, g2, -⟩ := rr (by omega) z hz
          obtain ⟨g3, g4⟩ := g2 k0
          exact sm_calS ih hge C (List.mem_of_getElem? hz) hh hret hl r hS hc hs (hd2 h0) g1 (Or.inl g3) g4
        · cases hh
      · split at hh
        · next k0 =>
          rw [gd_some] at hh
          obtain ⟨h0, hh⟩ := hh
          split at hh
          · next z hz =>
            obtain ⟨g1, -, -, g2, -⟩ := rr (by omega) z hz
            obtain ⟨g3, g4⟩ := g2 k0
            exact sm_calS ih hge C (List.mem_of_getElem? hz) hh hret hl r hS hc hs (hd2 h0) g1 (Or.inr g3) g4
          · cases hh
        · split at hh
          · next k0 =>
            rw [gd_some] at hh
            obtain ⟨h0, hh⟩ := hh
            split at hh
            · next z hz =>
              obtain ⟨g1, -, -, -, g2⟩ := rr (by omega) z hz
              obtain ⟨g3, g4, g5, g6⟩ := g2 k0
              exact sm_calI ih hge C (List.mem_of_getElem? hz) hh hret hl r hS hc hs (hd1 h0) g1 g3 g4 g5 g6
            · cases hh
          · split at hh
            · next k0 =>
              simp only [gd_some, popR_some] at hh
              obtain ⟨⟨h0, h1⟩, a, t, rfl, h4, hh⟩ := hh
              have hcat := cat_rv b base t
              refine W.objInit hx hb hown (hts _ (r4 k0)) (hts _ w_oI) (hts _ w_oC) (a := rho b base a) (rest := t.map (rv b base)) rfl hrl.symm rfl (hd1 h0) (by omega) ?_ ?_
              · show 2 * 0 + _ + 12 ≤ _; omega
              · exact ih y p e R s m args below meth c Q n0 s0 C _ _ _ _ _ _ hh hret rl H locs cells slots hl r hS hc hs
            · split at hh
              · next k0 =>
                simp only [gd_some, popI_some] at hh
                obtain ⟨⟨h0, h1⟩, x2, t2, rfl, x1, t, rfl, h4, hh⟩ := hh
                have hcat := cat_rv b base t
                have hg := hge _ _ _ _ _ _ _ _ _ hh
                have hr1 := hret.1
                have hr2 := hret.2.1
                refine va_mmax hx hb hrl hown (hts _ (r5 k0)) (hts _ w_maxS) (hts _ w_mI) (hts _ w_maxC) (by omega) (by omega) ?_ ?_ (hd2 h0) ?_
                · obtain ⟨ro, wo, ho⟩ := o; dsimp only at *; omega
                · obtain ⟨ro, wo, ho⟩ := o; dsimp only at *; omega
                · exact ih y p e R s m args below meth c Q n0 s0 C _ _ _ _ _ _ hh hret rl H locs cells slots hl r hS hc hs
              · split at hh
                · next k0 =>
                  simp only [gd_some, popI_some] at hh
                  obtain ⟨⟨h0, h1⟩, x2, t2, rfl, x1, t, rfl, h4, hh⟩ := hh
                  have hcat := cat_rv b base t
                  have hg := hge _ _ _ _ _ _ _ _ _ hh
                  have hr1 := hret.1
                  have hr2 := hret.2.1
                  refine va_mmin hx hb hrl hown (hts _ (r6 k0)) (hts _ w_minS) (hts _ w_mI) (hts _ w_minC) (by omega) (by omega) ?_ ?_ (hd2 h0) ?_
                  · obtain ⟨ro, wo, ho⟩ := o; dsimp only at *; omega
                  · obtain ⟨ro, wo, ho⟩ := o; dsimp only at *; omega
                  · exact ih y p e R s m args below meth c Q n0 s0 C _ _ _ _ _ _ hh hret rl H locs cells slots hl r hS hc hs
                · split at hh
                  · next k0 =>
                    simp only [gd_some, popI_some, popR_some] at hh
                    obtain ⟨⟨h0, h1⟩, n, t1, rfl, dp, t2, rfl, a1, t3, rfl, sp, t4, rfl, a0, t, rfl, ⟨h4, z0, z1, f0, f1, f2, f3, f4, f5, f6⟩, hh⟩ := hh
                    have hcat := cat_rv b base t
                    have hnf : nativeFrameWords "java/lang/System" "arraycopy" 5 + 11 ≤ 20 := by decide
                    exact sm_copy hx hb hrl hown hts hK r hS (r7 k0) z0 z1 f0 f1 f2 f3 f4 f5 f6 (by omega) (by omega) (hd2 h0) (fun H1 locs1 r1 hS1 => ih y p e R s m args below meth c Q n0 s0 C _ _ _ _ _ _ hh hret rl H1 locs1 cells slots hl r1 hS1 hc hs)
                  · cases hh
  · cases hh
theorem LR.ix {n : Nat} {rl : Array Slot} {ls : List Value} (h : LR b base rl n ls) {i : Nat} {u : Value} (hi : i < ls.length) (hu : ls.getD i .null = u) (h0 : u ≠ .null) : ∃ k : Nat, (lvO b base ls)[k]? = some (i, rv b base u) :=
  List.getElem?_of_mem (lvO_mem.mpr ⟨hi, by rw [hu]; exact h0, by rw [hu]⟩)
set_option maxHeartbeats 8000000 in
theorem snd_stq {o : Option Value × WS × HS} {ls st : List Value} {i : Instr} {len : Nat} (ih : Snd l b base L xs D dA E) (hge : Ge E) (C : Cx b base L xs D dA n0 p R s m args meth c y) (hret : Rt b base L xs D dA n0 s0 p l e R s m args below meth c Q y o) (hd : decode (m_bc y) pc = .ok (i, len)) (hlen : iln i = 0 ∨ len = iln i) (hh : stq E y pc ls st w h i = some o) : Gl b base L xs D dA n0 s0 p l e R s m args below meth c Q y pc ls st w h := by
  have C0 := C
  obtain ⟨hx, hb, hml, hown, hts, hK, hin, hf, hlo, hsz, hbl, hX⟩ := C0
  have IH : ∀ {pc' : Nat} {ls' st' : List Value} {w' : WS} {h' : HS}, E y pc' ls' st' w' h' = some o → Gl b base L xs D dA n0 s0 p l e R s m args below meth c Q y pc' ls' st' w' h' := fun hh => ih y p e R s m args below meth c Q n0 s0 C _ _ _ _ _ _ hh hret
  have hbs : base ≤ s.heap.size := by omega
  unfold stq at hh
  split at hh
  case h_1 => -- iconst
    obtain rfl : len = 1 := by simpa [iln] using hlen
    intro rl H locs cells slots hl r hS hc hs
    exact lv_iconst hx hb hd rfl (IH hh rl H locs cells slots hl r hS hc hs)
  case h_2 =>
    obtain rfl : len = 2 := by simpa [iln] using hlen
    intro rl H locs cells slots hl r hS hc hs
    exact lv_bipush hx hb hd rfl (IH hh rl H locs cells slots hl r hS hc hs)
  case h_3 =>
    obtain rfl : len = 3 := by simpa [iln] using hlen
    intro rl H locs cells slots hl r hS hc hs
    exact lv_sipush hx hb hd rfl (IH hh rl H locs cells slots hl r hS hc hs)
  case h_4 => -- ldc2_w
    obtain rfl : len = 3 := by simpa [iln] using hlen
    intro rl H locs cells slots hl r hS hc hs
    split at hh
    · next v pl he => exact lv_ldc2 hx hb hown (hts _ (res_k he)) hd (IH hh rl H locs cells slots hl r hS hc hs)
    · cases hh
  case h_5 =>
    obtain rfl : len = 1 := by simpa [iln] using hlen
    intro rl H locs cells slots hl r hS hc hs
    obtain ⟨x, e1, hh⟩ := asI_some.mp hh
    exact lv_iload_n hx hb hd rfl (hl.get e1 (by simp)) (IH hh rl H locs cells slots hl r hS hc hs)
  case h_6 =>
    obtain rfl : len = 2 := by simpa [iln] using hlen
    intro rl H locs cells slots hl r hS hc hs
    obtain ⟨x, e1, hh⟩ := asI_some.mp hh
    exact lv_iload hx hb hd (hl.get e1 (by simp)) (IH hh rl H locs cells slots hl r hS hc hs)
  case h_7 =>
    obtain rfl : len = 1 := by simpa [iln] using hlen
    intro rl H locs cells slots hl r hS hc hs
    obtain ⟨x, e1, hh⟩ := asL_some.mp hh
    exact lv_lload_n hx hb hd rfl (hl.get e1 (by simp)) (IH hh rl H locs cells slots hl r hS hc hs)
  case h_8 =>
    obtain rfl : len = 2 := by simpa [iln] using hlen
    intro rl H locs cells slots hl r hS hc hs
    obtain ⟨x, e1, hh⟩ := asL_some.mp hh
    exact lv_lload hx hb hd (hl.get e1 (by simp)) (IH hh rl H locs cells slots hl r hS hc hs)
  case h_9 =>
    obtain rfl : len = 1 := by simpa [iln] using hlen
    intro rl H locs cells slots hl r hS hc hs
    obtain ⟨x, e1, hh⟩ := asR_some.mp hh
    exact lv_aload_n hx hb hd rfl (hl.get e1 (by simp)) (IH hh rl H locs cells slots hl r hS hc hs)
  case h_10 =>
    obtain rfl : len = 2 := by simpa [iln] using hlen
    intro rl H locs cells slots hl r hS hc hs
    obtain ⟨x, e1, hh⟩ := asR_some.mp hh
    exact lv_aload hx hb hd (hl.get e1 (by simp)) (IH hh rl H locs cells slots hl r hS hc hs)
  case h_11 => -- istore_n
    obtain rfl : len = 1 := by simpa [iln] using hlen
    intro rl H locs cells slots hl r hS hc hs
    have hz := popI_some.mp hh; clear hh; obtain ⟨x, t, rfl, hh⟩ := hz
    obtain ⟨⟨g1, g2⟩, hh⟩ := stI_some.mp hh
    exact lv_istore_n hx hb hd rfl hl.2 (by rw [← hl.1]; exact g1) rfl (fun rl' hl' => IH hh rl' H locs cells slots (hl.st1 (v := .int x) g1 g2 hl') r hS hc hs)
  case h_12 =>
    obtain rfl : len = 2 := by simpa [iln] using hlen
    intro rl H locs cells slots hl r hS hc hs
    have hz := popI_some.mp hh; clear hh; obtain ⟨x, t, rfl, hh⟩ := hz
    obtain ⟨⟨g1, g2⟩, hh⟩ := stI_some.mp hh
    exact lv_istore hx hb hd hl.2 (by rw [← hl.1]; exact g1) rfl (fun rl' hl' => IH hh rl' H locs cells slots (hl.st1 (v := .int x) g1 g2 hl') r hS hc hs)
  case h_13 =>
    obtain rfl : len = 1 := by simpa [iln] using hlen
    intro rl H locs cells slots hl r hS hc hs
    have hz := popL_some.mp hh; clear hh; obtain ⟨x, t, rfl, hh⟩ := hz
    obtain ⟨⟨g1, g2⟩, hh⟩ := stL_some.mp hh
    exact lv_lstore_n hx hb hd rfl hl.2 (by rw [← hl.1]; exact g1) rfl (fun rl' hl' => IH hh rl' H locs cells slots (hl.st2 (v := .long x) g1 g2 hl') r hS hc hs)
  case h_14 =>
    obtain rfl : len = 2 := by simpa [iln] using hlen
    intro rl H locs cells slots hl r hS hc hs
    have hz := popL_some.mp hh; clear hh; obtain ⟨x, t, rfl, hh⟩ := hz
    obtain ⟨⟨g1, g2⟩, hh⟩ := stL_some.mp hh
    exact lv_lstore hx hb hd hl.2 (by rw [← hl.1]; exact g1) rfl (fun rl' hl' => IH hh rl' H locs cells slots (hl.st2 (v := .long x) g1 g2 hl') r hS hc hs)
  case h_15 =>
    obtain rfl : len = 1 := by simpa [iln] using hlen
    intro rl H locs cells slots hl r hS hc hs
    have hz := popR_some.mp hh; clear hh; obtain ⟨x, t, rfl, hh⟩ := hz
    obtain ⟨⟨g1, g2⟩, hh⟩ := stI_some.mp hh
    exact lv_astore_n hx hb hd rfl hl.2 (by rw [← hl.1]; exact g1) rfl (fun rl' hl' => IH hh rl' H locs cells slots (hl.st1 (v := .ref x) g1 g2 hl') r hS hc hs)
  case h_16 =>
    obtain rfl : len = 2 := by simpa [iln] using hlen
    intro rl H locs cells slots hl r hS hc hs
    have hz := popR_some.mp hh; clear hh; obtain ⟨x, t, rfl, hh⟩ := hz
    obtain ⟨⟨g1, g2⟩, hh⟩ := stI_some.mp hh
    exact lv_astore hx hb hd hl.2 (by rw [← hl.1]; exact g1) rfl (fun rl' hl' => IH hh rl' H locs cells slots (hl.st1 (v := .ref x) g1 g2 hl') r hS hc hs)
  case h_17 => -- iinc
    obtain rfl : len = 3 := by simpa [iln] using hlen
    intro rl H locs cells slots hl r hS hc hs
    obtain ⟨x, e1, hh⟩ := asI_some.mp hh
    obtain ⟨⟨g1, g2⟩, hh⟩ := stI_some.mp hh
    obtain ⟨kx, hkx⟩ := hl.ix g1 e1 (by simp)
    exact lv_iinc hx hb hd hl.2 hkx rfl (by rw [← hl.1]; exact g1) rfl (fun rl' hl' => IH hh rl' H locs cells slots (hl.st1 (v := .int _) g1 g2 hl') r hS hc hs)
  case h_18 =>
    obtain rfl : len = 1 := by simpa [iln] using hlen
    intro rl H locs cells slots hl r hS hc hs
    have hz := popI_some.mp hh; clear hh; obtain ⟨x, t, rfl, hh⟩ := hz
    have hz := popI_some.mp hh; clear hh; obtain ⟨x, t, rfl, hh⟩ := hz
    exact lv_iadd hx hb hd (IH hh rl H locs cells slots hl r hS hc hs)
  case h_19 =>
    obtain rfl : len = 1 := by simpa [iln] using hlen
    intro rl H locs cells slots hl r hS hc hs
    have hz := popI_some.mp hh; clear hh; obtain ⟨x, t, rfl, hh⟩ := hz
    have hz := popI_some.mp hh; clear hh; obtain ⟨x, t, rfl, hh⟩ := hz
    exact lv_isub hx hb hd (IH hh rl H locs cells slots hl r hS hc hs)
  case h_20 =>
    obtain rfl : len = 1 := by simpa [iln] using hlen
    intro rl H locs cells slots hl r hS hc hs
    have hz := popI_some.mp hh; clear hh; obtain ⟨x, t, rfl, hh⟩ := hz
    have hz := popI_some.mp hh; clear hh; obtain ⟨x, t, rfl, hh⟩ := hz
    exact lv_imul hx hb hd (IH hh rl H locs cells slots hl r hS hc hs)
  case h_21 =>
    obtain rfl : len = 1 := by simpa [iln] using hlen
    intro rl H locs cells slots hl r hS hc hs
    have hz := popI_some.mp hh; clear hh; obtain ⟨x, t, rfl, hh⟩ := hz
    have hz := popI_some.mp hh; clear hh; obtain ⟨x, t, rfl, hh⟩ := hz
    exact lv_iand hx hb hd (IH hh rl H locs cells slots hl r hS hc hs)
  case h_22 =>
    obtain rfl : len = 1 := by simpa [iln] using hlen
    intro rl H locs cells slots hl r hS hc hs
    have hz := popI_some.mp hh; clear hh; obtain ⟨x, t, rfl, hh⟩ := hz
    have hz := popI_some.mp hh; clear hh; obtain ⟨x, t, rfl, hh⟩ := hz
    exact lv_ior hx hb hd (IH hh rl H locs cells slots hl r hS hc hs)
  case h_23 =>
    obtain rfl : len = 1 := by simpa [iln] using hlen
    intro rl H locs cells slots hl r hS hc hs
    have hz := popI_some.mp hh; clear hh; obtain ⟨x, t, rfl, hh⟩ := hz
    have hz := popI_some.mp hh; clear hh; obtain ⟨x, t, rfl, hh⟩ := hz
    exact lv_ishl hx hb hd (IH hh rl H locs cells slots hl r hS hc hs)
  case h_24 =>
    obtain rfl : len = 1 := by simpa [iln] using hlen
    intro rl H locs cells slots hl r hS hc hs
    have hz := popI_some.mp hh; clear hh; obtain ⟨x, t, rfl, hh⟩ := hz
    have hz := popI_some.mp hh; clear hh; obtain ⟨x, t, rfl, hh⟩ := hz
    exact lv_ishr hx hb hd (IH hh rl H locs cells slots hl r hS hc hs)
  case h_25 =>
    obtain rfl : len = 1 := by simpa [iln] using hlen
    intro rl H locs cells slots hl r hS hc hs
    have hz := popL_some.mp hh; clear hh; obtain ⟨x, t, rfl, hh⟩ := hz
    have hz := popL_some.mp hh; clear hh; obtain ⟨x, t, rfl, hh⟩ := hz
    exact lv_ladd hx hb hd (IH hh rl H locs cells slots hl r hS hc hs)
  case h_26 =>
    obtain rfl : len = 1 := by simpa [iln] using hlen
    intro rl H locs cells slots hl r hS hc hs
    have hz := popL_some.mp hh; clear hh; obtain ⟨x, t, rfl, hh⟩ := hz
    have hz := popL_some.mp hh; clear hh; obtain ⟨x, t, rfl, hh⟩ := hz
    exact lv_lmul hx hb hd (IH hh rl H locs cells slots hl r hS hc hs)
  case h_27 =>
    obtain rfl : len = 1 := by simpa [iln] using hlen
    intro rl H locs cells slots hl r hS hc hs
    have hz := popL_some.mp hh; clear hh; obtain ⟨x, t, rfl, hh⟩ := hz
    have hz := popL_some.mp hh; clear hh; obtain ⟨x, t, rfl, hh⟩ := hz
    exact W.lcmp hx hb hd (IH hh rl H locs cells slots hl r hS hc hs)
  case h_28 =>
    obtain rfl : len = 1 := by simpa [iln] using hlen
    intro rl H locs cells slots hl r hS hc hs
    have hz := popI_some.mp hh; clear hh; obtain ⟨x, t, rfl, hh⟩ := hz
    exact lv_i2l hx hb hd rfl (IH hh rl H locs cells slots hl r hS hc hs)
  case h_29 => -- dup
    obtain rfl : len = 1 := by simpa [iln] using hlen
    intro rl H locs cells slots hl r hS hc hs
    have hz := pop1_some.mp hh; clear hh; obtain ⟨v, t, rfl, hh⟩ := hz
    obtain ⟨g1, hh⟩ := gd_some.mp hh
    exact lv_dup hx hb hd (by rw [rv_cat]; exact g1) (IH hh rl H locs cells slots hl r hS hc hs)
  case h_30 =>
    obtain rfl : len = 1 := by simpa [iln] using hlen
    intro rl H locs cells slots hl r hS hc hs
    have hz := pop1_some.mp hh; clear hh; obtain ⟨v, t, rfl, hh⟩ := hz
    have hz := pop1_some.mp hh; clear hh; obtain ⟨u, t, rfl, hh⟩ := hz
    obtain ⟨⟨g1, g2⟩, hh⟩ := gd_some.mp hh
    exact lv_dup2_11 hx hb hd (by rw [rv_cat]; exact g1) (by rw [rv_cat]; exact g2) (IH hh rl H locs cells slots hl r hS hc hs)
  case h_31 =>
    obtain rfl : len = 1 := by simpa [iln] using hlen
    intro rl H locs cells slots hl r hS hc hs
    have hz := pop1_some.mp hh; clear hh; obtain ⟨v, t, rfl, hh⟩ := hz
    obtain ⟨g1, hh⟩ := gd_some.mp hh
    exact lv_pop hx hb hd (by rw [rv_cat]; exact g1) (IH hh rl H locs cells slots hl r hS hc hs)
  case h_32 =>
    obtain rfl : len = 3 := by simpa [iln] using hlen
    intro rl H locs cells slots hl r hS hc hs
    obtain ⟨q, e1, hh⟩ := jmp_some.mp hh
    exact lv_goto hx hb hd e1 (IH hh rl H locs cells slots hl r hS hc hs)
  case h_33 => -- ifCond
    rename_i cc off
    obtain rfl : len = 3 := by simpa [iln] using hlen
    intro rl H locs cells slots hl r hS hc hs
    have hz := popI_some.mp hh; clear hh; obtain ⟨x, t, rfl, hh⟩ := hz
    obtain ⟨q, e1, hh⟩ := jmp_some.mp hh
    have hh := brc_some.mp hh
    cases cc
    · exact lv_if_eq hx hb hd e1 (fun z => IH (hh.1 z) rl H locs cells slots hl r hS hc hs) (fun z => IH (hh.2 z) rl H locs cells slots hl r hS hc hs)
    · exact lv_if_ne hx hb hd e1 (fun z => IH (hh.1 z) rl H locs cells slots hl r hS hc hs) (fun z => IH (hh.2 (fun q => q z)) rl H locs cells slots hl r hS hc hs)
    · exact lv_if_lt hx hb hd e1 (fun z => IH (hh.1 z) rl H locs cells slots hl r hS hc hs) (fun z => IH (hh.2 z) rl H locs cells slots hl r hS hc hs)
    · exact lv_if_ge hx hb hd e1 (fun z => IH (hh.1 z) rl H locs cells slots hl r hS hc hs) (fun z => IH (hh.2 z) rl H locs cells slots hl r hS hc hs)
    · exact lv_if_gt hx hb hd e1 (fun z => IH (hh.1 z) rl H locs cells slots hl r hS hc hs) (fun z => IH (hh.2 z) rl H locs cells slots hl r hS hc hs)
    · exact lv_if_le hx hb hd e1 (fun z => IH (hh.1 z) rl H locs cells slots hl r hS hc hs) (fun z => IH (hh.2 z) rl H locs cells slots hl r hS hc hs)
  case h_34 => -- if_icmp
    rename_i cc off
    obtain rfl : len = 3 := by simpa [iln] using hlen
    intro rl H locs cells slots hl r hS hc hs
    have hz := popI_some.mp hh; clear hh; obtain ⟨x2, t, rfl, hh⟩ := hz
    have hz := popI_some.mp hh; clear hh; obtain ⟨x, t, rfl, hh⟩ := hz
    obtain ⟨q, e1, hh⟩ := jmp_some.mp hh
    have hh := brc_some.mp hh
    cases cc
    · exact lv_icmp_eq hx hb hd e1 (fun z => IH (hh.1 z) rl H locs cells slots hl r hS hc hs) (fun z => IH (hh.2 z) rl H locs cells slots hl r hS hc hs)
    · exact lv_icmp_ne hx hb hd e1 (fun z => IH (hh.1 z) rl H locs cells slots hl r hS hc hs) (fun z => IH (hh.2 (fun q => q z)) rl H locs cells slots hl r hS hc hs)
    · exact lv_icmp_lt hx hb hd e1 (fun z => IH (hh.1 z) rl H locs cells slots hl r hS hc hs) (fun z => IH (hh.2 z) rl H locs cells slots hl r hS hc hs)
    · exact lv_icmp_ge hx hb hd e1 (fun z => IH (hh.1 z) rl H locs cells slots hl r hS hc hs) (fun z => IH (hh.2 z) rl H locs cells slots hl r hS hc hs)
    · exact lv_icmp_gt hx hb hd e1 (fun z => IH (hh.1 z) rl H locs cells slots hl r hS hc hs) (fun z => IH (hh.2 z) rl H locs cells slots hl r hS hc hs)
    · exact lv_icmp_le hx hb hd e1 (fun z => IH (hh.1 z) rl H locs cells slots hl r hS hc hs) (fun z => IH (hh.2 z) rl H locs cells slots hl r hS hc hs)
  case h_35 => -- tableswitch
    rename_i d lo hi offs
    intro rl H locs cells slots hl r hS hc hs
    have hz := popI_some.mp hh; clear hh; obtain ⟨x, t, rfl, hh⟩ := hz
    have hh := brc_some.mp hh
    by_cases hout : x.toInt < lo ∨ hi < x.toInt
    · obtain ⟨q, e1, hh⟩ := jmp_some.mp (hh.1 hout)
      exact lv_tableOut hx hb hd hout e1 (IH hh rl H locs cells slots hl r hS hc hs)
    · have hh := hh.2 hout
      split at hh
      · next off he =>
        obtain ⟨q, e1, hh⟩ := jmp_some.mp hh
        exact lv_tableIn hx hb hd (fun z => hout (Or.inl z)) (fun z => hout (Or.inr z)) he e1 (IH hh rl H locs cells slots hl r hS hc hs)
      · cases hh
  case h_36 => -- lookupswitch
    intro rl H locs cells slots hl r hS hc hs
    have hz := popI_some.mp hh; clear hh; obtain ⟨x, t, rfl, hh⟩ := hz
    obtain ⟨g1, hh⟩ := gd_some.mp hh
    obtain ⟨q, e1, hh⟩ := jmp_some.mp hh
    exact lv_lookup hx hb hd g1 rfl e1 (IH hh rl H locs cells slots hl r hS hc hs)
  case h_37 => -- getfield
    obtain rfl : len = 3 := by simpa [iln] using hlen
    intro rl H locs cells slots hl r hS hc hs
    split at hh
    · next ci k pl he =>
      have hz := popR_some.mp hh; clear hh; obtain ⟨a, t, rfl, hh⟩ := hz
      obtain ⟨⟨g1, g2⟩, hh⟩ := gd_some.mp hh
      exact sm_get hx hb hown hts hK r he g1 g2 hd (IH hh rl H locs cells slots hl r hS hc hs)
    · cases hh
  case h_38 => -- putfield
    obtain rfl : len = 3 := by simpa [iln] using hlen
    intro rl H locs cells slots hl r hS hc hs
    split at hh
    · next ci k pl he =>
      have hz := pop1_some.mp hh; clear hh; obtain ⟨v, t, rfl, hh⟩ := hz
      have hz := popR_some.mp hh; clear hh; obtain ⟨a, t, rfl, hh⟩ := hz
      unfold putI at hh
      simp only [gd_some] at hh
      obtain ⟨g0, ⟨g1, g2⟩, hh⟩ := hh
      obtain ⟨hci, -⟩ := res_f he
      have hty := chG_ty hci g2
      split at hh
      · next k0 =>
        have hz := asI_some.mp hh; clear hh; obtain ⟨x, rfl, hh⟩ := hz
        have ht : tyN ci k = .int := by rcases hty with q | q | q | q <;> first | exact q.2 | (exfalso; omega)
        refine sm_put (h' := (u2 h.1 a k x, h.2.1, h.2.2)) (v := .int x) hx hb hown hts hK hin r hS he g0 g1 g2 hd (by rw [ht]; rfl) (by rw [ht]; rfl) (fun j hj => ?_) ?_ (fun c' hc' j => ⟨by simp [u2, hc'], rfl, rfl⟩) (fun H1 locs1 r1 hS1 => IH hh rl H1 locs1 cells slots hl r1 hS1 hc hs)
        · simp [rdF, u2, hj]
        · simp [rdF, u2, k0]
      · split at hh
        · next k0 =>
          have hz := asI_some.mp hh; clear hh; obtain ⟨x, rfl, hh⟩ := hz
          obtain ⟨g5, hh⟩ := gd_some.mp hh
          have ht : tyN ci k = .boolean := by rcases hty with q | q | q | q <;> first | exact q.2 | (exfalso; omega)
          refine sm_put (h' := (u2 h.1 a k x, h.2.1, h.2.2)) (v := .int x) hx hb hown hts hK hin r hS he g0 g1 g2 hd (by rw [ht]; rcases g5 with rfl | rfl <;> rfl) (by rw [ht]; rcases g5 with rfl | rfl <;> rfl) (fun j hj => ?_) ?_ (fun c' hc' j => ⟨by simp [u2, hc'], rfl, rfl⟩) (fun H1 locs1 r1 hS1 => IH hh rl H1 locs1 cells slots hl r1 hS1 hc hs)
          · simp [rdF, u2, hj]
          · simp [rdF, u2, k0]
        · split at hh
          · next k0 =>
            have hz := asL_some.mp hh; clear hh; obtain ⟨x, rfl, hh⟩ := hz
            have ht : tyN ci k = .long := by rcases hty with q | q | q | q <;> first | exact q.2 | (exfalso; omega)
            refine sm_put (h' := (h.1, h.2.1, u2 h.2.2 a k x)) (v := .long x) hx hb hown hts hK hin r hS he g0 g1 g2 hd (by rw [ht]; rfl) (by rw [ht]; rfl) (fun j hj => ?_) ?_ (fun c' hc' j => ⟨rfl, rfl, by simp [u2, hc']⟩) (fun H1 locs1 r1 hS1 => IH hh rl H1 locs1 cells slots hl r1 hS1 hc hs)
            · simp [rdF, u2, hj]
            · simp [rdF, u2, k0]
          · split at hh
            · next k0 =>
              have hz := asR_some.mp hh; clear hh; obtain ⟨x, rfl, hh⟩ := hz
              have ht : (∃ C, tyN ci k = .object C) ∨ (∃ t, tyN ci k = .array t) := by rcases hty with q | q | q | q <;> first | exact q.2 | (exfalso; omega)
              refine sm_put (h' := (h.1, u2 h.2.1 a k (some x), h.2.2)) (v := .ref x) hx hb hown hts hK hin r hS he g0 g1 g2 hd (by rcases ht with ⟨C', ht⟩ | ⟨C', ht⟩ <;> rw [ht] <;> rfl) (by rcases ht with ⟨C', ht⟩ | ⟨C', ht⟩ <;> rw [ht] <;> rfl) (fun j hj => ?_) ?_ (fun c' hc' j => ⟨rfl, by simp [u2, hc'], rfl⟩) (fun H1 locs1 r1 hS1 => IH hh rl H1 locs1 cells slots hl r1 hS1 hc hs)
              · simp [rdF, u2, hj]
              · simp [rdF, u2, k0, va_rf]
            · cases hh
    · cases hh
  case h_39 => -- iaload
    obtain rfl : len = 1 := by simpa [iln] using hlen
    intro rl H locs cells slots hl r hS hc hs
    have hz := popI_some.mp hh; clear hh; obtain ⟨i, t, rfl, hh⟩ := hz
    have hz := popR_some.mp hh; clear hh; obtain ⟨a, t, rfl, hh⟩ := hz
    obtain ⟨g1, hh⟩ := gd_some.mp hh
    obtain ⟨g2, hh⟩ := gdv_some.mp hh
    exact sm_iald hx hb hK r hX hbl hbs hS g1 g2 hd (IH hh rl H locs cells slots hl r hS hc hs)
  case h_40 => -- iastore
    obtain rfl : len = 1 := by simpa [iln] using hlen
    intro rl H locs cells slots hl r hS hc hs
    have hz := popI_some.mp hh; clear hh; obtain ⟨x, t, rfl, hh⟩ := hz
    have hz := popI_some.mp hh; clear hh; obtain ⟨i, t, rfl, hh⟩ := hz
    have hz := popR_some.mp hh; clear hh; obtain ⟨a, t, rfl, hh⟩ := hz
    obtain ⟨⟨g1, g0⟩, hh⟩ := gd_some.mp hh
    obtain ⟨g2, hh⟩ := gdv_some.mp hh
    exact sm_iast hx hb hK r hS g1 g0 g2 hd (fun H1 locs1 r1 hS1 => IH hh rl H1 locs1 cells slots hl r1 hS1 hc hs)
  case h_41 => -- aaload
    obtain rfl : len = 1 := by simpa [iln] using hlen
    intro rl H locs cells slots hl r hS hc hs
    have hz := popI_some.mp hh; clear hh; obtain ⟨i, t, rfl, hh⟩ := hz
    have hz := popR_some.mp hh; clear hh; obtain ⟨a, t, rfl, hh⟩ := hz
    obtain ⟨g1, hh⟩ := gd_some.mp hh
    obtain ⟨g2, hh⟩ := gdv_some.mp hh
    exact sm_aald hx hb hK r g1 g2 hd (IH hh rl H locs cells slots hl r hS hc hs)
  case h_42 => -- aastore
    obtain rfl : len = 1 := by simpa [iln] using hlen
    intro rl H locs cells slots hl r hS hc hs
    have hz := popR_some.mp hh; clear hh; obtain ⟨x, t, rfl, hh⟩ := hz
    have hz := popI_some.mp hh; clear hh; obtain ⟨i, t, rfl, hh⟩ := hz
    have hz := popR_some.mp hh; clear hh; obtain ⟨a, t, rfl, hh⟩ := hz
    obtain ⟨⟨g1, g0⟩, hh⟩ := gd_some.mp hh
    obtain ⟨g2, hh⟩ := gdv_some.mp hh
    exact sm_aast hx hb hK r hS g1 g0 g2 hd (fun H1 locs1 r1 hS1 => IH hh rl H1 locs1 cells slots hl r1 hS1 hc hs)
  case h_43 => -- arraylength
    obtain rfl : len = 1 := by simpa [iln] using hlen
    intro rl H locs cells slots hl r hS hc hs
    have hz := popR_some.mp hh; clear hh; obtain ⟨a, t, rfl, hh⟩ := hz
    obtain ⟨g1, hh⟩ := gd_some.mp hh
    exact sm_alen hx hb hK r hX hbl hbs hS g1 hd (IH hh rl H locs cells slots hl r hS hc hs)
  case h_44 => -- new
    obtain rfl : len = 3 := by simpa [iln] using hlen
    intro rl H locs cells slots hl r hS hc hs
    split at hh
    · next ci pls he =>
      obtain ⟨p1, p2, p3⟩ := pls
      have hg := hge _ _ _ _ _ _ o.1 o.2.1 o.2.2 hh
      have hr1 := hret.1
      have hr2 := hret.2.1
      simp only [alc] at hg
      exact sm_new hx hb hown hts hK r hS hsz hc he (by omega) (by omega) hd (fun H1 r1 hS1 => IH hh rl H1 locs (cells + 1) (slots + nfOf ci) hl r1 hS1 (by simp only [alc]; omega) (by simp only [alc]; omega))
    · cases hh
  case h_45 => -- newarray
    obtain rfl : len = 2 := by simpa [iln] using hlen
    intro rl H locs cells slots hl r hS hc hs
    have hz := popI_some.mp hh; clear hh; obtain ⟨n, t, rfl, hh⟩ := hz
    obtain ⟨⟨g1, g2⟩, hh⟩ := gd_some.mp hh
    have hg := hge _ _ _ _ _ _ o.1 o.2.1 o.2.2 hh
    have hr1 := hret.1
    have hr2 := hret.2.1
    simp only [alc] at hg
    exact sm_newa hx hb hts hK r hS hsz hc g1 g2 (by omega) (by omega) hd (fun H1 r1 hS1 => IH hh rl H1 locs (cells + 1) (slots + n.toNatClampNeg) hl r1 hS1 (by simp only [alc]; omega) (by simp only [alc]; omega))
  case h_46 => -- anewarray
    obtain rfl : len = 3 := by simpa [iln] using hlen
    intro rl H locs cells slots hl r hS hc hs
    split at hh
    · next ci pls he =>
      obtain ⟨p1, p2, p3⟩ := pls
      have hz := popI_some.mp hh; clear hh; obtain ⟨n, t, rfl, hh⟩ := hz
      obtain ⟨⟨g1, g2, g3⟩, hh⟩ := gd_some.mp hh
      have hg := hge _ _ _ _ _ _ o.1 o.2.1 o.2.2 hh
      have hr1 := hret.1
      have hr2 := hret.2.1
      simp only [alc] at hg
      exact sm_newq hx hb hown hts hK r hS hsz hc he g3 g1 g2 (by omega) (by omega) hd (fun H1 r1 hS1 => IH hh rl H1 locs (cells + 1) (slots + n.toNatClampNeg) hl r1 hS1 (by simp only [alc]; omega) (by simp only [alc]; omega))
    · cases hh
  case h_47 =>
    obtain rfl : len = 3 := by simpa [iln] using hlen
    exact snd_inv ih hge C hret hh (fun _ => hd) (fun q => by omega) (fun q => by omega)
  case h_48 =>
    obtain rfl : len = 3 := by simpa [iln] using hlen
    exact snd_inv ih hge C hret hh (fun q => by omega) (fun _ => hd) (fun q => by omega)
  case h_49 =>
    obtain rfl : len = 3 := by simpa [iln] using hlen
    exact snd_inv ih hge C hret hh (fun q => by omega) (fun q => by omega) (fun _ => hd)
  case h_50 => -- ireturn
    obtain rfl : len = 1 := by simpa [iln] using hlen
    intro rl H locs cells slots hl r hS hc hs
    split at hh
    · next x =>
      have hh := rok_some.mp hh
      by_cases hk : rOK (m_rt y) x
      · have := hh.1 hk
        cases this
        exact hret.2.2 pc rl H locs cells slots ⟨hd, hk⟩ r hS hc hs
      · cases hh.2 hk
    · cases hh
  case h_51 => -- lreturn
    obtain rfl : len = 1 := by simpa [iln] using hlen
    intro rl H locs cells slots hl r hS hc hs
    split at hh
    · next x =>
      obtain ⟨g1, hh⟩ := gd_some.mp hh
      cases hh
      exact hret.2.2 pc rl H locs cells slots ⟨hd, g1⟩ r hS hc hs
    · cases hh
  case h_52 => -- return
    obtain rfl : len = 1 := by simpa [iln] using hlen
    intro rl H locs cells slots hl r hS hc hs
    split at hh
    · obtain ⟨g1, hh⟩ := gd_some.mp hh
      cases hh
      exact hret.2.2 pc rl H locs cells slots ⟨hd, g1⟩ r hS hc hs
    · cases hh
  case h_53 => cases hh
end SS
theorem snd_xc {l : Launch} {b base L : Nat} {xs : Nat → Int32} {D : va_G} {dA : Nat → ClassId} : ∀ n, Snd l b base L xs D dA (xc n)
  | 0 => fun _ _ _ _ _ _ _ _ _ _ _ _ _ _ _ _ _ _ _ _ h => by cases h
  | n + 1 => by
    intro y p e R s m args below meth c Q n0 s0 C pc ls st w h o hh hret
    have hh : stp (xc n) y pc ls st w h = some o := hh
    unfold stp at hh
    split at hh
    · next i len hd =>
      obtain ⟨g1, hh⟩ := gd_some.mp hh
      exact snd_stq (snd_xc n) (xc_ge n) C hret hd g1 hh
    · cases hh
end
section
/-! THE CLAIM OUT OF ONE WALK OF THE LAW'S BODY. Your part is whole_start (and what it stands on); all else here is the same for every law, but numbers. -/
def R_law : String := "PaintedLinesLaw"
def lw_P (b : Addr) (xs : List Int32) (args : Array Value) (s : State) : Prop := args = #[.ref b] ∧ s.IntsAt b xs ∧ xs.length ≤ 2048 ∧ (Jvm.Cond.and given_1 narrow_1).before args s = true
def lw_Q (_ : Array Value) (s : State) (o : Outcome) (t : State) : Prop := o = .returned (some (.int 1)) ∧ Framed s o t [] 600000 7302250
def lw_Z (below : List Frame) (a : Array Value) (s : State) : State → Prop := fun t => ∃ o, t.status = .running ∧ Ended t below o ∧ lw_Q a s o t
/-- the law's own end, with 1 on the stack, nothing written that was there before, its room as the claim has it -/
theorem lw_ret {p : Program} {l : Launch} {e : Env} {s : State} {m : MethodId} {below : List Frame} {meth : Method} {c : Code} {b : Nat} (hx : p.tables.exec = Jvm.exec) (hb : c.code = code) (hr : meth.sig.returnType = ret) (hlocks : meth.locks = false) {pc : Nat} {H : Heap} {ls : Array Slot} (hdg : decode code pc = .ok (.ireturn, 1)) : W p l e room_1 s m #[Value.ref b] below meth c H [] 600000 7302250 (lw_Z below #[Value.ref b] s) (F0 m pc ls [.int 1]) := by
  intro T hT X
  obtain ⟨fs, hret, hrun, hended, hW, hframe⟩ := X.leave (v := some (.int 1)) (hlocks := hlocks) (fun h => by rw [hr] at h; cases h)
  have hmeth' : T.vm.method? m = some meth := X.method'
  refine ⟨T.setFrames fs, ?_, .returned (some (.int 1)), hrun, hended, rfl, ⟨_, rfl⟩, hW, hframe⟩
  jvm_step X.here [X.here.top, hx, hb, hdg, hmeth', hr, ret, narrow_b1]
  (try refine ⟨rfl, ?_⟩); (try refine ⟨rfl, ?_⟩)
  first | (intro acts; rw [hret _ acts rfl rfl rfl]) | rw [hret _ _ rfl rfl rfl]
  exact Steps.refl _
/-- what holds at the law's entry: the machine, the code, the tables' words (any of lw_tbl by 'hts w (by decide +kernel)'), the script of L ints xs at the cell b, what the Statement gives of the start (any of its parts by flat_of_before) -/
def lw_At (p : Program) (s : State) (m : MethodId) (meth : Method) (c : Code) (b L : Nat) (xs : Nat → Int32) : Prop :=
  p.tables.exec = Jvm.exec ∧ c.code = code ∧ meth.sig.returnType = ret ∧ c.maxLocals = 4 ∧ s.vm.findClass R_law = some m.cls ∧ (∀ w ∈ lw_tbl, w.before #[Value.ref b] s = true) ∧ va_X b L xs s s.heap ∧ b < s.heap.size ∧ meth.locks = false ∧ (Jvm.Cond.and given_1 narrow_1).before #[Value.ref b] s = true

def iP : List Nat := [227, 234, 93, 86, 184, 65, 167, 101, 150, 57, 604]
set_option maxRecDepth 100000 in
theorem iP_ok : ∀ ci, ci < 11 → lw_tbl[iP.getD ci 0]? = some (.instantiable (Rn ci) (nfOf ci)) := by decide +kernel
/-! ===== the law's entry in the small machine ===== -/
def w0 (L : Nat) : WS := (fun a => if a = 0 then (20, L) else (99, 0), 0, 0)
def h0 (xs : Nat → Int32) : HS := (fun a j => if a = 0 then xs j else 0, fun _ _ => none, fun _ _ => 0)
/-- WHAT IS LEFT: on every script the law's run in the small machine ends with 1 -/
def MiniLaw : Prop := ∀ (L : Nat) (xs : Nat → Int32), L ≤ 2048 → ∃ (n : Nat) (w' : WS) (h' : HS), xc n mL_law 0 [.ref 0, .null, .null, .null] [] (w0 L) (h0 xs) = some (some (.int 1), w', h') ∧ w'.2.1 ≤ 600000 ∧ w'.2.2 ≤ 7302250
theorem arr_ex {s : State} {args : Array Value} (hts : ∀ w ∈ lw_tbl, w.before args s = true) : ∃ dA : Nat → ClassId, ∀ (k : Nat) (q : ClassId × FieldType), ([(dA 0, .int), (dA 1, .object RX2), (dA 2, .object RX5), (dA 3, .object RX1)] : List (ClassId × FieldType))[k]? = some q → ArrOfT s q.1 q.2 ∧ va_RA s q.1 q.2 := by
  obtain ⟨cI, kI, compI, a1, a2, a3⟩ := Cond.arrayClass_spec (hts _ (List.mem_filter.mp w_arI).1)
  have ro : ∀ {C : String}, Cond.arrayOver (.object C) ∈ lw_tbl → ∃ cA, ArrOfT s cA (.object C) ∧ va_RA s cA (.object C) := by
    intro C hC
    obtain ⟨comp, cA, kA, f1, f2, f3, f4, f5⟩ := Cond.arrayOver_spec (hts _ hC)
    exact ⟨cA, fun n z => ⟨fun k h => (by cases h), kA, f3, comp, f4⟩, kA, comp, f3, f4, f1, f5⟩
  obtain ⟨c2, r2⟩ := ro w_ar2
  obtain ⟨c5, r5⟩ := ro w_ar5
  obtain ⟨c1, r1⟩ := ro w_ar1
  refine ⟨fun k => if k = 0 then cI else if k = 1 then c2 else if k = 2 then c5 else c1, ?_⟩
  intro k q hq
  match k, hq with
  | 0, hq => cases hq; exact ⟨fun n z => ⟨fun k h => (by cases h), kI, a2, compI, a3⟩, a1⟩
  | 1, hq => cases hq; exact r2
  | 2, hq => cases hq; exact r5
  | 3, hq => cases hq; exact r1
  | k + 4, hq => simp at hq
theorem cls_ex {s : State} {args : Array Value} (hts : ∀ w ∈ lw_tbl, w.before args s = true) : ∃ (dC : Nat → ClassId) (dI : Nat → Nat → Nat), ∀ (k : Nat) (q : vw_C), vwCl[k]? = some q → u_Kn s q.1 q.2.1 q.2.2 (dC k) (dI k) := by
  have hts2 : ∀ w ∈ tb, w.before args s = true := fun w hw => hts w (List.mem_filter.mp hw).1
  have h : ∀ ci : Nat, ∃ q : ClassId × (Nat → Nat), ci < 11 → u_Kn s (Rn ci) (Tn ci) (nfOf ci) q.1 q.2 := by
    intro ci
    by_cases hc : ci < 11
    · obtain ⟨c, i, hk⟩ := u_known (C := Rn ci) (T := Tn ci) (N := nfOf ci) (n := nfOf ci) hts2 (in_ws hc) (hts _ (List.mem_of_getElem? (iP_ok ci hc)))
      exact ⟨(c, i), fun _ => hk⟩
    · exact ⟨(0, fun _ => 0), fun q => absurd q hc⟩
  refine ⟨fun k => (Classical.choose (h k)).1, fun k => (Classical.choose (h k)).2, ?_⟩
  intro k q hq
  have hk : k < 11 := (List.getElem?_eq_some_iff.mp hq).1
  have := Classical.choose_spec (h k) hk
  rw [vw_at k hk] at hq
  cases hq
  exact this
set_option maxHeartbeats 4000000 in
theorem whole_start_of (hM : MiniLaw) {p : Program} {e : Env} {s : State} {m : MethodId} {below : List Frame} {meth : Method} {c : Code} (l : Launch) {b L : Nat} {xs : Nat → Int32} (hL : L ≤ 2048) (C0 : lw_At p s m meth c b L xs) : W p l e room_1 s m #[Value.ref b] below meth c s.heap [] 0 0 (lw_Z below #[Value.ref b] s) (entryFrame m ([Value.ref b] : List Value).toArray 4) := by
  obtain ⟨hx, hb, hr, hml, hown, hts, hX, hbl, hlocks, hgv⟩ := id C0
  obtain ⟨n, w', h', hrun, hc1, hs1⟩ := hM L xs hL
  obtain ⟨dA, hdA⟩ := arr_ex hts
  obtain ⟨dC, dI, hdC⟩ := cls_ex hts
  have hts2 : ∀ w ∈ tb, w.before #[Value.ref b] s = true := fun w hw => hts w (List.mem_filter.mp hw).1
  have hK : KK (dC, dI) dA s := ⟨⟨hdC, hdA⟩, fun q hq => va_Nw.of rfl (hts _ (nest_in q hq)), va_AO.of (hts _ w_ar2), va_AO.of (hts _ w_ar5), va_AO.of (hts _ w_ar1)⟩
  have C : Cx b s.heap.size L xs (dC, dI) dA 0 p room_1 s m #[Value.ref b] meth c mL_law := ⟨hx, hb, hml, hown, hts2, hK, (fun q => absurd q (by decide)), Nat.le_of_ble_eq_true rfl, Nat.le_of_ble_eq_true rfl, rfl, hbl, hX⟩
  have hP0 : RP b s.heap.size L xs (dC, dI) dA (w0 L) (h0 xs) s.heap := by
    refine ⟨fun k q hq => ?_, rfl, fun j => rfl, fun a ha => ?_⟩
    · simp [wsO, w0] at hq
    · have ha : 0 < a := ha
      have h1 : ¬ a = 0 := by omega
      exact ⟨if_neg h1, fun k => ⟨if_neg h1, rfl, rfl⟩⟩
  have hl : LR b s.heap.size ((lg_sl ([Value.ref b] : List Value) ++ List.replicate (4 - (lg_sl ([Value.ref b] : List Value)).length) Slot.unset).toArray) 4 [.ref 0, .null, .null, .null] := LR.entry (b := b) (base := s.heap.size) (n := 4) (as := [.ref 0]) (by decide)
  rw [lg_entry_eq]
  refine snd_xc n mL_law p e room_1 s m #[Value.ref b] below meth c _ 0 0 C 0 _ [] (w0 L) (h0 xs) _ hrun ⟨?_, ?_, ?_⟩ _ s.heap [] 0 0 hl hP0 va_S.rf rfl rfl
  · show w'.2.1 ≤ 0 + 600000; omega
  · show w'.2.2 ≤ 0 + 7302250; omega
  · intro pc rl H locs cells slots hok hr' hS' hc hs
    dsimp only at hc hs
    refine va_forget (fun q hq => hS'.2.2 q hq) ?_
    refine W.widen (k := 600000) (n := 7302250) (by omega) (by omega) ?_
    exact lw_ret hx hb hr hlocks hok.1
end
