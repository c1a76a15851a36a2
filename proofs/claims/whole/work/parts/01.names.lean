-- ===== PART A: goes FIRST, ahead of the names: the tables' words, and 'selects' of the private methods out of them =====
/-- a private method of a class that the tables say can be made, by its rows of tables_1 -/
def lw_okq (q : MethodName × Nat) : Prop := (q.1.cls ≠ "java/lang/invoke/MethodHandle" ∧ q.1.cls ≠ "java/lang/invoke/VarHandle") ∧ Cond.instantiable q.1.cls q.2 ∈ tables_1 ∧ Cond.privateMethod q.1 ∈ tables_1 ∧ Cond.instanceMethod q.1 ∈ tables_1
theorem lw_p0 : lw_okq (⟨"PaintedLines", "refuse", "(I)I"⟩, 5) := ⟨⟨by decide +kernel, by decide +kernel⟩, List.mem_of_getElem? (i := 15) (by decide +kernel), List.mem_of_getElem? (i := 248) (by decide +kernel), List.mem_of_getElem? (i := 249) (by decide +kernel)⟩
theorem lw_p1 : lw_okq (⟨"PaintedLines$Painter", "paintTillMark", "(LPaintedLines$Line;)V"⟩, 2) := ⟨⟨by decide +kernel, by decide +kernel⟩, List.mem_of_getElem? (i := 142) (by decide +kernel), List.mem_of_getElem? (i := 317) (by decide +kernel), List.mem_of_getElem? (i := 318) (by decide +kernel)⟩
theorem lw_p2 : lw_okq (⟨"PaintedLines$Painter", "paintFrom", "(LPaintedLines$Line;ILPaintedLines$Words;)I"⟩, 2) := ⟨⟨by decide +kernel, by decide +kernel⟩, List.mem_of_getElem? (i := 142) (by decide +kernel), List.mem_of_getElem? (i := 330) (by decide +kernel), List.mem_of_getElem? (i := 331) (by decide +kernel)⟩
theorem lw_p3 : lw_okq (⟨"PaintedLines$Painter", "takeInRemark", "(I)I"⟩, 2) := ⟨⟨by decide +kernel, by decide +kernel⟩, List.mem_of_getElem? (i := 142) (by decide +kernel), List.mem_of_getElem? (i := 345) (by decide +kernel), List.mem_of_getElem? (i := 346) (by decide +kernel)⟩
theorem lw_p4 : lw_okq (⟨"PaintedLines$Painter", "takeInString", "(I)I"⟩, 2) := ⟨⟨by decide +kernel, by decide +kernel⟩, List.mem_of_getElem? (i := 142) (by decide +kernel), List.mem_of_getElem? (i := 357) (by decide +kernel), List.mem_of_getElem? (i := 358) (by decide +kernel)⟩
theorem lw_p5 : lw_okq (⟨"PaintedLines$Painter", "paintName", "(LPaintedLines$Line;ILPaintedLines$Words;)I"⟩, 2) := ⟨⟨by decide +kernel, by decide +kernel⟩, List.mem_of_getElem? (i := 142) (by decide +kernel), List.mem_of_getElem? (i := 368) (by decide +kernel), List.mem_of_getElem? (i := 369) (by decide +kernel)⟩
theorem lw_p6 : lw_okq (⟨"PaintedLines$Painter", "endOfFigures", "(LPaintedLines$Row;I)I"⟩, 2) := ⟨⟨by decide +kernel, by decide +kernel⟩, List.mem_of_getElem? (i := 142) (by decide +kernel), List.mem_of_getElem? (i := 383) (by decide +kernel), List.mem_of_getElem? (i := 384) (by decide +kernel)⟩
theorem lw_p7 : lw_okq (⟨"PaintedLines$Painter", "beginsMark", "(LPaintedLines$Row;I)Z"⟩, 2) := ⟨⟨by decide +kernel, by decide +kernel⟩, List.mem_of_getElem? (i := 142) (by decide +kernel), List.mem_of_getElem? (i := 387) (by decide +kernel), List.mem_of_getElem? (i := 388) (by decide +kernel)⟩
theorem lw_p8 : lw_okq (⟨"PaintedLines$Painter", "takeInCode", "(I)I"⟩, 2) := ⟨⟨by decide +kernel, by decide +kernel⟩, List.mem_of_getElem? (i := 142) (by decide +kernel), List.mem_of_getElem? (i := 394) (by decide +kernel), List.mem_of_getElem? (i := 395) (by decide +kernel)⟩
theorem lw_p9 : lw_okq (⟨"PaintedLines", "digestLine", "(JI)J"⟩, 5) := ⟨⟨by decide +kernel, by decide +kernel⟩, List.mem_of_getElem? (i := 15) (by decide +kernel), List.mem_of_getElem? (i := 553) (by decide +kernel), List.mem_of_getElem? (i := 554) (by decide +kernel)⟩
theorem lw_p10 : lw_okq (⟨"PaintedLinesModel", "refuses", "(I)I"⟩, 18) := ⟨⟨by decide +kernel, by decide +kernel⟩, List.mem_of_getElem? (i := 559) (by decide +kernel), List.mem_of_getElem? (i := 627) (by decide +kernel), List.mem_of_getElem? (i := 628) (by decide +kernel)⟩
theorem lw_p11 : lw_okq (⟨"PaintedLinesModel", "remembers", "()V"⟩, 18) := ⟨⟨by decide +kernel, by decide +kernel⟩, List.mem_of_getElem? (i := 559) (by decide +kernel), List.mem_of_getElem? (i := 639) (by decide +kernel), List.mem_of_getElem? (i := 640) (by decide +kernel)⟩
theorem lw_p12 : lw_okq (⟨"PaintedLinesModel", "opens", "(I)V"⟩, 18) := ⟨⟨by decide +kernel, by decide +kernel⟩, List.mem_of_getElem? (i := 559) (by decide +kernel), List.mem_of_getElem? (i := 643) (by decide +kernel), List.mem_of_getElem? (i := 644) (by decide +kernel)⟩
theorem lw_p13 : lw_okq (⟨"PaintedLinesModel", "moves", "(II)V"⟩, 18) := ⟨⟨by decide +kernel, by decide +kernel⟩, List.mem_of_getElem? (i := 559) (by decide +kernel), List.mem_of_getElem? (i := 647) (by decide +kernel), List.mem_of_getElem? (i := 648) (by decide +kernel)⟩
theorem lw_p14 : lw_okq (⟨"PaintedLinesModel", "takesText", "(I)V"⟩, 18) := ⟨⟨by decide +kernel, by decide +kernel⟩, List.mem_of_getElem? (i := 559) (by decide +kernel), List.mem_of_getElem? (i := 651) (by decide +kernel), List.mem_of_getElem? (i := 652) (by decide +kernel)⟩
theorem lw_p15 : lw_okq (⟨"PaintedLinesModel", "changes", "(II)V"⟩, 18) := ⟨⟨by decide +kernel, by decide +kernel⟩, List.mem_of_getElem? (i := 559) (by decide +kernel), List.mem_of_getElem? (i := 655) (by decide +kernel), List.mem_of_getElem? (i := 656) (by decide +kernel)⟩
def lw_privs_1 : List (MethodName × Nat) := [(⟨"PaintedLines", "refuse", "(I)I"⟩, 5), (⟨"PaintedLines$Painter", "paintTillMark", "(LPaintedLines$Line;)V"⟩, 2), (⟨"PaintedLines$Painter", "paintFrom", "(LPaintedLines$Line;ILPaintedLines$Words;)I"⟩, 2), (⟨"PaintedLines$Painter", "takeInRemark", "(I)I"⟩, 2), (⟨"PaintedLines$Painter", "takeInString", "(I)I"⟩, 2), (⟨"PaintedLines$Painter", "paintName", "(LPaintedLines$Line;ILPaintedLines$Words;)I"⟩, 2), (⟨"PaintedLines$Painter", "endOfFigures", "(LPaintedLines$Row;I)I"⟩, 2), (⟨"PaintedLines$Painter", "beginsMark", "(LPaintedLines$Row;I)Z"⟩, 2), (⟨"PaintedLines$Painter", "takeInCode", "(I)I"⟩, 2), (⟨"PaintedLines", "digestLine", "(JI)J"⟩, 5), (⟨"PaintedLinesModel", "refuses", "(I)I"⟩, 18), (⟨"PaintedLinesModel", "remembers", "()V"⟩, 18), (⟨"PaintedLinesModel", "opens", "(I)V"⟩, 18), (⟨"PaintedLinesModel", "moves", "(II)V"⟩, 18), (⟨"PaintedLinesModel", "takesText", "(I)V"⟩, 18), (⟨"PaintedLinesModel", "changes", "(II)V"⟩, 18)]
theorem lw_r1 : ∀ q ∈ lw_privs_1, lw_okq q := List.forall_mem_cons.mpr ⟨lw_p0, List.forall_mem_cons.mpr ⟨lw_p1, List.forall_mem_cons.mpr ⟨lw_p2, List.forall_mem_cons.mpr ⟨lw_p3, List.forall_mem_cons.mpr ⟨lw_p4, List.forall_mem_cons.mpr ⟨lw_p5, List.forall_mem_cons.mpr ⟨lw_p6, List.forall_mem_cons.mpr ⟨lw_p7, List.forall_mem_cons.mpr ⟨lw_p8, List.forall_mem_cons.mpr ⟨lw_p9, List.forall_mem_cons.mpr ⟨lw_p10, List.forall_mem_cons.mpr ⟨lw_p11, List.forall_mem_cons.mpr ⟨lw_p12, List.forall_mem_cons.mpr ⟨lw_p13, List.forall_mem_cons.mpr ⟨lw_p14, List.forall_mem_cons.mpr ⟨lw_p15, fun _ h => absurd h List.not_mem_nil⟩⟩⟩⟩⟩⟩⟩⟩⟩⟩⟩⟩⟩⟩⟩⟩
theorem lw_p16 : lw_okq (⟨"PaintedLinesModel", "paints", "()V"⟩, 18) := ⟨⟨by decide +kernel, by decide +kernel⟩, List.mem_of_getElem? (i := 559) (by decide +kernel), List.mem_of_getElem? (i := 659) (by decide +kernel), List.mem_of_getElem? (i := 660) (by decide +kernel)⟩
theorem lw_p17 : lw_okq (⟨"PaintedLinesModel", "paintsLine", "()V"⟩, 18) := ⟨⟨by decide +kernel, by decide +kernel⟩, List.mem_of_getElem? (i := 559) (by decide +kernel), List.mem_of_getElem? (i := 663) (by decide +kernel), List.mem_of_getElem? (i := 664) (by decide +kernel)⟩
theorem lw_p18 : lw_okq (⟨"PaintedLinesModel", "paintsMarked", "()V"⟩, 18) := ⟨⟨by decide +kernel, by decide +kernel⟩, List.mem_of_getElem? (i := 559) (by decide +kernel), List.mem_of_getElem? (i := 667) (by decide +kernel), List.mem_of_getElem? (i := 668) (by decide +kernel)⟩
theorem lw_p19 : lw_okq (⟨"PaintedLinesModel", "byteAt", "(I)I"⟩, 18) := ⟨⟨by decide +kernel, by decide +kernel⟩, List.mem_of_getElem? (i := 559) (by decide +kernel), List.mem_of_getElem? (i := 671) (by decide +kernel), List.mem_of_getElem? (i := 672) (by decide +kernel)⟩
theorem lw_p20 : lw_okq (⟨"PaintedLinesModel", "top", "()I"⟩, 18) := ⟨⟨by decide +kernel, by decide +kernel⟩, List.mem_of_getElem? (i := 559) (by decide +kernel), List.mem_of_getElem? (i := 675) (by decide +kernel), List.mem_of_getElem? (i := 676) (by decide +kernel)⟩
theorem lw_p21 : lw_okq (⟨"PaintedLinesModel", "paintsCode", "(I)I"⟩, 18) := ⟨⟨by decide +kernel, by decide +kernel⟩, List.mem_of_getElem? (i := 559) (by decide +kernel), List.mem_of_getElem? (i := 679) (by decide +kernel), List.mem_of_getElem? (i := 680) (by decide +kernel)⟩
theorem lw_p22 : lw_okq (⟨"PaintedLinesModel", "letters", "()I"⟩, 18) := ⟨⟨by decide +kernel, by decide +kernel⟩, List.mem_of_getElem? (i := 559) (by decide +kernel), List.mem_of_getElem? (i := 686) (by decide +kernel), List.mem_of_getElem? (i := 687) (by decide +kernel)⟩
theorem lw_p23 : lw_okq (⟨"PaintedLinesModel", "isWord", "(II)Z"⟩, 18) := ⟨⟨by decide +kernel, by decide +kernel⟩, List.mem_of_getElem? (i := 559) (by decide +kernel), List.mem_of_getElem? (i := 690) (by decide +kernel), List.mem_of_getElem? (i := 691) (by decide +kernel)⟩
theorem lw_p24 : lw_okq (⟨"PaintedLinesModel", "colour", "(II)V"⟩, 18) := ⟨⟨by decide +kernel, by decide +kernel⟩, List.mem_of_getElem? (i := 559) (by decide +kernel), List.mem_of_getElem? (i := 694) (by decide +kernel), List.mem_of_getElem? (i := 695) (by decide +kernel)⟩
theorem lw_p25 : lw_okq (⟨"PaintedLinesModel", "figures", "()I"⟩, 18) := ⟨⟨by decide +kernel, by decide +kernel⟩, List.mem_of_getElem? (i := 559) (by decide +kernel), List.mem_of_getElem? (i := 704) (by decide +kernel), List.mem_of_getElem? (i := 705) (by decide +kernel)⟩
theorem lw_p26 : lw_okq (⟨"PaintedLinesModel", "pushes", "(II)V"⟩, 18) := ⟨⟨by decide +kernel, by decide +kernel⟩, List.mem_of_getElem? (i := 559) (by decide +kernel), List.mem_of_getElem? (i := 708) (by decide +kernel), List.mem_of_getElem? (i := 709) (by decide +kernel)⟩
theorem lw_p27 : lw_okq (⟨"PaintedLinesModel", "comesOn", "(I)Z"⟩, 18) := ⟨⟨by decide +kernel, by decide +kernel⟩, List.mem_of_getElem? (i := 559) (by decide +kernel), List.mem_of_getElem? (i := 712) (by decide +kernel), List.mem_of_getElem? (i := 713) (by decide +kernel)⟩
theorem lw_p28 : lw_okq (⟨"PaintedLinesModel", "goesOff", "()V"⟩, 18) := ⟨⟨by decide +kernel, by decide +kernel⟩, List.mem_of_getElem? (i := 559) (by decide +kernel), List.mem_of_getElem? (i := 716) (by decide +kernel), List.mem_of_getElem? (i := 717) (by decide +kernel)⟩
theorem lw_p29 : lw_okq (⟨"PaintedLinesModel", "paintsRemark", "()V"⟩, 18) := ⟨⟨by decide +kernel, by decide +kernel⟩, List.mem_of_getElem? (i := 559) (by decide +kernel), List.mem_of_getElem? (i := 720) (by decide +kernel), List.mem_of_getElem? (i := 721) (by decide +kernel)⟩
theorem lw_p30 : lw_okq (⟨"PaintedLinesModel", "paintsString", "()V"⟩, 18) := ⟨⟨by decide +kernel, by decide +kernel⟩, List.mem_of_getElem? (i := 559) (by decide +kernel), List.mem_of_getElem? (i := 724) (by decide +kernel), List.mem_of_getElem? (i := 725) (by decide +kernel)⟩
theorem lw_p31 : lw_okq (⟨"PaintedLinesModel", "standing", "()I"⟩, 18) := ⟨⟨by decide +kernel, by decide +kernel⟩, List.mem_of_getElem? (i := 559) (by decide +kernel), List.mem_of_getElem? (i := 728) (by decide +kernel), List.mem_of_getElem? (i := 729) (by decide +kernel)⟩
def lw_privs_2 : List (MethodName × Nat) := [(⟨"PaintedLinesModel", "paints", "()V"⟩, 18), (⟨"PaintedLinesModel", "paintsLine", "()V"⟩, 18), (⟨"PaintedLinesModel", "paintsMarked", "()V"⟩, 18), (⟨"PaintedLinesModel", "byteAt", "(I)I"⟩, 18), (⟨"PaintedLinesModel", "top", "()I"⟩, 18), (⟨"PaintedLinesModel", "paintsCode", "(I)I"⟩, 18), (⟨"PaintedLinesModel", "letters", "()I"⟩, 18), (⟨"PaintedLinesModel", "isWord", "(II)Z"⟩, 18), (⟨"PaintedLinesModel", "colour", "(II)V"⟩, 18), (⟨"PaintedLinesModel", "figures", "()I"⟩, 18), (⟨"PaintedLinesModel", "pushes", "(II)V"⟩, 18), (⟨"PaintedLinesModel", "comesOn", "(I)Z"⟩, 18), (⟨"PaintedLinesModel", "goesOff", "()V"⟩, 18), (⟨"PaintedLinesModel", "paintsRemark", "()V"⟩, 18), (⟨"PaintedLinesModel", "paintsString", "()V"⟩, 18), (⟨"PaintedLinesModel", "standing", "()I"⟩, 18)]
theorem lw_r2 : ∀ q ∈ lw_privs_2, lw_okq q := List.forall_mem_cons.mpr ⟨lw_p16, List.forall_mem_cons.mpr ⟨lw_p17, List.forall_mem_cons.mpr ⟨lw_p18, List.forall_mem_cons.mpr ⟨lw_p19, List.forall_mem_cons.mpr ⟨lw_p20, List.forall_mem_cons.mpr ⟨lw_p21, List.forall_mem_cons.mpr ⟨lw_p22, List.forall_mem_cons.mpr ⟨lw_p23, List.forall_mem_cons.mpr ⟨lw_p24, List.forall_mem_cons.mpr ⟨lw_p25, List.forall_mem_cons.mpr ⟨lw_p26, List.forall_mem_cons.mpr ⟨lw_p27, List.forall_mem_cons.mpr ⟨lw_p28, List.forall_mem_cons.mpr ⟨lw_p29, List.forall_mem_cons.mpr ⟨lw_p30, List.forall_mem_cons.mpr ⟨lw_p31, fun _ h => absurd h List.not_mem_nil⟩⟩⟩⟩⟩⟩⟩⟩⟩⟩⟩⟩⟩⟩⟩⟩
theorem lw_p32 : lw_okq (⟨"PaintedLinesModel", "isLine", "(I)Z"⟩, 18) := ⟨⟨by decide +kernel, by decide +kernel⟩, List.mem_of_getElem? (i := 559) (by decide +kernel), List.mem_of_getElem? (i := 736) (by decide +kernel), List.mem_of_getElem? (i := 737) (by decide +kernel)⟩
theorem lw_p33 : lw_okq (⟨"PaintedLinesModel", "isTextWord", "()Z"⟩, 18) := ⟨⟨by decide +kernel, by decide +kernel⟩, List.mem_of_getElem? (i := 559) (by decide +kernel), List.mem_of_getElem? (i := 760) (by decide +kernel), List.mem_of_getElem? (i := 761) (by decide +kernel)⟩
theorem lw_p34 : lw_okq (⟨"PaintedLinesModel", "isTold", "()Z"⟩, 18) := ⟨⟨by decide +kernel, by decide +kernel⟩, List.mem_of_getElem? (i := 559) (by decide +kernel), List.mem_of_getElem? (i := 764) (by decide +kernel), List.mem_of_getElem? (i := 765) (by decide +kernel)⟩
theorem lw_p35 : lw_okq (⟨"PaintedLinesModel", "byteTold", "(III)I"⟩, 18) := ⟨⟨by decide +kernel, by decide +kernel⟩, List.mem_of_getElem? (i := 559) (by decide +kernel), List.mem_of_getElem? (i := 780) (by decide +kernel), List.mem_of_getElem? (i := 781) (by decide +kernel)⟩
theorem lw_p36 : lw_okq (⟨"PaintedLinesModel", "shadeOf", "(II)I"⟩, 18) := ⟨⟨by decide +kernel, by decide +kernel⟩, List.mem_of_getElem? (i := 559) (by decide +kernel), List.mem_of_getElem? (i := 784) (by decide +kernel), List.mem_of_getElem? (i := 785) (by decide +kernel)⟩
theorem lw_p37 : lw_okq (⟨"PaintedLinesModel", "lineTold", "(II)I"⟩, 18) := ⟨⟨by decide +kernel, by decide +kernel⟩, List.mem_of_getElem? (i := 559) (by decide +kernel), List.mem_of_getElem? (i := 792) (by decide +kernel), List.mem_of_getElem? (i := 793) (by decide +kernel)⟩
theorem lw_p38 : lw_okq (⟨"PaintedLinesModel", "spansOf", "(I)I"⟩, 18) := ⟨⟨by decide +kernel, by decide +kernel⟩, List.mem_of_getElem? (i := 559) (by decide +kernel), List.mem_of_getElem? (i := 802) (by decide +kernel), List.mem_of_getElem? (i := 803) (by decide +kernel)⟩
theorem lw_p39 : lw_okq (⟨"PaintedLinesModel", "begins", "(II)Z"⟩, 18) := ⟨⟨by decide +kernel, by decide +kernel⟩, List.mem_of_getElem? (i := 559) (by decide +kernel), List.mem_of_getElem? (i := 806) (by decide +kernel), List.mem_of_getElem? (i := 807) (by decide +kernel)⟩
theorem lw_p40 : lw_okq (⟨"PaintedLinesModel", "toldOf", "(I)I"⟩, 18) := ⟨⟨by decide +kernel, by decide +kernel⟩, List.mem_of_getElem? (i := 559) (by decide +kernel), List.mem_of_getElem? (i := 830) (by decide +kernel), List.mem_of_getElem? (i := 831) (by decide +kernel)⟩
theorem lw_p41 : lw_okq (⟨"PaintedLinesModel", "mix", "(J)V"⟩, 18) := ⟨⟨by decide +kernel, by decide +kernel⟩, List.mem_of_getElem? (i := 559) (by decide +kernel), List.mem_of_getElem? (i := 839) (by decide +kernel), List.mem_of_getElem? (i := 840) (by decide +kernel)⟩
def lw_privs_3 : List (MethodName × Nat) := [(⟨"PaintedLinesModel", "isLine", "(I)Z"⟩, 18), (⟨"PaintedLinesModel", "isTextWord", "()Z"⟩, 18), (⟨"PaintedLinesModel", "isTold", "()Z"⟩, 18), (⟨"PaintedLinesModel", "byteTold", "(III)I"⟩, 18), (⟨"PaintedLinesModel", "shadeOf", "(II)I"⟩, 18), (⟨"PaintedLinesModel", "lineTold", "(II)I"⟩, 18), (⟨"PaintedLinesModel", "spansOf", "(I)I"⟩, 18), (⟨"PaintedLinesModel", "begins", "(II)Z"⟩, 18), (⟨"PaintedLinesModel", "toldOf", "(I)I"⟩, 18), (⟨"PaintedLinesModel", "mix", "(J)V"⟩, 18)]
theorem lw_r3 : ∀ q ∈ lw_privs_3, lw_okq q := List.forall_mem_cons.mpr ⟨lw_p32, List.forall_mem_cons.mpr ⟨lw_p33, List.forall_mem_cons.mpr ⟨lw_p34, List.forall_mem_cons.mpr ⟨lw_p35, List.forall_mem_cons.mpr ⟨lw_p36, List.forall_mem_cons.mpr ⟨lw_p37, List.forall_mem_cons.mpr ⟨lw_p38, List.forall_mem_cons.mpr ⟨lw_p39, List.forall_mem_cons.mpr ⟨lw_p40, List.forall_mem_cons.mpr ⟨lw_p41, fun _ h => absurd h List.not_mem_nil⟩⟩⟩⟩⟩⟩⟩⟩⟩⟩
def lw_privs : List (MethodName × Nat) := lw_privs_1 ++ (lw_privs_2 ++ (lw_privs_3))
def lw_tbl : List Cond := k2_sels lw_privs ++ tables_1
theorem lw_privs_ok : ∀ q ∈ lw_privs, lw_okq q := by
  show ∀ q ∈ lw_privs_1 ++ (lw_privs_2 ++ (lw_privs_3)), lw_okq q
  exact List.forall_mem_append.mpr ⟨lw_r1, List.forall_mem_append.mpr ⟨lw_r2, lw_r3⟩⟩

-- names, fields, method names (claim/NAMES.whole.lean.txt)
def RX0 : String := "PaintedLines$History"
def TX0 : u_T := fun k => match k with
  | 0 => ("PaintedLines$History", "ring", "[LPaintedLines$Kept;", true)
  | 1 => ("PaintedLines$History", "count", "I", false)
  | _ => ("PaintedLines$History", "next", "I", false)
def tyX0 : Nat → FieldType := fun k => match k with
  | 0 => .array (.object "PaintedLines$Kept")
  | 1 => .int
  | _ => .int
abbrev wsX00 : List Cond := u_ws RX0 TX0 3
theorem nmX0 : ∀ a, a < 3 → ∀ b, b < 3 → a ≠ b → (TX0 a).2.1 ≠ (TX0 b).2.1 := by decide +kernel
theorem tyX0_ok : ∀ k, k < 3 → parseFieldDescriptor (TX0 k).2.2.1 = some (tyX0 k) := by decide +kernel
abbrev cX0_init : ByteArray := prog_2_method_1_code
def yX0_init : MethodName := ⟨RX0, "<init>", "()V"⟩
abbrev cX0_keep : ByteArray := prog_2_method_2_code
def yX0_keep : MethodName := ⟨RX0, "keep", "(LPaintedLines$Page;)V"⟩
abbrev cX0_giveBack : ByteArray := prog_2_method_3_code
def yX0_giveBack : MethodName := ⟨RX0, "giveBack", "(LPaintedLines$Page;)V"⟩
def RX1 : String := "PaintedLines$Kept"
def TX1 : u_T := fun k => match k with
  | 0 => ("PaintedLines$Kept", "rows", "[LPaintedLines$Row;", true)
  | 1 => ("PaintedLines$Kept", "words", "LPaintedLines$Words;", true)
  | 2 => ("PaintedLines$Kept", "rules", "LPaintedLines$Rules;", true)
  | _ => ("PaintedLines$Kept", "count", "I", false)
def tyX1 : Nat → FieldType := fun k => match k with
  | 0 => .array (.object "PaintedLines$Row")
  | 1 => .object "PaintedLines$Words"
  | 2 => .object "PaintedLines$Rules"
  | _ => .int
abbrev wsX10 : List Cond := u_ws RX1 TX1 4
theorem nmX1 : ∀ a, a < 4 → ∀ b, b < 4 → a ≠ b → (TX1 a).2.1 ≠ (TX1 b).2.1 := by decide +kernel
theorem tyX1_ok : ∀ k, k < 4 → parseFieldDescriptor (TX1 k).2.2.1 = some (tyX1 k) := by decide +kernel
abbrev cX1_init : ByteArray := prog_3_method_1_code
def yX1_init : MethodName := ⟨RX1, "<init>", "()V"⟩
abbrev cX1_take : ByteArray := prog_3_method_2_code
def yX1_take : MethodName := ⟨RX1, "take", "(LPaintedLines$Page;)V"⟩
abbrev cX1_give : ByteArray := prog_3_method_3_code
def yX1_give : MethodName := ⟨RX1, "give", "(LPaintedLines$Page;)V"⟩
def RX2 : String := "PaintedLines$Line"
def TX2 : u_T := fun k => match k with
  | 0 => ("PaintedLines$Line", "row", "LPaintedLines$Row;", true)
  | 1 => ("PaintedLines$Line", "colours", "[I", true)
  | 2 => ("PaintedLines$Line", "modes", "[I", true)
  | 3 => ("PaintedLines$Line", "end", "LPaintedLines$State;", true)
  | _ => ("PaintedLines$Line", "isNew", "Z", false)
def tyX2 : Nat → FieldType := fun k => match k with
  | 0 => .object "PaintedLines$Row"
  | 1 => .array .int
  | 2 => .array .int
  | 3 => .object "PaintedLines$State"
  | _ => .boolean
abbrev wsX20 : List Cond := u_ws RX2 TX2 5
theorem nmX2 : ∀ a, a < 5 → ∀ b, b < 5 → a ≠ b → (TX2 a).2.1 ≠ (TX2 b).2.1 := by decide +kernel
theorem tyX2_ok : ∀ k, k < 5 → parseFieldDescriptor (TX2 k).2.2.1 = some (tyX2 k) := by decide +kernel
abbrev cX2_init : ByteArray := prog_4_method_1_code
def yX2_init : MethodName := ⟨RX2, "<init>", "()V"⟩
abbrev cX2_fill : ByteArray := prog_4_method_2_code
def yX2_fill : MethodName := ⟨RX2, "fill", "(IIII)I"⟩
abbrev cX2_countBytes : ByteArray := prog_4_method_3_code
def yX2_countBytes : MethodName := ⟨RX2, "countBytes", "(I)I"⟩
abbrev cX2_beginsSpan : ByteArray := prog_4_method_4_code
def yX2_beginsSpan : MethodName := ⟨RX2, "beginsSpan", "(I)Z"⟩
abbrev cX2_countSpans : ByteArray := prog_4_method_5_code
def yX2_countSpans : MethodName := ⟨RX2, "countSpans", "()I"⟩
abbrev cX2_beginOfSpan : ByteArray := prog_4_method_6_code
def yX2_beginOfSpan : MethodName := ⟨RX2, "beginOfSpan", "(I)I"⟩
abbrev cX2_endOfSpan : ByteArray := prog_4_method_7_code
def yX2_endOfSpan : MethodName := ⟨RX2, "endOfSpan", "(I)I"⟩
def RX3 : String := "PaintedLines$Page"
def TX3 : u_T := fun k => match k with
  | 0 => ("PaintedLines$Page", "lines", "[LPaintedLines$Line;", true)
  | 1 => ("PaintedLines$Page", "words", "LPaintedLines$Words;", true)
  | 2 => ("PaintedLines$Page", "rules", "LPaintedLines$Rules;", true)
  | 3 => ("PaintedLines$Page", "painter", "LPaintedLines$Painter;", true)
  | _ => ("PaintedLines$Page", "count", "I", false)
def tyX3 : Nat → FieldType := fun k => match k with
  | 0 => .array (.object "PaintedLines$Line")
  | 1 => .object "PaintedLines$Words"
  | 2 => .object "PaintedLines$Rules"
  | 3 => .object "PaintedLines$Painter"
  | _ => .int
abbrev wsX30 : List Cond := u_ws RX3 TX3 5
theorem nmX3 : ∀ a, a < 5 → ∀ b, b < 5 → a ≠ b → (TX3 a).2.1 ≠ (TX3 b).2.1 := by decide +kernel
theorem tyX3_ok : ∀ k, k < 5 → parseFieldDescriptor (TX3 k).2.2.1 = some (tyX3 k) := by decide +kernel
abbrev cX3_init : ByteArray := prog_5_method_1_code
def yX3_init : MethodName := ⟨RX3, "<init>", "()V"⟩
abbrev cX3_hasLine : ByteArray := prog_5_method_2_code
def yX3_hasLine : MethodName := ⟨RX3, "hasLine", "(I)Z"⟩
abbrev cX3_hasByte : ByteArray := prog_5_method_3_code
def yX3_hasByte : MethodName := ⟨RX3, "hasByte", "(II)Z"⟩
abbrev cX3_openLine : ByteArray := prog_5_method_4_code
def yX3_openLine : MethodName := ⟨RX3, "openLine", "(I)V"⟩
abbrev cX3_closeLine : ByteArray := prog_5_method_5_code
def yX3_closeLine : MethodName := ⟨RX3, "closeLine", "(I)V"⟩
abbrev cX3_repaint : ByteArray := prog_5_method_6_code
def yX3_repaint : MethodName := ⟨RX3, "repaint", "(II)I"⟩
def RX4 : String := "PaintedLines$Painter"
def TX4 : u_T := fun k => match k with
  | 0 => ("PaintedLines$Painter", "state", "LPaintedLines$State;", true)
  | _ => ("PaintedLines$Painter", "comingMark", "I", false)
def tyX4 : Nat → FieldType := fun k => match k with
  | 0 => .object "PaintedLines$State"
  | _ => .int
abbrev wsX40 : List Cond := u_ws RX4 TX4 2
theorem nmX4 : ∀ a, a < 2 → ∀ b, b < 2 → a ≠ b → (TX4 a).2.1 ≠ (TX4 b).2.1 := by decide +kernel
theorem tyX4_ok : ∀ k, k < 2 → parseFieldDescriptor (TX4 k).2.2.1 = some (tyX4 k) := by decide +kernel
abbrev cX4_init : ByteArray := prog_6_method_1_code
def yX4_init : MethodName := ⟨RX4, "<init>", "()V"⟩
abbrev cX4_paintLine : ByteArray := prog_6_method_2_code
def yX4_paintLine : MethodName := ⟨RX4, "paintLine", "(LPaintedLines$Line;LPaintedLines$Words;)V"⟩
abbrev cX4_paintTillMark : ByteArray := prog_6_method_3_code
def yX4_paintTillMark : MethodName := ⟨RX4, "paintTillMark", "(LPaintedLines$Line;)V"⟩
abbrev cX4_paintFrom : ByteArray := prog_6_method_4_code
def yX4_paintFrom : MethodName := ⟨RX4, "paintFrom", "(LPaintedLines$Line;ILPaintedLines$Words;)I"⟩
abbrev cX4_takeInRemark : ByteArray := prog_6_method_5_code
def yX4_takeInRemark : MethodName := ⟨RX4, "takeInRemark", "(I)I"⟩
abbrev cX4_takeInString : ByteArray := prog_6_method_6_code
def yX4_takeInString : MethodName := ⟨RX4, "takeInString", "(I)I"⟩
abbrev cX4_takeInCode : ByteArray := prog_6_method_7_code
def yX4_takeInCode : MethodName := ⟨RX4, "takeInCode", "(I)I"⟩
abbrev cX4_paintName : ByteArray := prog_6_method_8_code
def yX4_paintName : MethodName := ⟨RX4, "paintName", "(LPaintedLines$Line;ILPaintedLines$Words;)I"⟩
abbrev cX4_endOfFigures : ByteArray := prog_6_method_9_code
def yX4_endOfFigures : MethodName := ⟨RX4, "endOfFigures", "(LPaintedLines$Row;I)I"⟩
abbrev cX4_beginsMark : ByteArray := prog_6_method_10_code
def yX4_beginsMark : MethodName := ⟨RX4, "beginsMark", "(LPaintedLines$Row;I)Z"⟩
def RX5 : String := "PaintedLines$Row"
def TX5 : u_T := fun k => match k with
  | 0 => ("PaintedLines$Row", "signs", "[I", true)
  | _ => ("PaintedLines$Row", "length", "I", false)
def tyX5 : Nat → FieldType := fun k => match k with
  | 0 => .array .int
  | _ => .int
abbrev wsX50 : List Cond := u_ws RX5 TX5 2
theorem nmX5 : ∀ a, a < 2 → ∀ b, b < 2 → a ≠ b → (TX5 a).2.1 ≠ (TX5 b).2.1 := by decide +kernel
theorem tyX5_ok : ∀ k, k < 2 → parseFieldDescriptor (TX5 k).2.2.1 = some (tyX5 k) := by decide +kernel
abbrev cX5_init : ByteArray := prog_7_method_1_code
def yX5_init : MethodName := ⟨RX5, "<init>", "(I)V"⟩
abbrev cX5_signAt : ByteArray := prog_7_method_2_code
def yX5_signAt : MethodName := ⟨RX5, "signAt", "(I)I"⟩
abbrev cX5_copyFrom : ByteArray := prog_7_method_3_code
def yX5_copyFrom : MethodName := ⟨RX5, "copyFrom", "(LPaintedLines$Row;)V"⟩
abbrev cX5_isLike : ByteArray := prog_7_method_4_code
def yX5_isLike : MethodName := ⟨RX5, "isLike", "(LPaintedLines$Row;)Z"⟩
abbrev cX5_holds : ByteArray := prog_7_method_5_code
def yX5_holds : MethodName := ⟨RX5, "holds", "(LPaintedLines$Row;II)Z"⟩
abbrev cX5_put : ByteArray := prog_7_method_6_code
def yX5_put : MethodName := ⟨RX5, "put", "(II)V"⟩
abbrev cX5_erase : ByteArray := prog_7_method_7_code
def yX5_erase : MethodName := ⟨RX5, "erase", "(I)V"⟩
abbrev cX5_moveTail : ByteArray := prog_7_method_8_code
def yX5_moveTail : MethodName := ⟨RX5, "moveTail", "(ILPaintedLines$Row;)V"⟩
def RX6 : String := "PaintedLines$Rules"
def TX6 : u_T := fun k => match k with
  | 0 => ("PaintedLines$Rules", "shades", "[I", true)
  | 1 => ("PaintedLines$Rules", "ranks", "[I", true)
  | _ => ("PaintedLines$Rules", "count", "I", false)
def tyX6 : Nat → FieldType := fun k => match k with
  | 0 => .array .int
  | 1 => .array .int
  | _ => .int
abbrev wsX60 : List Cond := u_ws RX6 TX6 3
theorem nmX6 : ∀ a, a < 3 → ∀ b, b < 3 → a ≠ b → (TX6 a).2.1 ≠ (TX6 b).2.1 := by decide +kernel
theorem tyX6_ok : ∀ k, k < 3 → parseFieldDescriptor (TX6 k).2.2.1 = some (tyX6 k) := by decide +kernel
abbrev cX6_init : ByteArray := prog_8_method_1_code
def yX6_init : MethodName := ⟨RX6, "<init>", "()V"⟩
abbrev cX6_copyFrom : ByteArray := prog_8_method_2_code
def yX6_copyFrom : MethodName := ⟨RX6, "copyFrom", "(LPaintedLines$Rules;)V"⟩
abbrev cX6_add : ByteArray := prog_8_method_3_code
def yX6_add : MethodName := ⟨RX6, "add", "(III)V"⟩
abbrev cX6_shadeOf : ByteArray := prog_8_method_4_code
def yX6_shadeOf : MethodName := ⟨RX6, "shadeOf", "(II)I"⟩
def RX7 : String := "PaintedLines$State"
def TX7 : u_T := fun k => match k with
  | 0 => ("PaintedLines$State", "pile", "[I", true)
  | 1 => ("PaintedLines$State", "depth", "I", false)
  | _ => ("PaintedLines$State", "mark", "I", false)
def tyX7 : Nat → FieldType := fun k => match k with
  | 0 => .array .int
  | 1 => .int
  | _ => .int
abbrev wsX70 : List Cond := u_ws RX7 TX7 3
theorem nmX7 : ∀ a, a < 3 → ∀ b, b < 3 → a ≠ b → (TX7 a).2.1 ≠ (TX7 b).2.1 := by decide +kernel
theorem tyX7_ok : ∀ k, k < 3 → parseFieldDescriptor (TX7 k).2.2.1 = some (tyX7 k) := by decide +kernel
abbrev cX7_init : ByteArray := prog_9_method_1_code
def yX7_init : MethodName := ⟨RX7, "<init>", "()V"⟩
abbrev cX7_begin : ByteArray := prog_9_method_2_code
def yX7_begin : MethodName := ⟨RX7, "begin", "()V"⟩
abbrev cX7_copyFrom : ByteArray := prog_9_method_3_code
def yX7_copyFrom : MethodName := ⟨RX7, "copyFrom", "(LPaintedLines$State;)V"⟩
abbrev cX7_isLike : ByteArray := prog_9_method_4_code
def yX7_isLike : MethodName := ⟨RX7, "isLike", "(LPaintedLines$State;)Z"⟩
abbrev cX7_opener : ByteArray := prog_9_method_5_code
def yX7_opener : MethodName := ⟨RX7, "opener", "(I)I"⟩
abbrev cX7_mode : ByteArray := prog_9_method_6_code
def yX7_mode : MethodName := ⟨RX7, "mode", "()I"⟩
abbrev cX7_quote : ByteArray := prog_9_method_7_code
def yX7_quote : MethodName := ⟨RX7, "quote", "()I"⟩
abbrev cX7_liesInString : ByteArray := prog_9_method_8_code
def yX7_liesInString : MethodName := ⟨RX7, "liesInString", "()Z"⟩
abbrev cX7_open : ByteArray := prog_9_method_9_code
def yX7_open : MethodName := ⟨RX7, "open", "(I)Z"⟩
abbrev cX7_close : ByteArray := prog_9_method_10_code
def yX7_close : MethodName := ⟨RX7, "close", "()V"⟩
abbrev cX7_closeLineStrings : ByteArray := prog_9_method_11_code
def yX7_closeLineStrings : MethodName := ⟨RX7, "closeLineStrings", "()V"⟩
def RX8 : String := "PaintedLines$Words"
def TX8 : u_T := fun k => match k with
  | 0 => ("PaintedLines$Words", "rows", "[LPaintedLines$Row;", true)
  | _ => ("PaintedLines$Words", "count", "I", false)
def tyX8 : Nat → FieldType := fun k => match k with
  | 0 => .array (.object "PaintedLines$Row")
  | _ => .int
abbrev wsX80 : List Cond := u_ws RX8 TX8 2
theorem nmX8 : ∀ a, a < 2 → ∀ b, b < 2 → a ≠ b → (TX8 a).2.1 ≠ (TX8 b).2.1 := by decide +kernel
theorem tyX8_ok : ∀ k, k < 2 → parseFieldDescriptor (TX8 k).2.2.1 = some (tyX8 k) := by decide +kernel
abbrev cX8_init : ByteArray := prog_10_method_1_code
def yX8_init : MethodName := ⟨RX8, "<init>", "()V"⟩
abbrev cX8_copyFrom : ByteArray := prog_10_method_2_code
def yX8_copyFrom : MethodName := ⟨RX8, "copyFrom", "(LPaintedLines$Words;)V"⟩
abbrev cX8_has : ByteArray := prog_10_method_3_code
def yX8_has : MethodName := ⟨RX8, "has", "(LPaintedLines$Row;II)Z"⟩
abbrev cX8_add : ByteArray := prog_10_method_4_code
def yX8_add : MethodName := ⟨RX8, "add", "(LPaintedLines$Row;)V"⟩
abbrev cX8_removeWith : ByteArray := prog_10_method_5_code
def yX8_removeWith : MethodName := ⟨RX8, "removeWith", "(I)I"⟩
def RX9 : String := "PaintedLines"
def TX9 : u_T := fun k => match k with
  | 0 => ("PaintedLines", "text", "LPaintedLines$Row;", true)
  | 1 => ("PaintedLines", "page", "LPaintedLines$Page;", true)
  | 2 => ("PaintedLines", "history", "LPaintedLines$History;", true)
  | 3 => ("PaintedLines", "refused", "[I", true)
  | _ => ("PaintedLines", "anewCount", "I", false)
def tyX9 : Nat → FieldType := fun k => match k with
  | 0 => .object "PaintedLines$Row"
  | 1 => .object "PaintedLines$Page"
  | 2 => .object "PaintedLines$History"
  | 3 => .array .int
  | _ => .int
abbrev wsX90 : List Cond := u_ws RX9 TX9 5
theorem nmX9 : ∀ a, a < 5 → ∀ b, b < 5 → a ≠ b → (TX9 a).2.1 ≠ (TX9 b).2.1 := by decide +kernel
theorem tyX9_ok : ∀ k, k < 5 → parseFieldDescriptor (TX9 k).2.2.1 = some (tyX9 k) := by decide +kernel
abbrev cX9_init : ByteArray := prog_1_method_1_code
def yX9_init : MethodName := ⟨RX9, "<init>", "()V"⟩
abbrev cX9_type : ByteArray := prog_1_method_2_code
def yX9_type : MethodName := ⟨RX9, "type", "(I)I"⟩
abbrev cX9_clear : ByteArray := prog_1_method_3_code
def yX9_clear : MethodName := ⟨RX9, "clear", "()I"⟩
abbrev cX9_inserts : ByteArray := prog_1_method_4_code
def yX9_inserts : MethodName := ⟨RX9, "inserts", "(I)I"⟩
abbrev cX9_sets : ByteArray := prog_1_method_5_code
def yX9_sets : MethodName := ⟨RX9, "sets", "(I)I"⟩
abbrev cX9_drops : ByteArray := prog_1_method_6_code
def yX9_drops : MethodName := ⟨RX9, "drops", "(I)I"⟩
abbrev cX9_puts : ByteArray := prog_1_method_7_code
def yX9_puts : MethodName := ⟨RX9, "puts", "(III)I"⟩
abbrev cX9_erases : ByteArray := prog_1_method_8_code
def yX9_erases : MethodName := ⟨RX9, "erases", "(II)I"⟩
abbrev cX9_splits : ByteArray := prog_1_method_9_code
def yX9_splits : MethodName := ⟨RX9, "splits", "(II)I"⟩
abbrev cX9_word : ByteArray := prog_1_method_10_code
def yX9_word : MethodName := ⟨RX9, "word", "()I"⟩
abbrev cX9_unword : ByteArray := prog_1_method_11_code
def yX9_unword : MethodName := ⟨RX9, "unword", "(I)I"⟩
abbrev cX9_rule : ByteArray := prog_1_method_12_code
def yX9_rule : MethodName := ⟨RX9, "rule", "(III)I"⟩
abbrev cX9_at : ByteArray := prog_1_method_13_code
def yX9_at : MethodName := ⟨RX9, "at", "(III)I"⟩
abbrev cX9_of : ByteArray := prog_1_method_14_code
def yX9_of : MethodName := ⟨RX9, "of", "(II)I"⟩
abbrev cX9_span : ByteArray := prog_1_method_15_code
def yX9_span : MethodName := ⟨RX9, "span", "(III)I"⟩
abbrev cX9_anew : ByteArray := prog_1_method_16_code
def yX9_anew : MethodName := ⟨RX9, "anew", "()I"⟩
abbrev cX9_painted : ByteArray := prog_1_method_17_code
def yX9_painted : MethodName := ⟨RX9, "painted", "(I)I"⟩
abbrev cX9_back : ByteArray := prog_1_method_18_code
def yX9_back : MethodName := ⟨RX9, "back", "()I"⟩
abbrev cX9_told : ByteArray := prog_1_method_19_code
def yX9_told : MethodName := ⟨RX9, "told", "(I)I"⟩
abbrev cX9_digest : ByteArray := prog_1_method_20_code
def yX9_digest : MethodName := ⟨RX9, "digest", "()J"⟩
abbrev cX9_digestLine : ByteArray := prog_1_method_21_code
def yX9_digestLine : MethodName := ⟨RX9, "digestLine", "(JI)J"⟩
abbrev cX9_refuse : ByteArray := prog_1_method_22_code
def yX9_refuse : MethodName := ⟨RX9, "refuse", "(I)I"⟩
abbrev cX9_isByte : ByteArray := prog_1_method_23_code
def yX9_isByte : MethodName := ⟨RX9, "isByte", "(I)Z"⟩
abbrev cX9_isLetter : ByteArray := prog_1_method_24_code
def yX9_isLetter : MethodName := ⟨RX9, "isLetter", "(I)Z"⟩
abbrev cX9_isFigure : ByteArray := prog_1_method_25_code
def yX9_isFigure : MethodName := ⟨RX9, "isFigure", "(I)Z"⟩
abbrev cX9_isCapital : ByteArray := prog_1_method_26_code
def yX9_isCapital : MethodName := ⟨RX9, "isCapital", "(I)Z"⟩
abbrev cX9_isQuote : ByteArray := prog_1_method_27_code
def yX9_isQuote : MethodName := ⟨RX9, "isQuote", "(I)Z"⟩
abbrev cX9_isWordLike : ByteArray := prog_1_method_28_code
def yX9_isWordLike : MethodName := ⟨RX9, "isWordLike", "(LPaintedLines$Row;)Z"⟩
def RX10 : String := "PaintedLinesModel"
def TX10 : u_T := fun k => match k with
  | 0 => ("PaintedLinesModel", "now", "[I", true)
  | 1 => ("PaintedLinesModel", "past", "[I", true)
  | 2 => ("PaintedLinesModel", "states", "I", false)
  | 3 => ("PaintedLinesModel", "refusals", "[I", true)
  | 4 => ("PaintedLinesModel", "text", "[I", true)
  | 5 => ("PaintedLinesModel", "bytes", "I", false)
  | 6 => ("PaintedLinesModel", "anewMany", "I", false)
  | 7 => ("PaintedLinesModel", "colours", "[I", true)
  | 8 => ("PaintedLinesModel", "modes", "[I", true)
  | 9 => ("PaintedLinesModel", "ends", "[I", true)
  | 10 => ("PaintedLinesModel", "endsAhead", "[I", true)
  | 11 => ("PaintedLinesModel", "was", "[I", true)
  | 12 => ("PaintedLinesModel", "pile", "I", false)
  | 13 => ("PaintedLinesModel", "piled", "I", false)
  | 14 => ("PaintedLinesModel", "mark", "I", false)
  | 15 => ("PaintedLinesModel", "line", "I", false)
  | 16 => ("PaintedLinesModel", "place", "I", false)
  | _ => ("PaintedLinesModel", "hash", "J", false)
def tyX10 : Nat → FieldType := fun k => match k with
  | 0 => .array .int
  | 1 => .array .int
  | 2 => .int
  | 3 => .array .int
  | 4 => .array .int
  | 5 => .int
  | 6 => .int
  | 7 => .array .int
  | 8 => .array .int
  | 9 => .array .int
  | 10 => .array .int
  | 11 => .array .int
  | 12 => .int
  | 13 => .int
  | 14 => .int
  | 15 => .int
  | 16 => .int
  | _ => .long
abbrev wsX100 : List Cond := u_ws RX10 TX10 18
theorem nmX10 : ∀ a, a < 18 → ∀ b, b < 18 → a ≠ b → (TX10 a).2.1 ≠ (TX10 b).2.1 := by decide +kernel
theorem tyX10_ok : ∀ k, k < 18 → parseFieldDescriptor (TX10 k).2.2.1 = some (tyX10 k) := by decide +kernel
abbrev cX10_init : ByteArray := prog_12_method_1_code
def yX10_init : MethodName := ⟨RX10, "<init>", "()V"⟩
abbrev cX10_in : ByteArray := prog_12_method_3_code
def yX10_in : MethodName := ⟨RX10, "in", "(III)Z"⟩
abbrev cX10_refuses : ByteArray := prog_12_method_4_code
def yX10_refuses : MethodName := ⟨RX10, "refuses", "(I)I"⟩
abbrev cX10_remembers : ByteArray := prog_12_method_5_code
def yX10_remembers : MethodName := ⟨RX10, "remembers", "()V"⟩
abbrev cX10_top : ByteArray := prog_12_method_6_code
def yX10_top : MethodName := ⟨RX10, "top", "()I"⟩
abbrev cX10_comesOn : ByteArray := prog_12_method_7_code
def yX10_comesOn : MethodName := ⟨RX10, "comesOn", "(I)Z"⟩
abbrev cX10_goesOff : ByteArray := prog_12_method_8_code
def yX10_goesOff : MethodName := ⟨RX10, "goesOff", "()V"⟩
abbrev cX10_standing : ByteArray := prog_12_method_9_code
def yX10_standing : MethodName := ⟨RX10, "standing", "()I"⟩
abbrev cX10_manyOf : ByteArray := prog_12_method_10_code
def yX10_manyOf : MethodName := ⟨RX10, "manyOf", "(I)I"⟩
abbrev cX10_topOf : ByteArray := prog_12_method_11_code
def yX10_topOf : MethodName := ⟨RX10, "topOf", "(I)I"⟩
abbrev cX10_modeOf : ByteArray := prog_12_method_12_code
def yX10_modeOf : MethodName := ⟨RX10, "modeOf", "(I)I"⟩
abbrev cX10_byteAt : ByteArray := prog_12_method_13_code
def yX10_byteAt : MethodName := ⟨RX10, "byteAt", "(I)I"⟩
abbrev cX10_isLetter : ByteArray := prog_12_method_14_code
def yX10_isLetter : MethodName := ⟨RX10, "isLetter", "(I)Z"⟩
abbrev cX10_isFigure : ByteArray := prog_12_method_15_code
def yX10_isFigure : MethodName := ⟨RX10, "isFigure", "(I)Z"⟩
abbrev cX10_colour : ByteArray := prog_12_method_16_code
def yX10_colour : MethodName := ⟨RX10, "colour", "(II)V"⟩
abbrev cX10_pushes : ByteArray := prog_12_method_17_code
def yX10_pushes : MethodName := ⟨RX10, "pushes", "(II)V"⟩
abbrev cX10_isWord : ByteArray := prog_12_method_18_code
def yX10_isWord : MethodName := ⟨RX10, "isWord", "(II)Z"⟩
abbrev cX10_letters : ByteArray := prog_12_method_19_code
def yX10_letters : MethodName := ⟨RX10, "letters", "()I"⟩
abbrev cX10_figures : ByteArray := prog_12_method_20_code
def yX10_figures : MethodName := ⟨RX10, "figures", "()I"⟩
abbrev cX10_paintsCode : ByteArray := prog_12_method_21_code
def yX10_paintsCode : MethodName := ⟨RX10, "paintsCode", "(I)I"⟩
abbrev cX10_paintsString : ByteArray := prog_12_method_22_code
def yX10_paintsString : MethodName := ⟨RX10, "paintsString", "()V"⟩
abbrev cX10_paintsRemark : ByteArray := prog_12_method_23_code
def yX10_paintsRemark : MethodName := ⟨RX10, "paintsRemark", "()V"⟩
abbrev cX10_paintsMarked : ByteArray := prog_12_method_24_code
def yX10_paintsMarked : MethodName := ⟨RX10, "paintsMarked", "()V"⟩
abbrev cX10_paintsLine : ByteArray := prog_12_method_25_code
def yX10_paintsLine : MethodName := ⟨RX10, "paintsLine", "()V"⟩
abbrev cX10_paints : ByteArray := prog_12_method_26_code
def yX10_paints : MethodName := ⟨RX10, "paints", "()V"⟩
abbrev cX10_changes : ByteArray := prog_12_method_27_code
def yX10_changes : MethodName := ⟨RX10, "changes", "(II)V"⟩
abbrev cX10_type : ByteArray := prog_12_method_28_code
def yX10_type : MethodName := ⟨RX10, "type", "(I)I"⟩
abbrev cX10_clear : ByteArray := prog_12_method_29_code
def yX10_clear : MethodName := ⟨RX10, "clear", "()I"⟩
abbrev cX10_isLine : ByteArray := prog_12_method_30_code
def yX10_isLine : MethodName := ⟨RX10, "isLine", "(I)Z"⟩
abbrev cX10_takesText : ByteArray := prog_12_method_31_code
def yX10_takesText : MethodName := ⟨RX10, "takesText", "(I)V"⟩
abbrev cX10_moves : ByteArray := prog_12_method_32_code
def yX10_moves : MethodName := ⟨RX10, "moves", "(II)V"⟩
abbrev cX10_opens : ByteArray := prog_12_method_33_code
def yX10_opens : MethodName := ⟨RX10, "opens", "(I)V"⟩
abbrev cX10_inserts : ByteArray := prog_12_method_34_code
def yX10_inserts : MethodName := ⟨RX10, "inserts", "(I)I"⟩
abbrev cX10_sets : ByteArray := prog_12_method_35_code
def yX10_sets : MethodName := ⟨RX10, "sets", "(I)I"⟩
abbrev cX10_drops : ByteArray := prog_12_method_36_code
def yX10_drops : MethodName := ⟨RX10, "drops", "(I)I"⟩
abbrev cX10_puts : ByteArray := prog_12_method_37_code
def yX10_puts : MethodName := ⟨RX10, "puts", "(III)I"⟩
abbrev cX10_erases : ByteArray := prog_12_method_38_code
def yX10_erases : MethodName := ⟨RX10, "erases", "(II)I"⟩
abbrev cX10_splits : ByteArray := prog_12_method_39_code
def yX10_splits : MethodName := ⟨RX10, "splits", "(II)I"⟩
abbrev cX10_isTextWord : ByteArray := prog_12_method_40_code
def yX10_isTextWord : MethodName := ⟨RX10, "isTextWord", "()Z"⟩
abbrev cX10_isTold : ByteArray := prog_12_method_41_code
def yX10_isTold : MethodName := ⟨RX10, "isTold", "()Z"⟩
abbrev cX10_word : ByteArray := prog_12_method_42_code
def yX10_word : MethodName := ⟨RX10, "word", "()I"⟩
abbrev cX10_unword : ByteArray := prog_12_method_43_code
def yX10_unword : MethodName := ⟨RX10, "unword", "(I)I"⟩
abbrev cX10_rule : ByteArray := prog_12_method_44_code
def yX10_rule : MethodName := ⟨RX10, "rule", "(III)I"⟩
abbrev cX10_shadeOf : ByteArray := prog_12_method_45_code
def yX10_shadeOf : MethodName := ⟨RX10, "shadeOf", "(II)I"⟩
abbrev cX10_byteTold : ByteArray := prog_12_method_46_code
def yX10_byteTold : MethodName := ⟨RX10, "byteTold", "(III)I"⟩
abbrev cX10_at : ByteArray := prog_12_method_47_code
def yX10_at : MethodName := ⟨RX10, "at", "(III)I"⟩
abbrev cX10_begins : ByteArray := prog_12_method_48_code
def yX10_begins : MethodName := ⟨RX10, "begins", "(II)Z"⟩
abbrev cX10_spansOf : ByteArray := prog_12_method_49_code
def yX10_spansOf : MethodName := ⟨RX10, "spansOf", "(I)I"⟩
abbrev cX10_lineTold : ByteArray := prog_12_method_50_code
def yX10_lineTold : MethodName := ⟨RX10, "lineTold", "(II)I"⟩
abbrev cX10_of : ByteArray := prog_12_method_51_code
def yX10_of : MethodName := ⟨RX10, "of", "(II)I"⟩
abbrev cX10_span : ByteArray := prog_12_method_52_code
def yX10_span : MethodName := ⟨RX10, "span", "(III)I"⟩
abbrev cX10_anew : ByteArray := prog_12_method_53_code
def yX10_anew : MethodName := ⟨RX10, "anew", "()I"⟩
abbrev cX10_painted : ByteArray := prog_12_method_54_code
def yX10_painted : MethodName := ⟨RX10, "painted", "(I)I"⟩
abbrev cX10_back : ByteArray := prog_12_method_55_code
def yX10_back : MethodName := ⟨RX10, "back", "()I"⟩
abbrev cX10_toldOf : ByteArray := prog_12_method_56_code
def yX10_toldOf : MethodName := ⟨RX10, "toldOf", "(I)I"⟩
abbrev cX10_told : ByteArray := prog_12_method_57_code
def yX10_told : MethodName := ⟨RX10, "told", "(I)I"⟩
abbrev cX10_mix : ByteArray := prog_12_method_58_code
def yX10_mix : MethodName := ⟨RX10, "mix", "(J)V"⟩
abbrev cX10_digest : ByteArray := prog_12_method_59_code
def yX10_digest : MethodName := ⟨RX10, "digest", "()J"⟩
def RL : String := "PaintedLinesLaw"
abbrev cL_law : ByteArray := code
abbrev vwCl : List vw_C := [(RX0, TX0, 3), (RX1, TX1, 4), (RX2, TX2, 5), (RX3, TX3, 5), (RX4, TX4, 2), (RX5, TX5, 2), (RX6, TX6, 3), (RX7, TX7, 3), (RX8, TX8, 2), (RX9, TX9, 5), (RX10, TX10, 18)]
