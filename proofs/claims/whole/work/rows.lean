section
-- ===== PART A: goes FIRST, ahead of the names: the tables' words, and 'selects' of the private methods out of them =====
/-- a private method of a class that the tables say can be made, by its rows of tables_1 -/
def lw_okq (q : MethodName × Nat) : Prop := (q.1.cls ≠ "java/lang/invoke/MethodHandle" ∧ q.1.cls ≠ "java/lang/invoke/VarHandle") ∧ Cond.instantiable q.1.cls q.2 ∈ tables_1 ∧ Cond.privateMethod q.1 ∈ tables_1 ∧ Cond.instanceMethod q.1 ∈ tables_1
theorem lw_p0 : lw_okq (⟨"ThunderPost", "faultAnswer", "(I)I"⟩, 10) := ⟨⟨by decide +kernel, by decide +kernel⟩, List.mem_of_getElem? (i := 13) (by decide +kernel), List.mem_of_getElem? (i := 250) (by decide +kernel), List.mem_of_getElem? (i := 251) (by decide +kernel)⟩
theorem lw_p1 : lw_okq (⟨"ThunderPost$TextReader", "readsHead", "()Z"⟩, 5) := ⟨⟨by decide +kernel, by decide +kernel⟩, List.mem_of_getElem? (i := 23) (by decide +kernel), List.mem_of_getElem? (i := 258) (by decide +kernel), List.mem_of_getElem? (i := 259) (by decide +kernel)⟩
theorem lw_p2 : lw_okq (⟨"ThunderPost$TextReader", "takes", "(I)Z"⟩, 5) := ⟨⟨by decide +kernel, by decide +kernel⟩, List.mem_of_getElem? (i := 23) (by decide +kernel), List.mem_of_getElem? (i := 262) (by decide +kernel), List.mem_of_getElem? (i := 263) (by decide +kernel)⟩
theorem lw_p3 : lw_okq (⟨"ThunderPost$TextReader", "nextCode", "()I"⟩, 5) := ⟨⟨by decide +kernel, by decide +kernel⟩, List.mem_of_getElem? (i := 23) (by decide +kernel), List.mem_of_getElem? (i := 266) (by decide +kernel), List.mem_of_getElem? (i := 267) (by decide +kernel)⟩
theorem lw_p4 : lw_okq (⟨"ThunderPost$TextReader", "takeDigit", "(II)I"⟩, 5) := ⟨⟨by decide +kernel, by decide +kernel⟩, List.mem_of_getElem? (i := 23) (by decide +kernel), List.mem_of_getElem? (i := 274) (by decide +kernel), List.mem_of_getElem? (i := 275) (by decide +kernel)⟩
theorem lw_p5 : lw_okq (⟨"ThunderPost$TextReader", "readsPeople", "()Z"⟩, 5) := ⟨⟨by decide +kernel, by decide +kernel⟩, List.mem_of_getElem? (i := 23) (by decide +kernel), List.mem_of_getElem? (i := 278) (by decide +kernel), List.mem_of_getElem? (i := 279) (by decide +kernel)⟩
theorem lw_p6 : lw_okq (⟨"ThunderPost$TextReader", "readsPerson", "(I)Z"⟩, 5) := ⟨⟨by decide +kernel, by decide +kernel⟩, List.mem_of_getElem? (i := 23) (by decide +kernel), List.mem_of_getElem? (i := 282) (by decide +kernel), List.mem_of_getElem? (i := 283) (by decide +kernel)⟩
theorem lw_p7 : lw_okq (⟨"ThunderPost$TextReader", "readsClaps", "()Z"⟩, 5) := ⟨⟨by decide +kernel, by decide +kernel⟩, List.mem_of_getElem? (i := 23) (by decide +kernel), List.mem_of_getElem? (i := 286) (by decide +kernel), List.mem_of_getElem? (i := 287) (by decide +kernel)⟩
theorem lw_p8 : lw_okq (⟨"ThunderPost$TextReader", "readsClap", "(I)Z"⟩, 5) := ⟨⟨by decide +kernel, by decide +kernel⟩, List.mem_of_getElem? (i := 23) (by decide +kernel), List.mem_of_getElem? (i := 290) (by decide +kernel), List.mem_of_getElem? (i := 291) (by decide +kernel)⟩
theorem lw_p9 : lw_okq (⟨"ThunderPost$TextReader", "takeKind", "()I"⟩, 5) := ⟨⟨by decide +kernel, by decide +kernel⟩, List.mem_of_getElem? (i := 23) (by decide +kernel), List.mem_of_getElem? (i := 294) (by decide +kernel), List.mem_of_getElem? (i := 295) (by decide +kernel)⟩
theorem lw_p10 : lw_okq (⟨"ThunderPost", "takeDraft", "()V"⟩, 10) := ⟨⟨by decide +kernel, by decide +kernel⟩, List.mem_of_getElem? (i := 13) (by decide +kernel), List.mem_of_getElem? (i := 298) (by decide +kernel), List.mem_of_getElem? (i := 299) (by decide +kernel)⟩
theorem lw_p11 : lw_okq (⟨"ThunderPost", "openingsAnswer", "(I)I"⟩, 10) := ⟨⟨by decide +kernel, by decide +kernel⟩, List.mem_of_getElem? (i := 13) (by decide +kernel), List.mem_of_getElem? (i := 384) (by decide +kernel), List.mem_of_getElem? (i := 385) (by decide +kernel)⟩
theorem lw_p12 : lw_okq (⟨"ThunderPost$Openings", "harmIn", "(LThunderPost$Office;II)I"⟩, 1) := ⟨⟨by decide +kernel, by decide +kernel⟩, List.mem_of_getElem? (i := 66) (by decide +kernel), List.mem_of_getElem? (i := 396) (by decide +kernel), List.mem_of_getElem? (i := 397) (by decide +kernel)⟩
theorem lw_p13 : lw_okq (⟨"ThunderPost$EaseSearch", "keepBest", "(I)V"⟩, 6) := ⟨⟨by decide +kernel, by decide +kernel⟩, List.mem_of_getElem? (i := 76) (by decide +kernel), List.mem_of_getElem? (i := 428) (by decide +kernel), List.mem_of_getElem? (i := 429) (by decide +kernel)⟩
theorem lw_p14 : lw_okq (⟨"ThunderPost$EaseSearch", "harmIn", "(I)I"⟩, 6) := ⟨⟨by decide +kernel, by decide +kernel⟩, List.mem_of_getElem? (i := 76) (by decide +kernel), List.mem_of_getElem? (i := 434) (by decide +kernel), List.mem_of_getElem? (i := 435) (by decide +kernel)⟩
theorem lw_p15 : lw_okq (⟨"ThunderPost$Shelf", "isClap", "(I)Z"⟩, 4) := ⟨⟨by decide +kernel, by decide +kernel⟩, List.mem_of_getElem? (i := 103) (by decide +kernel), List.mem_of_getElem? (i := 457) (by decide +kernel), List.mem_of_getElem? (i := 458) (by decide +kernel)⟩
def lw_privs_1 : List (MethodName × Nat) := [(⟨"ThunderPost", "faultAnswer", "(I)I"⟩, 10), (⟨"ThunderPost$TextReader", "readsHead", "()Z"⟩, 5), (⟨"ThunderPost$TextReader", "takes", "(I)Z"⟩, 5), (⟨"ThunderPost$TextReader", "nextCode", "()I"⟩, 5), (⟨"ThunderPost$TextReader", "takeDigit", "(II)I"⟩, 5), (⟨"ThunderPost$TextReader", "readsPeople", "()Z"⟩, 5), (⟨"ThunderPost$TextReader", "readsPerson", "(I)Z"⟩, 5), (⟨"ThunderPost$TextReader", "readsClaps", "()Z"⟩, 5), (⟨"ThunderPost$TextReader", "readsClap", "(I)Z"⟩, 5), (⟨"ThunderPost$TextReader", "takeKind", "()I"⟩, 5), (⟨"ThunderPost", "takeDraft", "()V"⟩, 10), (⟨"ThunderPost", "openingsAnswer", "(I)I"⟩, 10), (⟨"ThunderPost$Openings", "harmIn", "(LThunderPost$Office;II)I"⟩, 1), (⟨"ThunderPost$EaseSearch", "keepBest", "(I)V"⟩, 6), (⟨"ThunderPost$EaseSearch", "harmIn", "(I)I"⟩, 6), (⟨"ThunderPost$Shelf", "isClap", "(I)Z"⟩, 4)]
theorem lw_r1 : ∀ q ∈ lw_privs_1, lw_okq q := List.forall_mem_cons.mpr ⟨lw_p0, List.forall_mem_cons.mpr ⟨lw_p1, List.forall_mem_cons.mpr ⟨lw_p2, List.forall_mem_cons.mpr ⟨lw_p3, List.forall_mem_cons.mpr ⟨lw_p4, List.forall_mem_cons.mpr ⟨lw_p5, List.forall_mem_cons.mpr ⟨lw_p6, List.forall_mem_cons.mpr ⟨lw_p7, List.forall_mem_cons.mpr ⟨lw_p8, List.forall_mem_cons.mpr ⟨lw_p9, List.forall_mem_cons.mpr ⟨lw_p10, List.forall_mem_cons.mpr ⟨lw_p11, List.forall_mem_cons.mpr ⟨lw_p12, List.forall_mem_cons.mpr ⟨lw_p13, List.forall_mem_cons.mpr ⟨lw_p14, List.forall_mem_cons.mpr ⟨lw_p15, fun _ h => absurd h List.not_mem_nil⟩⟩⟩⟩⟩⟩⟩⟩⟩⟩⟩⟩⟩⟩⟩⟩
theorem lw_p16 : lw_okq (⟨"ThunderPost$Shelf", "fits", "(III)Z"⟩, 4) := ⟨⟨by decide +kernel, by decide +kernel⟩, List.mem_of_getElem? (i := 103) (by decide +kernel), List.mem_of_getElem? (i := 465) (by decide +kernel), List.mem_of_getElem? (i := 466) (by decide +kernel)⟩
theorem lw_p17 : lw_okq (⟨"ThunderPost", "boomingBody", "(I)I"⟩, 10) := ⟨⟨by decide +kernel, by decide +kernel⟩, List.mem_of_getElem? (i := 13) (by decide +kernel), List.mem_of_getElem? (i := 554) (by decide +kernel), List.mem_of_getElem? (i := 555) (by decide +kernel)⟩
theorem lw_p18 : lw_okq (⟨"ThunderPost", "leaveInTrace", "(I)V"⟩, 10) := ⟨⟨by decide +kernel, by decide +kernel⟩, List.mem_of_getElem? (i := 13) (by decide +kernel), List.mem_of_getElem? (i := 558) (by decide +kernel), List.mem_of_getElem? (i := 559) (by decide +kernel)⟩
theorem lw_p19 : lw_okq (⟨"ThunderPost", "dryBody", "(I)I"⟩, 10) := ⟨⟨by decide +kernel, by decide +kernel⟩, List.mem_of_getElem? (i := 13) (by decide +kernel), List.mem_of_getElem? (i := 562) (by decide +kernel), List.mem_of_getElem? (i := 563) (by decide +kernel)⟩
theorem lw_p20 : lw_okq (⟨"ThunderPost", "clapBody", "(I)I"⟩, 10) := ⟨⟨by decide +kernel, by decide +kernel⟩, List.mem_of_getElem? (i := 13) (by decide +kernel), List.mem_of_getElem? (i := 566) (by decide +kernel), List.mem_of_getElem? (i := 567) (by decide +kernel)⟩
theorem lw_p21 : lw_okq (⟨"ThunderPostModel", "against", "(IIII)I"⟩, 31) := ⟨⟨by decide +kernel, by decide +kernel⟩, List.mem_of_getElem? (i := 590) (by decide +kernel), List.mem_of_getElem? (i := 703) (by decide +kernel), List.mem_of_getElem? (i := 704) (by decide +kernel)⟩
theorem lw_p22 : lw_okq (⟨"ThunderPostModel", "fails", "(I)I"⟩, 31) := ⟨⟨by decide +kernel, by decide +kernel⟩, List.mem_of_getElem? (i := 590) (by decide +kernel), List.mem_of_getElem? (i := 707) (by decide +kernel), List.mem_of_getElem? (i := 708) (by decide +kernel)⟩
theorem lw_p23 : lw_okq (⟨"ThunderPostModel", "readOffice", "(I)Z"⟩, 31) := ⟨⟨by decide +kernel, by decide +kernel⟩, List.mem_of_getElem? (i := 590) (by decide +kernel), List.mem_of_getElem? (i := 711) (by decide +kernel), List.mem_of_getElem? (i := 712) (by decide +kernel)⟩
theorem lw_p24 : lw_okq (⟨"ThunderPostModel", "isSign", "(II)Z"⟩, 31) := ⟨⟨by decide +kernel, by decide +kernel⟩, List.mem_of_getElem? (i := 590) (by decide +kernel), List.mem_of_getElem? (i := 715) (by decide +kernel), List.mem_of_getElem? (i := 716) (by decide +kernel)⟩
theorem lw_p25 : lw_okq (⟨"ThunderPostModel", "digit", "(III)I"⟩, 31) := ⟨⟨by decide +kernel, by decide +kernel⟩, List.mem_of_getElem? (i := 590) (by decide +kernel), List.mem_of_getElem? (i := 719) (by decide +kernel), List.mem_of_getElem? (i := 720) (by decide +kernel)⟩
theorem lw_p26 : lw_okq (⟨"ThunderPostModel", "readPerson", "(I)Z"⟩, 31) := ⟨⟨by decide +kernel, by decide +kernel⟩, List.mem_of_getElem? (i := 590) (by decide +kernel), List.mem_of_getElem? (i := 723) (by decide +kernel), List.mem_of_getElem? (i := 724) (by decide +kernel)⟩
theorem lw_p27 : lw_okq (⟨"ThunderPostModel", "readClap", "(I)Z"⟩, 31) := ⟨⟨by decide +kernel, by decide +kernel⟩, List.mem_of_getElem? (i := 590) (by decide +kernel), List.mem_of_getElem? (i := 727) (by decide +kernel), List.mem_of_getElem? (i := 728) (by decide +kernel)⟩
theorem lw_p28 : lw_okq (⟨"ThunderPostModel", "takeOffice", "()V"⟩, 31) := ⟨⟨by decide +kernel, by decide +kernel⟩, List.mem_of_getElem? (i := 590) (by decide +kernel), List.mem_of_getElem? (i := 731) (by decide +kernel), List.mem_of_getElem? (i := 732) (by decide +kernel)⟩
theorem lw_p29 : lw_okq (⟨"ThunderPostModel", "isPerson", "(I)Z"⟩, 31) := ⟨⟨by decide +kernel, by decide +kernel⟩, List.mem_of_getElem? (i := 590) (by decide +kernel), List.mem_of_getElem? (i := 739) (by decide +kernel), List.mem_of_getElem? (i := 740) (by decide +kernel)⟩
theorem lw_p30 : lw_okq (⟨"ThunderPostModel", "clapsOf", "(I)I"⟩, 31) := ⟨⟨by decide +kernel, by decide +kernel⟩, List.mem_of_getElem? (i := 590) (by decide +kernel), List.mem_of_getElem? (i := 743) (by decide +kernel), List.mem_of_getElem? (i := 744) (by decide +kernel)⟩
theorem lw_p31 : lw_okq (⟨"ThunderPostModel", "isClap", "(I)Z"⟩, 31) := ⟨⟨by decide +kernel, by decide +kernel⟩, List.mem_of_getElem? (i := 590) (by decide +kernel), List.mem_of_getElem? (i := 751) (by decide +kernel), List.mem_of_getElem? (i := 752) (by decide +kernel)⟩
def lw_privs_2 : List (MethodName × Nat) := [(⟨"ThunderPost$Shelf", "fits", "(III)Z"⟩, 4), (⟨"ThunderPost", "boomingBody", "(I)I"⟩, 10), (⟨"ThunderPost", "leaveInTrace", "(I)V"⟩, 10), (⟨"ThunderPost", "dryBody", "(I)I"⟩, 10), (⟨"ThunderPost", "clapBody", "(I)I"⟩, 10), (⟨"ThunderPostModel", "against", "(IIII)I"⟩, 31), (⟨"ThunderPostModel", "fails", "(I)I"⟩, 31), (⟨"ThunderPostModel", "readOffice", "(I)Z"⟩, 31), (⟨"ThunderPostModel", "isSign", "(II)Z"⟩, 31), (⟨"ThunderPostModel", "digit", "(III)I"⟩, 31), (⟨"ThunderPostModel", "readPerson", "(I)Z"⟩, 31), (⟨"ThunderPostModel", "readClap", "(I)Z"⟩, 31), (⟨"ThunderPostModel", "takeOffice", "()V"⟩, 31), (⟨"ThunderPostModel", "isPerson", "(I)Z"⟩, 31), (⟨"ThunderPostModel", "clapsOf", "(I)I"⟩, 31), (⟨"ThunderPostModel", "isClap", "(I)Z"⟩, 31)]
theorem lw_r2 : ∀ q ∈ lw_privs_2, lw_okq q := List.forall_mem_cons.mpr ⟨lw_p16, List.forall_mem_cons.mpr ⟨lw_p17, List.forall_mem_cons.mpr ⟨lw_p18, List.forall_mem_cons.mpr ⟨lw_p19, List.forall_mem_cons.mpr ⟨lw_p20, List.forall_mem_cons.mpr ⟨lw_p21, List.forall_mem_cons.mpr ⟨lw_p22, List.forall_mem_cons.mpr ⟨lw_p23, List.forall_mem_cons.mpr ⟨lw_p24, List.forall_mem_cons.mpr ⟨lw_p25, List.forall_mem_cons.mpr ⟨lw_p26, List.forall_mem_cons.mpr ⟨lw_p27, List.forall_mem_cons.mpr ⟨lw_p28, List.forall_mem_cons.mpr ⟨lw_p29, List.forall_mem_cons.mpr ⟨lw_p30, List.forall_mem_cons.mpr ⟨lw_p31, fun _ h => absurd h List.not_mem_nil⟩⟩⟩⟩⟩⟩⟩⟩⟩⟩⟩⟩⟩⟩⟩⟩
theorem lw_p32 : lw_okq (⟨"ThunderPostModel", "loudOf", "(II)I"⟩, 31) := ⟨⟨by decide +kernel, by decide +kernel⟩, List.mem_of_getElem? (i := 590) (by decide +kernel), List.mem_of_getElem? (i := 774) (by decide +kernel), List.mem_of_getElem? (i := 775) (by decide +kernel)⟩
theorem lw_p33 : lw_okq (⟨"ThunderPostModel", "ownerOf", "(III)I"⟩, 31) := ⟨⟨by decide +kernel, by decide +kernel⟩, List.mem_of_getElem? (i := 590) (by decide +kernel), List.mem_of_getElem? (i := 782) (by decide +kernel), List.mem_of_getElem? (i := 783) (by decide +kernel)⟩
theorem lw_p34 : lw_okq (⟨"ThunderPostModel", "tellOpen", "(I)I"⟩, 31) := ⟨⟨by decide +kernel, by decide +kernel⟩, List.mem_of_getElem? (i := 590) (by decide +kernel), List.mem_of_getElem? (i := 794) (by decide +kernel), List.mem_of_getElem? (i := 795) (by decide +kernel)⟩
theorem lw_p35 : lw_okq (⟨"ThunderPostModel", "harmTo", "(I)I"⟩, 31) := ⟨⟨by decide +kernel, by decide +kernel⟩, List.mem_of_getElem? (i := 590) (by decide +kernel), List.mem_of_getElem? (i := 798) (by decide +kernel), List.mem_of_getElem? (i := 799) (by decide +kernel)⟩
theorem lw_p36 : lw_okq (⟨"ThunderPostModel", "findEase", "(I)I"⟩, 31) := ⟨⟨by decide +kernel, by decide +kernel⟩, List.mem_of_getElem? (i := 590) (by decide +kernel), List.mem_of_getElem? (i := 806) (by decide +kernel), List.mem_of_getElem? (i := 807) (by decide +kernel)⟩
theorem lw_p37 : lw_okq (⟨"ThunderPostModel", "isApart", "(III)Z"⟩, 31) := ⟨⟨by decide +kernel, by decide +kernel⟩, List.mem_of_getElem? (i := 590) (by decide +kernel), List.mem_of_getElem? (i := 814) (by decide +kernel), List.mem_of_getElem? (i := 815) (by decide +kernel)⟩
theorem lw_p38 : lw_okq (⟨"ThunderPostModel", "findOrder", "(I)Z"⟩, 31) := ⟨⟨by decide +kernel, by decide +kernel⟩, List.mem_of_getElem? (i := 590) (by decide +kernel), List.mem_of_getElem? (i := 822) (by decide +kernel), List.mem_of_getElem? (i := 823) (by decide +kernel)⟩
theorem lw_p39 : lw_okq (⟨"ThunderPostModel", "mayStand", "(II)Z"⟩, 31) := ⟨⟨by decide +kernel, by decide +kernel⟩, List.mem_of_getElem? (i := 590) (by decide +kernel), List.mem_of_getElem? (i := 826) (by decide +kernel), List.mem_of_getElem? (i := 827) (by decide +kernel)⟩
theorem lw_p40 : lw_okq (⟨"ThunderPostModel", "areSo", "()Z"⟩, 31) := ⟨⟨by decide +kernel, by decide +kernel⟩, List.mem_of_getElem? (i := 590) (by decide +kernel), List.mem_of_getElem? (i := 842) (by decide +kernel), List.mem_of_getElem? (i := 843) (by decide +kernel)⟩
theorem lw_p41 : lw_okq (⟨"ThunderPostModel", "lost", "(I)J"⟩, 31) := ⟨⟨by decide +kernel, by decide +kernel⟩, List.mem_of_getElem? (i := 590) (by decide +kernel), List.mem_of_getElem? (i := 878) (by decide +kernel), List.mem_of_getElem? (i := 879) (by decide +kernel)⟩
theorem lw_p42 : lw_okq (⟨"ThunderPostModel", "begins", "(I)V"⟩, 31) := ⟨⟨by decide +kernel, by decide +kernel⟩, List.mem_of_getElem? (i := 590) (by decide +kernel), List.mem_of_getElem? (i := 890) (by decide +kernel), List.mem_of_getElem? (i := 891) (by decide +kernel)⟩
def lw_privs_3 : List (MethodName × Nat) := [(⟨"ThunderPostModel", "loudOf", "(II)I"⟩, 31), (⟨"ThunderPostModel", "ownerOf", "(III)I"⟩, 31), (⟨"ThunderPostModel", "tellOpen", "(I)I"⟩, 31), (⟨"ThunderPostModel", "harmTo", "(I)I"⟩, 31), (⟨"ThunderPostModel", "findEase", "(I)I"⟩, 31), (⟨"ThunderPostModel", "isApart", "(III)Z"⟩, 31), (⟨"ThunderPostModel", "findOrder", "(I)Z"⟩, 31), (⟨"ThunderPostModel", "mayStand", "(II)Z"⟩, 31), (⟨"ThunderPostModel", "areSo", "()Z"⟩, 31), (⟨"ThunderPostModel", "lost", "(I)J"⟩, 31), (⟨"ThunderPostModel", "begins", "(I)V"⟩, 31)]
theorem lw_r3 : ∀ q ∈ lw_privs_3, lw_okq q := List.forall_mem_cons.mpr ⟨lw_p32, List.forall_mem_cons.mpr ⟨lw_p33, List.forall_mem_cons.mpr ⟨lw_p34, List.forall_mem_cons.mpr ⟨lw_p35, List.forall_mem_cons.mpr ⟨lw_p36, List.forall_mem_cons.mpr ⟨lw_p37, List.forall_mem_cons.mpr ⟨lw_p38, List.forall_mem_cons.mpr ⟨lw_p39, List.forall_mem_cons.mpr ⟨lw_p40, List.forall_mem_cons.mpr ⟨lw_p41, List.forall_mem_cons.mpr ⟨lw_p42, fun _ h => absurd h List.not_mem_nil⟩⟩⟩⟩⟩⟩⟩⟩⟩⟩⟩
def lw_privs : List (MethodName × Nat) := lw_privs_1 ++ (lw_privs_2 ++ (lw_privs_3))
def lw_tbl : List Cond := k2_sels lw_privs ++ tables_1
theorem lw_privs_ok : ∀ q ∈ lw_privs, lw_okq q := by
  show ∀ q ∈ lw_privs_1 ++ (lw_privs_2 ++ (lw_privs_3)), lw_okq q
  exact List.forall_mem_append.mpr ⟨lw_r1, List.forall_mem_append.mpr ⟨lw_r2, lw_r3⟩⟩
end
section
def RX0 : String := "ThunderPost$EaseSearch"
def TX0 : u_T := fun k => match k with
  | 0 => ("ThunderPost$EaseSearch", "bestMonths", "[I", true)
  | 1 => ("ThunderPost$EaseSearch", "leastHarm", "I", false)
  | 2 => ("ThunderPost$EaseSearch", "months", "[I", true)
  | 3 => ("ThunderPost$EaseSearch", "together", "[I", true)
  | 4 => ("ThunderPost$EaseSearch", "office", "LThunderPost$Office;", false)
  | _ => ("ThunderPost$EaseSearch", "person", "I", false)
def tyX0 : Nat → FieldType := fun k => match k with
  | 0 => .array .int
  | 1 => .int
  | 2 => .array .int
  | 3 => .array .int
  | 4 => .object "ThunderPost$Office"
  | _ => .int
abbrev wsX00 : List Cond := u_ws RX0 TX0 6
theorem nmX0 : ∀ a, a < 6 → ∀ b, b < 6 → a ≠ b → (TX0 a).2.1 ≠ (TX0 b).2.1 := by decide +kernel
theorem tyX0_ok : ∀ k, k < 6 → parseFieldDescriptor (TX0 k).2.2.1 = some (tyX0 k) := by decide +kernel
abbrev cX0_init : ByteArray := prog_2_method_1_code
def yX0_init : MethodName := ⟨RX0, "<init>", "()V"⟩
abbrev cX0_findLeast : ByteArray := prog_2_method_2_code
def yX0_findLeast : MethodName := ⟨RX0, "findLeast", "(LThunderPost$Office;I)V"⟩
abbrev cX0_settleFrom : ByteArray := prog_2_method_3_code
def yX0_settleFrom : MethodName := ⟨RX0, "settleFrom", "(LThunderPost$EaseSearch;II)V"⟩
abbrev cX0_harmIn : ByteArray := prog_2_method_4_code
def yX0_harmIn : MethodName := ⟨RX0, "harmIn", "(I)I"⟩
abbrev cX0_keepBest : ByteArray := prog_2_method_5_code
def yX0_keepBest : MethodName := ⟨RX0, "keepBest", "(I)V"⟩
def RX1 : String := "ThunderPost$Office"
def TX1 : u_T := fun k => match k with
  | 0 => ("ThunderPost$Office", "nerves", "[I", true)
  | 1 => ("ThunderPost$Office", "heirs", "[I", true)
  | 2 => ("ThunderPost$Office", "clapKinds", "[I", true)
  | 3 => ("ThunderPost$Office", "clapSizes", "[I", true)
  | 4 => ("ThunderPost$Office", "addresses", "[I", true)
  | 5 => ("ThunderPost$Office", "people", "I", false)
  | 6 => ("ThunderPost$Office", "claps", "I", false)
  | 7 => ("ThunderPost$Office", "dampness", "I", false)
  | _ => ("ThunderPost$Office", "gap", "I", false)
def tyX1 : Nat → FieldType := fun k => match k with
  | 0 => .array .int
  | 1 => .array .int
  | 2 => .array .int
  | 3 => .array .int
  | 4 => .array .int
  | 5 => .int
  | 6 => .int
  | 7 => .int
  | _ => .int
abbrev wsX10 : List Cond := u_ws RX1 TX1 9
theorem nmX1 : ∀ a, a < 9 → ∀ b, b < 9 → a ≠ b → (TX1 a).2.1 ≠ (TX1 b).2.1 := by decide +kernel
theorem tyX1_ok : ∀ k, k < 9 → parseFieldDescriptor (TX1 k).2.2.1 = some (tyX1 k) := by decide +kernel
abbrev cX1_init : ByteArray := prog_3_method_1_code
def yX1_init : MethodName := ⟨RX1, "<init>", "()V"⟩
abbrev cX1_stands : ByteArray := prog_3_method_2_code
def yX1_stands : MethodName := ⟨RX1, "stands", "()Z"⟩
abbrev cX1_hasPerson : ByteArray := prog_3_method_3_code
def yX1_hasPerson : MethodName := ⟨RX1, "hasPerson", "(I)Z"⟩
abbrev cX1_hasClap : ByteArray := prog_3_method_4_code
def yX1_hasClap : MethodName := ⟨RX1, "hasClap", "(I)Z"⟩
abbrev cX1_isFor : ByteArray := prog_3_method_5_code
def yX1_isFor : MethodName := ⟨RX1, "isFor", "(II)Z"⟩
abbrev cX1_clapsFor : ByteArray := prog_3_method_6_code
def yX1_clapsFor : MethodName := ⟨RX1, "clapsFor", "(I)I"⟩
abbrev cX1_everybody : ByteArray := prog_3_method_7_code
def yX1_everybody : MethodName := ⟨RX1, "everybody", "()I"⟩
abbrev cX1_loudness : ByteArray := prog_3_method_8_code
def yX1_loudness : MethodName := ⟨RX1, "loudness", "(II)I"⟩
abbrev cX1_takerOf : ByteArray := prog_3_method_9_code
def yX1_takerOf : MethodName := ⟨RX1, "takerOf", "(III)I"⟩
def RX2 : String := "ThunderPost$Openings"
def TX2 : u_T := fun k => match k with
  | _ => ("ThunderPost$Openings", "months", "[I", true)
def tyX2 : Nat → FieldType := fun k => match k with
  | _ => .array .int
abbrev wsX20 : List Cond := u_ws RX2 TX2 1
theorem nmX2 : ∀ a, a < 1 → ∀ b, b < 1 → a ≠ b → (TX2 a).2.1 ≠ (TX2 b).2.1 := by decide +kernel
theorem tyX2_ok : ∀ k, k < 1 → parseFieldDescriptor (TX2 k).2.2.1 = some (tyX2 k) := by decide +kernel
abbrev cX2_init : ByteArray := prog_4_method_1_code
def yX2_init : MethodName := ⟨RX2, "<init>", "()V"⟩
abbrev cX2_takeMonths : ByteArray := prog_4_method_2_code
def yX2_takeMonths : MethodName := ⟨RX2, "takeMonths", "(LThunderPost$Sheet;II)Z"⟩
abbrev cX2_monthsTaken : ByteArray := prog_4_method_3_code
def yX2_monthsTaken : MethodName := ⟨RX2, "monthsTaken", "(LThunderPost$Office;)I"⟩
abbrev cX2_harmTo : ByteArray := prog_4_method_4_code
def yX2_harmTo : MethodName := ⟨RX2, "harmTo", "(LThunderPost$Office;I)I"⟩
abbrev cX2_harmIn : ByteArray := prog_4_method_5_code
def yX2_harmIn : MethodName := ⟨RX2, "harmIn", "(LThunderPost$Office;II)I"⟩
abbrev cX2_harmToAll : ByteArray := prog_4_method_6_code
def yX2_harmToAll : MethodName := ⟨RX2, "harmToAll", "(LThunderPost$Office;)I"⟩
abbrev cX2_mostHarmed : ByteArray := prog_4_method_7_code
def yX2_mostHarmed : MethodName := ⟨RX2, "mostHarmed", "(LThunderPost$Office;)I"⟩
def RX3 : String := "ThunderPost$Readings"
def TX3 : u_T := fun k => match k with
  | 0 => ("ThunderPost$Readings", "heardClaps", "[I", true)
  | 1 => ("ThunderPost$Readings", "heardMonths", "[I", true)
  | 2 => ("ThunderPost$Readings", "heardLoud", "[I", true)
  | _ => ("ThunderPost$Readings", "count", "I", false)
def tyX3 : Nat → FieldType := fun k => match k with
  | 0 => .array .int
  | 1 => .array .int
  | 2 => .array .int
  | _ => .int
abbrev wsX30 : List Cond := u_ws RX3 TX3 4
theorem nmX3 : ∀ a, a < 4 → ∀ b, b < 4 → a ≠ b → (TX3 a).2.1 ≠ (TX3 b).2.1 := by decide +kernel
theorem tyX3_ok : ∀ k, k < 4 → parseFieldDescriptor (TX3 k).2.2.1 = some (tyX3 k) := by decide +kernel
abbrev cX3_init : ByteArray := prog_5_method_1_code
def yX3_init : MethodName := ⟨RX3, "<init>", "()V"⟩
abbrev cX3_add : ByteArray := prog_5_method_2_code
def yX3_add : MethodName := ⟨RX3, "add", "(III)I"⟩
abbrev cX3_bitIfSo : ByteArray := prog_5_method_3_code
def yX3_bitIfSo : MethodName := ⟨RX3, "bitIfSo", "(LThunderPost$Office;I)I"⟩
def RX4 : String := "ThunderPost$Sheet"
def TX4 : u_T := fun k => match k with
  | 0 => ("ThunderPost$Sheet", "cells", "[I", true)
  | 1 => ("ThunderPost$Sheet", "cellLane", "I", false)
  | 2 => ("ThunderPost$Sheet", "length", "I", false)
  | _ => ("ThunderPost$Sheet", "there", "Z", false)
def tyX4 : Nat → FieldType := fun k => match k with
  | 0 => .array .int
  | 1 => .int
  | 2 => .int
  | _ => .boolean
abbrev wsX40 : List Cond := u_ws RX4 TX4 4
theorem nmX4 : ∀ a, a < 4 → ∀ b, b < 4 → a ≠ b → (TX4 a).2.1 ≠ (TX4 b).2.1 := by decide +kernel
theorem tyX4_ok : ∀ k, k < 4 → parseFieldDescriptor (TX4 k).2.2.1 = some (tyX4 k) := by decide +kernel
abbrev cX4_init : ByteArray := prog_6_method_1_code
def yX4_init : MethodName := ⟨RX4, "<init>", "()V"⟩
abbrev cX4_renew : ByteArray := prog_6_method_2_code
def yX4_renew : MethodName := ⟨RX4, "renew", "(II)V"⟩
abbrev cX4_hasCells : ByteArray := prog_6_method_3_code
def yX4_hasCells : MethodName := ⟨RX4, "hasCells", "(II)Z"⟩
abbrev cX4_faultOfCells : ByteArray := prog_6_method_4_code
def yX4_faultOfCells : MethodName := ⟨RX4, "faultOfCells", "(III)I"⟩
abbrev cX4_read : ByteArray := prog_6_method_5_code
def yX4_read : MethodName := ⟨RX4, "read", "(I)I"⟩
abbrev cX4_write : ByteArray := prog_6_method_6_code
def yX4_write : MethodName := ⟨RX4, "write", "(II)V"⟩
def RX5 : String := "ThunderPost$Shelf"
def TX5 : u_T := fun k => match k with
  | 0 => ("ThunderPost$Shelf", "row", "[I", true)
  | 1 => ("ThunderPost$Shelf", "loudnesses", "[I", true)
  | 2 => ("ThunderPost$Shelf", "claps", "I", false)
  | _ => ("ThunderPost$Shelf", "gap", "I", false)
def tyX5 : Nat → FieldType := fun k => match k with
  | 0 => .array .int
  | 1 => .array .int
  | 2 => .int
  | _ => .int
abbrev wsX50 : List Cond := u_ws RX5 TX5 4
theorem nmX5 : ∀ a, a < 4 → ∀ b, b < 4 → a ≠ b → (TX5 a).2.1 ≠ (TX5 b).2.1 := by decide +kernel
theorem tyX5_ok : ∀ k, k < 4 → parseFieldDescriptor (TX5 k).2.2.1 = some (tyX5 k) := by decide +kernel
abbrev cX5_init : ByteArray := prog_7_method_1_code
def yX5_init : MethodName := ⟨RX5, "<init>", "()V"⟩
abbrev cX5_measure : ByteArray := prog_7_method_2_code
def yX5_measure : MethodName := ⟨RX5, "measure", "(LThunderPost$Office;I)V"⟩
abbrev cX5_takeRow : ByteArray := prog_7_method_3_code
def yX5_takeRow : MethodName := ⟨RX5, "takeRow", "(LThunderPost$Sheet;II)Z"⟩
abbrev cX5_isClap : ByteArray := prog_7_method_4_code
def yX5_isClap : MethodName := ⟨RX5, "isClap", "(I)Z"⟩
abbrev cX5_firstWrong : ByteArray := prog_7_method_5_code
def yX5_firstWrong : MethodName := ⟨RX5, "firstWrong", "(I)I"⟩
abbrev cX5_fits : ByteArray := prog_7_method_6_code
def yX5_fits : MethodName := ⟨RX5, "fits", "(III)Z"⟩
abbrev cX5_fillInOrder : ByteArray := prog_7_method_7_code
def yX5_fillInOrder : MethodName := ⟨RX5, "fillInOrder", "()Z"⟩
abbrev cX5_fillFrom : ByteArray := prog_7_method_8_code
def yX5_fillFrom : MethodName := ⟨RX5, "fillFrom", "(LThunderPost$Shelf;II)Z"⟩
def RX6 : String := "ThunderPost$TextReader"
def TX6 : u_T := fun k => match k with
  | 0 => ("ThunderPost$TextReader", "source", "LThunderPost$Sheet;", false)
  | 1 => ("ThunderPost$TextReader", "into", "LThunderPost$Office;", false)
  | 2 => ("ThunderPost$TextReader", "start", "I", false)
  | 3 => ("ThunderPost$TextReader", "length", "I", false)
  | _ => ("ThunderPost$TextReader", "at", "I", false)
def tyX6 : Nat → FieldType := fun k => match k with
  | 0 => .object "ThunderPost$Sheet"
  | 1 => .object "ThunderPost$Office"
  | 2 => .int
  | 3 => .int
  | _ => .int
abbrev wsX60 : List Cond := u_ws RX6 TX6 5
theorem nmX6 : ∀ a, a < 5 → ∀ b, b < 5 → a ≠ b → (TX6 a).2.1 ≠ (TX6 b).2.1 := by decide +kernel
theorem tyX6_ok : ∀ k, k < 5 → parseFieldDescriptor (TX6 k).2.2.1 = some (tyX6 k) := by decide +kernel
abbrev cX6_init : ByteArray := prog_8_method_1_code
def yX6_init : MethodName := ⟨RX6, "<init>", "()V"⟩
abbrev cX6_firstFault : ByteArray := prog_8_method_2_code
def yX6_firstFault : MethodName := ⟨RX6, "firstFault", "(LThunderPost$Sheet;IILThunderPost$Office;)I"⟩
abbrev cX6_readsHead : ByteArray := prog_8_method_3_code
def yX6_readsHead : MethodName := ⟨RX6, "readsHead", "()Z"⟩
abbrev cX6_readsPeople : ByteArray := prog_8_method_4_code
def yX6_readsPeople : MethodName := ⟨RX6, "readsPeople", "()Z"⟩
abbrev cX6_readsPerson : ByteArray := prog_8_method_5_code
def yX6_readsPerson : MethodName := ⟨RX6, "readsPerson", "(I)Z"⟩
abbrev cX6_readsClaps : ByteArray := prog_8_method_6_code
def yX6_readsClaps : MethodName := ⟨RX6, "readsClaps", "()Z"⟩
abbrev cX6_readsClap : ByteArray := prog_8_method_7_code
def yX6_readsClap : MethodName := ⟨RX6, "readsClap", "(I)Z"⟩
abbrev cX6_takeKind : ByteArray := prog_8_method_8_code
def yX6_takeKind : MethodName := ⟨RX6, "takeKind", "()I"⟩
abbrev cX6_takeDigit : ByteArray := prog_8_method_9_code
def yX6_takeDigit : MethodName := ⟨RX6, "takeDigit", "(II)I"⟩
abbrev cX6_takes : ByteArray := prog_8_method_10_code
def yX6_takes : MethodName := ⟨RX6, "takes", "(I)Z"⟩
abbrev cX6_nextCode : ByteArray := prog_8_method_11_code
def yX6_nextCode : MethodName := ⟨RX6, "nextCode", "()I"⟩
def RX7 : String := "ThunderPost"
def TX7 : u_T := fun k => match k with
  | 0 => ("ThunderPost", "sheets", "[LThunderPost$Sheet;", true)
  | 1 => ("ThunderPost", "reader", "LThunderPost$TextReader;", true)
  | 2 => ("ThunderPost", "readings", "LThunderPost$Readings;", true)
  | 3 => ("ThunderPost", "openings", "LThunderPost$Openings;", true)
  | 4 => ("ThunderPost", "easeSearch", "LThunderPost$EaseSearch;", true)
  | 5 => ("ThunderPost", "shelf", "LThunderPost$Shelf;", true)
  | 6 => ("ThunderPost", "office", "LThunderPost$Office;", false)
  | 7 => ("ThunderPost", "draft", "LThunderPost$Office;", false)
  | 8 => ("ThunderPost", "trace", "I", false)
  | _ => ("ThunderPost", "fault", "I", false)
def tyX7 : Nat → FieldType := fun k => match k with
  | 0 => .array (.object "ThunderPost$Sheet")
  | 1 => .object "ThunderPost$TextReader"
  | 2 => .object "ThunderPost$Readings"
  | 3 => .object "ThunderPost$Openings"
  | 4 => .object "ThunderPost$EaseSearch"
  | 5 => .object "ThunderPost$Shelf"
  | 6 => .object "ThunderPost$Office"
  | 7 => .object "ThunderPost$Office"
  | 8 => .int
  | _ => .int
abbrev wsX70 : List Cond := u_ws RX7 TX7 10
theorem nmX7 : ∀ a, a < 10 → ∀ b, b < 10 → a ≠ b → (TX7 a).2.1 ≠ (TX7 b).2.1 := by decide +kernel
theorem tyX7_ok : ∀ k, k < 10 → parseFieldDescriptor (TX7 k).2.2.1 = some (tyX7 k) := by decide +kernel
abbrev cX7_init : ByteArray := prog_1_method_1_code
def yX7_init : MethodName := ⟨RX7, "<init>", "()V"⟩
abbrev cX7_office : ByteArray := prog_1_method_2_code
def yX7_office : MethodName := ⟨RX7, "office", "(IIII)I"⟩
abbrev cX7_takeDraft : ByteArray := prog_1_method_3_code
def yX7_takeDraft : MethodName := ⟨RX7, "takeDraft", "()V"⟩
abbrev cX7_ofPerson : ByteArray := prog_1_method_4_code
def yX7_ofPerson : MethodName := ⟨RX7, "ofPerson", "(II)I"⟩
abbrev cX7_ofClap : ByteArray := prog_1_method_5_code
def yX7_ofClap : MethodName := ⟨RX7, "ofClap", "(II)I"⟩
abbrev cX7_nerve : ByteArray := prog_1_method_6_code
def yX7_nerve : MethodName := ⟨RX7, "nerve", "(II)I"⟩
abbrev cX7_damp : ByteArray := prog_1_method_7_code
def yX7_damp : MethodName := ⟨RX7, "damp", "(I)I"⟩
abbrev cX7_send : ByteArray := prog_1_method_8_code
def yX7_send : MethodName := ⟨RX7, "send", "(II)I"⟩
abbrev cX7_loud : ByteArray := prog_1_method_9_code
def yX7_loud : MethodName := ⟨RX7, "loud", "(II)I"⟩
abbrev cX7_owner : ByteArray := prog_1_method_10_code
def yX7_owner : MethodName := ⟨RX7, "owner", "(II)I"⟩
abbrev cX7_last : ByteArray := prog_1_method_11_code
def yX7_last : MethodName := ⟨RX7, "last", "(I)I"⟩
abbrev cX7_open : ByteArray := prog_1_method_12_code
def yX7_open : MethodName := ⟨RX7, "open", "(IIIII)I"⟩
abbrev cX7_isAskedOfOpenings : ByteArray := prog_1_method_13_code
def yX7_isAskedOfOpenings : MethodName := ⟨RX7, "isAskedOfOpenings", "(I)Z"⟩
abbrev cX7_openingsAnswer : ByteArray := prog_1_method_14_code
def yX7_openingsAnswer : MethodName := ⟨RX7, "openingsAnswer", "(I)I"⟩
abbrev cX7_ease : ByteArray := prog_1_method_15_code
def yX7_ease : MethodName := ⟨RX7, "ease", "(II)I"⟩
abbrev cX7_shelf : ByteArray := prog_1_method_16_code
def yX7_shelf : MethodName := ⟨RX7, "shelf", "(IIIII)I"⟩
abbrev cX7_order : ByteArray := prog_1_method_17_code
def yX7_order : MethodName := ⟨RX7, "order", "(II)I"⟩
abbrev cX7_reading : ByteArray := prog_1_method_18_code
def yX7_reading : MethodName := ⟨RX7, "reading", "(III)I"⟩
abbrev cX7_back : ByteArray := prog_1_method_19_code
def yX7_back : MethodName := ⟨RX7, "back", "(I)I"⟩
abbrev cX7_sizes : ByteArray := prog_1_method_20_code
def yX7_sizes : MethodName := ⟨RX7, "sizes", "(I)I"⟩
abbrev cX7_kinds : ByteArray := prog_1_method_21_code
def yX7_kinds : MethodName := ⟨RX7, "kinds", "(I)I"⟩
abbrev cX7_damps : ByteArray := prog_1_method_22_code
def yX7_damps : MethodName := ⟨RX7, "damps", "()I"⟩
abbrev cX7_odds : ByteArray := prog_1_method_23_code
def yX7_odds : MethodName := ⟨RX7, "odds", "(III)J"⟩
abbrev cX7_sheet : ByteArray := prog_1_method_24_code
def yX7_sheet : MethodName := ⟨RX7, "sheet", "(III)I"⟩
abbrev cX7_lose : ByteArray := prog_1_method_25_code
def yX7_lose : MethodName := ⟨RX7, "lose", "(I)I"⟩
abbrev cX7_put : ByteArray := prog_1_method_26_code
def yX7_put : MethodName := ⟨RX7, "put", "(III)I"⟩
abbrev cX7_cell : ByteArray := prog_1_method_27_code
def yX7_cell : MethodName := ⟨RX7, "cell", "(III)J"⟩
abbrev cX7_copy : ByteArray := prog_1_method_28_code
def yX7_copy : MethodName := ⟨RX7, "copy", "(IIIII)I"⟩
abbrev cX7_tell : ByteArray := prog_1_method_29_code
def yX7_tell : MethodName := ⟨RX7, "tell", "(I)I"⟩
abbrev cX7_boomingBody : ByteArray := prog_1_method_30_code
def yX7_boomingBody : MethodName := ⟨RX7, "boomingBody", "(I)I"⟩
abbrev cX7_dryBody : ByteArray := prog_1_method_31_code
def yX7_dryBody : MethodName := ⟨RX7, "dryBody", "(I)I"⟩
abbrev cX7_clapBody : ByteArray := prog_1_method_32_code
def yX7_clapBody : MethodName := ⟨RX7, "clapBody", "(I)I"⟩
abbrev cX7_leaveInTrace : ByteArray := prog_1_method_33_code
def yX7_leaveInTrace : MethodName := ⟨RX7, "leaveInTrace", "(I)V"⟩
abbrev cX7_cork : ByteArray := prog_1_method_34_code
def yX7_cork : MethodName := ⟨RX7, "cork", "(I)I"⟩
abbrev cX7_as : ByteArray := prog_1_method_35_code
def yX7_as : MethodName := ⟨RX7, "as", "(II)I"⟩
abbrev cX7_trace : ByteArray := prog_1_method_36_code
def yX7_trace : MethodName := ⟨RX7, "trace", "()I"⟩
abbrev cX7_fault : ByteArray := prog_1_method_37_code
def yX7_fault : MethodName := ⟨RX7, "fault", "()I"⟩
abbrev cX7_many : ByteArray := prog_1_method_38_code
def yX7_many : MethodName := ⟨RX7, "many", "(I)I"⟩
abbrev cX7_isSheet : ByteArray := prog_1_method_39_code
def yX7_isSheet : MethodName := ⟨RX7, "isSheet", "(I)Z"⟩
abbrev cX7_isLane : ByteArray := prog_1_method_40_code
def yX7_isLane : MethodName := ⟨RX7, "isLane", "(I)Z"⟩
abbrev cX7_isMonth : ByteArray := prog_1_method_41_code
def yX7_isMonth : MethodName := ⟨RX7, "isMonth", "(I)Z"⟩
abbrev cX7_faultAnswer : ByteArray := prog_1_method_42_code
def yX7_faultAnswer : MethodName := ⟨RX7, "faultAnswer", "(I)I"⟩
def RX8 : String := "ThunderPostModel"
def TX8 : u_T := fun k => match k with
  | 0 => ("ThunderPostModel", "fault", "I", false)
  | 1 => ("ThunderPostModel", "trace", "I", false)
  | 2 => ("ThunderPostModel", "sorts", "[I", true)
  | 3 => ("ThunderPostModel", "sheetLong", "[I", true)
  | 4 => ("ThunderPostModel", "cells", "[I", true)
  | 5 => ("ThunderPostModel", "people", "I", false)
  | 6 => ("ThunderPostModel", "claps", "I", false)
  | 7 => ("ThunderPostModel", "damp", "I", false)
  | 8 => ("ThunderPostModel", "gap", "I", false)
  | 9 => ("ThunderPostModel", "nerveOf", "[I", true)
  | 10 => ("ThunderPostModel", "heir", "[I", true)
  | 11 => ("ThunderPostModel", "kind", "[I", true)
  | 12 => ("ThunderPostModel", "size", "[I", true)
  | 13 => ("ThunderPostModel", "address", "[I", true)
  | 14 => ("ThunderPostModel", "at", "I", false)
  | 15 => ("ThunderPostModel", "readDamp", "I", false)
  | 16 => ("ThunderPostModel", "readGap", "I", false)
  | 17 => ("ThunderPostModel", "readPeople", "I", false)
  | 18 => ("ThunderPostModel", "readClaps", "I", false)
  | 19 => ("ThunderPostModel", "readNerve", "[I", true)
  | 20 => ("ThunderPostModel", "readHeir", "[I", true)
  | 21 => ("ThunderPostModel", "readKind", "[I", true)
  | 22 => ("ThunderPostModel", "readSize", "[I", true)
  | 23 => ("ThunderPostModel", "readAddress", "[I", true)
  | 24 => ("ThunderPostModel", "month", "[I", true)
  | 25 => ("ThunderPostModel", "found", "[I", true)
  | 26 => ("ThunderPostModel", "row", "[I", true)
  | 27 => ("ThunderPostModel", "readings", "I", false)
  | 28 => ("ThunderPostModel", "readClapOf", "[I", true)
  | 29 => ("ThunderPostModel", "readWhen", "[I", true)
  | _ => ("ThunderPostModel", "readLoud", "[I", true)
def tyX8 : Nat → FieldType := fun k => match k with
  | 0 => .int
  | 1 => .int
  | 2 => .array .int
  | 3 => .array .int
  | 4 => .array .int
  | 5 => .int
  | 6 => .int
  | 7 => .int
  | 8 => .int
  | 9 => .array .int
  | 10 => .array .int
  | 11 => .array .int
  | 12 => .array .int
  | 13 => .array .int
  | 14 => .int
  | 15 => .int
  | 16 => .int
  | 17 => .int
  | 18 => .int
  | 19 => .array .int
  | 20 => .array .int
  | 21 => .array .int
  | 22 => .array .int
  | 23 => .array .int
  | 24 => .array .int
  | 25 => .array .int
  | 26 => .array .int
  | 27 => .int
  | 28 => .array .int
  | 29 => .array .int
  | _ => .array .int
abbrev wsX80 : List Cond := u_ws RX8 TX8 31
theorem nmX8 : ∀ a, a < 31 → ∀ b, b < 31 → a ≠ b → (TX8 a).2.1 ≠ (TX8 b).2.1 := by decide +kernel
theorem tyX8_ok : ∀ k, k < 31 → parseFieldDescriptor (TX8 k).2.2.1 = some (tyX8 k) := by decide +kernel
abbrev cX8_init : ByteArray := prog_10_method_1_code
def yX8_init : MethodName := ⟨RX8, "<init>", "()V"⟩
abbrev cX8_fails : ByteArray := prog_10_method_3_code
def yX8_fails : MethodName := ⟨RX8, "fails", "(I)I"⟩
abbrev cX8_lost : ByteArray := prog_10_method_4_code
def yX8_lost : MethodName := ⟨RX8, "lost", "(I)J"⟩
abbrev cX8_within : ByteArray := prog_10_method_5_code
def yX8_within : MethodName := ⟨RX8, "within", "(III)Z"⟩
abbrev cX8_isSheet : ByteArray := prog_10_method_6_code
def yX8_isSheet : MethodName := ⟨RX8, "isSheet", "(I)Z"⟩
abbrev cX8_isSort : ByteArray := prog_10_method_7_code
def yX8_isSort : MethodName := ⟨RX8, "isSort", "(I)Z"⟩
abbrev cX8_against : ByteArray := prog_10_method_8_code
def yX8_against : MethodName := ⟨RX8, "against", "(IIII)I"⟩
abbrev cX8_isPerson : ByteArray := prog_10_method_9_code
def yX8_isPerson : MethodName := ⟨RX8, "isPerson", "(I)Z"⟩
abbrev cX8_isClap : ByteArray := prog_10_method_10_code
def yX8_isClap : MethodName := ⟨RX8, "isClap", "(I)Z"⟩
abbrev cX8_digit : ByteArray := prog_10_method_11_code
def yX8_digit : MethodName := ⟨RX8, "digit", "(III)I"⟩
abbrev cX8_isSign : ByteArray := prog_10_method_12_code
def yX8_isSign : MethodName := ⟨RX8, "isSign", "(II)Z"⟩
abbrev cX8_office : ByteArray := prog_10_method_13_code
def yX8_office : MethodName := ⟨RX8, "office", "(IIII)I"⟩
abbrev cX8_takeOffice : ByteArray := prog_10_method_14_code
def yX8_takeOffice : MethodName := ⟨RX8, "takeOffice", "()V"⟩
abbrev cX8_readOffice : ByteArray := prog_10_method_15_code
def yX8_readOffice : MethodName := ⟨RX8, "readOffice", "(I)Z"⟩
abbrev cX8_readPerson : ByteArray := prog_10_method_16_code
def yX8_readPerson : MethodName := ⟨RX8, "readPerson", "(I)Z"⟩
abbrev cX8_readClap : ByteArray := prog_10_method_17_code
def yX8_readClap : MethodName := ⟨RX8, "readClap", "(I)Z"⟩
abbrev cX8_clapsOf : ByteArray := prog_10_method_18_code
def yX8_clapsOf : MethodName := ⟨RX8, "clapsOf", "(I)I"⟩
abbrev cX8_ofPerson : ByteArray := prog_10_method_19_code
def yX8_ofPerson : MethodName := ⟨RX8, "ofPerson", "(II)I"⟩
abbrev cX8_ofClap : ByteArray := prog_10_method_20_code
def yX8_ofClap : MethodName := ⟨RX8, "ofClap", "(II)I"⟩
abbrev cX8_nerve : ByteArray := prog_10_method_21_code
def yX8_nerve : MethodName := ⟨RX8, "nerve", "(II)I"⟩
abbrev cX8_damp : ByteArray := prog_10_method_22_code
def yX8_damp : MethodName := ⟨RX8, "damp", "(I)I"⟩
abbrev cX8_send : ByteArray := prog_10_method_23_code
def yX8_send : MethodName := ⟨RX8, "send", "(II)I"⟩
abbrev cX8_loudOf : ByteArray := prog_10_method_24_code
def yX8_loudOf : MethodName := ⟨RX8, "loudOf", "(II)I"⟩
abbrev cX8_isMonths : ByteArray := prog_10_method_25_code
def yX8_isMonths : MethodName := ⟨RX8, "isMonths", "(I)Z"⟩
abbrev cX8_loud : ByteArray := prog_10_method_26_code
def yX8_loud : MethodName := ⟨RX8, "loud", "(II)I"⟩
abbrev cX8_ownerOf : ByteArray := prog_10_method_27_code
def yX8_ownerOf : MethodName := ⟨RX8, "ownerOf", "(III)I"⟩
abbrev cX8_owner : ByteArray := prog_10_method_28_code
def yX8_owner : MethodName := ⟨RX8, "owner", "(II)I"⟩
abbrev cX8_last : ByteArray := prog_10_method_29_code
def yX8_last : MethodName := ⟨RX8, "last", "(I)I"⟩
abbrev cX8_harmTo : ByteArray := prog_10_method_30_code
def yX8_harmTo : MethodName := ⟨RX8, "harmTo", "(I)I"⟩
abbrev cX8_open : ByteArray := prog_10_method_31_code
def yX8_open : MethodName := ⟨RX8, "open", "(IIIII)I"⟩
abbrev cX8_tellOpen : ByteArray := prog_10_method_32_code
def yX8_tellOpen : MethodName := ⟨RX8, "tellOpen", "(I)I"⟩
abbrev cX8_findEase : ByteArray := prog_10_method_33_code
def yX8_findEase : MethodName := ⟨RX8, "findEase", "(I)I"⟩
abbrev cX8_ease : ByteArray := prog_10_method_34_code
def yX8_ease : MethodName := ⟨RX8, "ease", "(II)I"⟩
abbrev cX8_isApart : ByteArray := prog_10_method_35_code
def yX8_isApart : MethodName := ⟨RX8, "isApart", "(III)Z"⟩
abbrev cX8_shelf : ByteArray := prog_10_method_36_code
def yX8_shelf : MethodName := ⟨RX8, "shelf", "(IIIII)I"⟩
abbrev cX8_mayStand : ByteArray := prog_10_method_37_code
def yX8_mayStand : MethodName := ⟨RX8, "mayStand", "(II)Z"⟩
abbrev cX8_findOrder : ByteArray := prog_10_method_38_code
def yX8_findOrder : MethodName := ⟨RX8, "findOrder", "(I)Z"⟩
abbrev cX8_order : ByteArray := prog_10_method_39_code
def yX8_order : MethodName := ⟨RX8, "order", "(II)I"⟩
abbrev cX8_reading : ByteArray := prog_10_method_40_code
def yX8_reading : MethodName := ⟨RX8, "reading", "(III)I"⟩
abbrev cX8_back : ByteArray := prog_10_method_41_code
def yX8_back : MethodName := ⟨RX8, "back", "(I)I"⟩
abbrev cX8_areSo : ByteArray := prog_10_method_42_code
def yX8_areSo : MethodName := ⟨RX8, "areSo", "()Z"⟩
abbrev cX8_sizes : ByteArray := prog_10_method_43_code
def yX8_sizes : MethodName := ⟨RX8, "sizes", "(I)I"⟩
abbrev cX8_kinds : ByteArray := prog_10_method_44_code
def yX8_kinds : MethodName := ⟨RX8, "kinds", "(I)I"⟩
abbrev cX8_damps : ByteArray := prog_10_method_45_code
def yX8_damps : MethodName := ⟨RX8, "damps", "()I"⟩
abbrev cX8_inLeastTerms : ByteArray := prog_10_method_46_code
def yX8_inLeastTerms : MethodName := ⟨RX8, "inLeastTerms", "(JJI)J"⟩
abbrev cX8_odds : ByteArray := prog_10_method_47_code
def yX8_odds : MethodName := ⟨RX8, "odds", "(III)J"⟩
abbrev cX8_sheet : ByteArray := prog_10_method_48_code
def yX8_sheet : MethodName := ⟨RX8, "sheet", "(III)I"⟩
abbrev cX8_lose : ByteArray := prog_10_method_49_code
def yX8_lose : MethodName := ⟨RX8, "lose", "(I)I"⟩
abbrev cX8_put : ByteArray := prog_10_method_50_code
def yX8_put : MethodName := ⟨RX8, "put", "(III)I"⟩
abbrev cX8_cell : ByteArray := prog_10_method_51_code
def yX8_cell : MethodName := ⟨RX8, "cell", "(III)J"⟩
abbrev cX8_copy : ByteArray := prog_10_method_52_code
def yX8_copy : MethodName := ⟨RX8, "copy", "(IIIII)I"⟩
abbrev cX8_begins : ByteArray := prog_10_method_53_code
def yX8_begins : MethodName := ⟨RX8, "begins", "(I)V"⟩
abbrev cX8_tell : ByteArray := prog_10_method_54_code
def yX8_tell : MethodName := ⟨RX8, "tell", "(I)I"⟩
abbrev cX8_cork : ByteArray := prog_10_method_55_code
def yX8_cork : MethodName := ⟨RX8, "cork", "(I)I"⟩
abbrev cX8_as : ByteArray := prog_10_method_56_code
def yX8_as : MethodName := ⟨RX8, "as", "(II)I"⟩
abbrev cX8_trace : ByteArray := prog_10_method_57_code
def yX8_trace : MethodName := ⟨RX8, "trace", "()I"⟩
abbrev cX8_fault : ByteArray := prog_10_method_58_code
def yX8_fault : MethodName := ⟨RX8, "fault", "()I"⟩
abbrev cX8_many : ByteArray := prog_10_method_59_code
def yX8_many : MethodName := ⟨RX8, "many", "(I)I"⟩
abbrev vwCl : List vw_C := [(RX0, TX0, 6), (RX1, TX1, 9), (RX2, TX2, 1), (RX3, TX3, 4), (RX4, TX4, 4), (RX5, TX5, 4), (RX6, TX6, 5), (RX7, TX7, 10), (RX8, TX8, 31)]
def RL : String := "ThunderPostLaw"
abbrev cL_law : ByteArray := code
end
section
/-! the layout of the world, and the tables of links, by program (gen.py) -/
abbrev jx_M : Type := Nat → Nat → Int32
def jx_shL : List (Nat × Nat) := [(7, 10), (10, 4), (6, 5), (3, 4), (9, 8), (9, 8), (9, 8), (2, 1), (9, 6), (0, 6), (9, 6), (9, 6), (9, 4), (5, 4), (9, 20), (9, 6), (1, 9), (9, 5), (9, 5), (9, 6), (9, 6), (9, 6), (1, 9), (9, 5), (9, 5), (9, 6), (9, 6), (9, 6), (4, 4), (9, 60), (4, 4), (9, 60), (4, 4), (9, 60), (4, 4), (9, 60), (8, 31), (9, 4), (9, 4), (9, 240), (9, 5), (9, 5), (9, 6), (9, 6), (9, 6), (9, 5), (9, 5), (9, 6), (9, 6), (9, 6), (9, 6), (9, 6), (9, 6), (9, 8), (9, 8), (9, 8)]
def jx_cl (k : Nat) : Nat := (jx_shL.getD k (99, 0)).1
def jx_sz (k : Nat) : Nat := (jx_shL.getD k (99, 0)).2
set_option maxRecDepth 100000 in
theorem jx_tab : jx_cl 0 = 7 ∧ jx_sz 0 = 10 ∧ jx_cl 1 = 10 ∧ jx_sz 1 = 4 ∧ jx_cl 2 = 6 ∧ jx_sz 2 = 5 ∧ jx_cl 3 = 3 ∧ jx_sz 3 = 4 ∧ jx_cl 4 = 9 ∧ jx_sz 4 = 8 ∧ jx_cl 5 = 9 ∧ jx_sz 5 = 8 ∧ jx_cl 6 = 9 ∧ jx_sz 6 = 8 ∧ jx_cl 7 = 2 ∧ jx_sz 7 = 1 ∧ jx_cl 8 = 9 ∧ jx_sz 8 = 6 ∧ jx_cl 9 = 0 ∧ jx_sz 9 = 6 ∧ jx_cl 10 = 9 ∧ jx_sz 10 = 6 ∧ jx_cl 11 = 9 ∧ jx_sz 11 = 6 ∧ jx_cl 12 = 9 ∧ jx_sz 12 = 4 ∧ jx_cl 13 = 5 ∧ jx_sz 13 = 4 ∧ jx_cl 14 = 9 ∧ jx_sz 14 = 20 ∧ jx_cl 15 = 9 ∧ jx_sz 15 = 6 ∧ jx_cl 16 = 1 ∧ jx_sz 16 = 9 ∧ jx_cl 17 = 9 ∧ jx_sz 17 = 5 ∧ jx_cl 18 = 9 ∧ jx_sz 18 = 5 ∧ jx_cl 19 = 9 ∧ jx_sz 19 = 6 ∧ jx_cl 20 = 9 ∧ jx_sz 20 = 6 ∧ jx_cl 21 = 9 ∧ jx_sz 21 = 6 ∧ jx_cl 22 = 1 ∧ jx_sz 22 = 9 ∧ jx_cl 23 = 9 ∧ jx_sz 23 = 5 ∧ jx_cl 24 = 9 ∧ jx_sz 24 = 5 ∧ jx_cl 25 = 9 ∧ jx_sz 25 = 6 ∧ jx_cl 26 = 9 ∧ jx_sz 26 = 6 ∧ jx_cl 27 = 9 ∧ jx_sz 27 = 6 ∧ jx_cl 28 = 4 ∧ jx_sz 28 = 4 ∧ jx_cl 29 = 9 ∧ jx_sz 29 = 60 ∧ jx_cl 30 = 4 ∧ jx_sz 30 = 4 ∧ jx_cl 31 = 9 ∧ jx_sz 31 = 60 ∧ jx_cl 32 = 4 ∧ jx_sz 32 = 4 ∧ jx_cl 33 = 9 ∧ jx_sz 33 = 60 ∧ jx_cl 34 = 4 ∧ jx_sz 34 = 4 ∧ jx_cl 35 = 9 ∧ jx_sz 35 = 60 ∧ jx_cl 36 = 8 ∧ jx_sz 36 = 31 ∧ jx_cl 37 = 9 ∧ jx_sz 37 = 4 ∧ jx_cl 38 = 9 ∧ jx_sz 38 = 4 ∧ jx_cl 39 = 9 ∧ jx_sz 39 = 240 ∧ jx_cl 40 = 9 ∧ jx_sz 40 = 5 ∧ jx_cl 41 = 9 ∧ jx_sz 41 = 5 ∧ jx_cl 42 = 9 ∧ jx_sz 42 = 6 ∧ jx_cl 43 = 9 ∧ jx_sz 43 = 6 ∧ jx_cl 44 = 9 ∧ jx_sz 44 = 6 ∧ jx_cl 45 = 9 ∧ jx_sz 45 = 5 ∧ jx_cl 46 = 9 ∧ jx_sz 46 = 5 ∧ jx_cl 47 = 9 ∧ jx_sz 47 = 6 ∧ jx_cl 48 = 9 ∧ jx_sz 48 = 6 ∧ jx_cl 49 = 9 ∧ jx_sz 49 = 6 ∧ jx_cl 50 = 9 ∧ jx_sz 50 = 6 ∧ jx_cl 51 = 9 ∧ jx_sz 51 = 6 ∧ jx_cl 52 = 9 ∧ jx_sz 52 = 6 ∧ jx_cl 53 = 9 ∧ jx_sz 53 = 8 ∧ jx_cl 54 = 9 ∧ jx_sz 54 = 8 ∧ jx_cl 55 = 9 ∧ jx_sz 55 = 8 := ⟨rfl, rfl, rfl, rfl, rfl, rfl, rfl, rfl, rfl, rfl, rfl, rfl, rfl, rfl, rfl, rfl, rfl, rfl, rfl, rfl, rfl, rfl, rfl, rfl, rfl, rfl, rfl, rfl, rfl, rfl, rfl, rfl, rfl, rfl, rfl, rfl, rfl, rfl, rfl, rfl, rfl, rfl, rfl, rfl, rfl, rfl, rfl, rfl, rfl, rfl, rfl, rfl, rfl, rfl, rfl, rfl, rfl, rfl, rfl, rfl, rfl, rfl, rfl, rfl, rfl, rfl, rfl, rfl, rfl, rfl, rfl, rfl, rfl, rfl, rfl, rfl, rfl, rfl, rfl, rfl, rfl, rfl, rfl, rfl, rfl, rfl, rfl, rfl, rfl, rfl, rfl, rfl, rfl, rfl, rfl, rfl, rfl, rfl, rfl, rfl, rfl, rfl, rfl, rfl, rfl, rfl, rfl, rfl, rfl, rfl, rfl, rfl⟩
def jx_fkL : List (List Nat) := [[4, 0, 5, 6, 2, 0], [4, 5, 6, 7, 8, 0, 0, 0, 0], [4], [4, 5, 6, 0], [4, 0, 0, 1], [4, 5, 0, 0], [2, 2, 0, 0, 0], [4, 5, 6, 10, 12, 16, 2, 2, 0, 0], [0, 0, 4, 5, 6, 0, 0, 0, 0, 7, 8, 9, 10, 11, 0, 0, 0, 0, 0, 12, 13, 14, 15, 16, 17, 18, 19, 0, 20, 21, 22]]
def jx_fk (ci j : Nat) : Nat := (jx_fkL.getD ci []).getD j 0
def jx_vc (ci : Nat) : vw_C := vwCl.getD ci (RX0, TX0, 6)
abbrev jx_rx (ci : Nat) : String := (jx_vc ci).1
abbrev jx_T (ci : Nat) : u_T := (jx_vc ci).2.1
abbrev jx_N (ci : Nat) : Nat := (jx_vc ci).2.2
def jx_ty (ci : Nat) : Nat → FieldType := match ci with
  | 0 => tyX0
  | 1 => tyX1
  | 2 => tyX2
  | 3 => tyX3
  | 4 => tyX4
  | 5 => tyX5
  | 6 => tyX6
  | 7 => tyX7
  | _ => tyX8
def jx_flT : List (Nat × Nat × Nat × Nat) := [(6, 9, 6, 0), (6, 15, 6, 1), (6, 19, 6, 2), (6, 23, 6, 3), (6, 26, 6, 4), (3, 9, 3, 0), (3, 15, 3, 1), (3, 18, 3, 2), (3, 21, 3, 3), (7, 95, 3, 3), (2, 9, 2, 0), (0, 9, 0, 0), (7, 179, 0, 0), (0, 15, 0, 1), (7, 176, 0, 1), (0, 19, 0, 2), (0, 22, 0, 3), (0, 25, 0, 4), (0, 29, 0, 5), (5, 9, 5, 0), (7, 194, 5, 0), (5, 15, 5, 1), (5, 18, 5, 2), (5, 22, 5, 3), (1, 9, 1, 0), (0, 61, 1, 0), (7, 101, 1, 0), (6, 64, 1, 0), (2, 43, 1, 0), (1, 15, 1, 1), (7, 105, 1, 1), (6, 68, 1, 1), (1, 18, 1, 2), (7, 114, 1, 2), (6, 74, 1, 2), (1, 21, 1, 3), (7, 117, 1, 3), (6, 81, 1, 3), (1, 24, 1, 4), (7, 120, 1, 4), (6, 84, 1, 4), (1, 27, 1, 5), (6, 29, 1, 5), (7, 247, 1, 5), (1, 31, 1, 6), (5, 25, 1, 6), (6, 34, 1, 6), (7, 92, 1, 6), (2, 21, 1, 6), (1, 34, 1, 7), (6, 55, 1, 7), (7, 127, 1, 7), (1, 37, 1, 8), (5, 34, 1, 8), (6, 58, 1, 8), (7, 250, 1, 8), (4, 9, 4, 0), (7, 225, 4, 0), (4, 15, 4, 1), (7, 222, 4, 1), (4, 19, 4, 2), (4, 22, 4, 3), (7, 209, 4, 3), (7, 13, 7, 0), (7, 20, 7, 1), (7, 27, 7, 2), (7, 34, 7, 3), (7, 41, 7, 4), (7, 48, 7, 5), (7, 55, 7, 6), (7, 59, 7, 7), (7, 62, 7, 8), (7, 66, 7, 9), (8, 67, 8, 0), (8, 191, 8, 1), (8, 9, 8, 2), (8, 13, 8, 3), (8, 16, 8, 4), (8, 77, 8, 5), (8, 80, 8, 6), (8, 110, 8, 7), (8, 116, 8, 8), (8, 19, 8, 9), (8, 22, 8, 10), (8, 25, 8, 11), (8, 28, 8, 12), (8, 31, 8, 13), (8, 83, 8, 14), (8, 107, 8, 15), (8, 113, 8, 16), (8, 119, 8, 17), (8, 122, 8, 18), (8, 34, 8, 19), (8, 37, 8, 20), (8, 40, 8, 21), (8, 43, 8, 22), (8, 46, 8, 23), (8, 49, 8, 24), (8, 52, 8, 25), (8, 55, 8, 26), (8, 125, 8, 27), (8, 58, 8, 28), (8, 61, 8, 29), (8, 64, 8, 30)]
def jx_fl (o i : Nat) : Option (Nat × Nat) := (jx_flT.find? (fun e => e.1 == o && e.2.1 == i)).map (fun e => e.2.2)
abbrev mX0_findLeast : Nat := 0
abbrev mX0_settleFrom : Nat := 1
abbrev mX0_harmIn : Nat := 2
abbrev mX0_keepBest : Nat := 3
abbrev mX1_stands : Nat := 4
abbrev mX1_hasPerson : Nat := 5
abbrev mX1_hasClap : Nat := 6
abbrev mX1_isFor : Nat := 7
abbrev mX1_clapsFor : Nat := 8
abbrev mX1_everybody : Nat := 9
abbrev mX1_loudness : Nat := 10
abbrev mX1_takerOf : Nat := 11
abbrev mX2_takeMonths : Nat := 12
abbrev mX2_monthsTaken : Nat := 13
abbrev mX2_harmTo : Nat := 14
abbrev mX2_harmIn : Nat := 15
abbrev mX2_harmToAll : Nat := 16
abbrev mX2_mostHarmed : Nat := 17
abbrev mX3_add : Nat := 18
abbrev mX3_bitIfSo : Nat := 19
abbrev mX4_renew : Nat := 20
abbrev mX4_hasCells : Nat := 21
abbrev mX4_faultOfCells : Nat := 22
abbrev mX4_read : Nat := 23
abbrev mX4_write : Nat := 24
abbrev mX5_measure : Nat := 25
abbrev mX5_takeRow : Nat := 26
abbrev mX5_isClap : Nat := 27
abbrev mX5_firstWrong : Nat := 28
abbrev mX5_fits : Nat := 29
abbrev mX5_fillInOrder : Nat := 30
abbrev mX5_fillFrom : Nat := 31
abbrev mX6_firstFault : Nat := 32
abbrev mX6_readsHead : Nat := 33
abbrev mX6_readsPeople : Nat := 34
abbrev mX6_readsPerson : Nat := 35
abbrev mX6_readsClaps : Nat := 36
abbrev mX6_readsClap : Nat := 37
abbrev mX6_takeKind : Nat := 38
abbrev mX6_takeDigit : Nat := 39
abbrev mX6_takes : Nat := 40
abbrev mX6_nextCode : Nat := 41
abbrev mX7_office : Nat := 42
abbrev mX7_takeDraft : Nat := 43
abbrev mX7_ofPerson : Nat := 44
abbrev mX7_ofClap : Nat := 45
abbrev mX7_nerve : Nat := 46
abbrev mX7_damp : Nat := 47
abbrev mX7_send : Nat := 48
abbrev mX7_loud : Nat := 49
abbrev mX7_owner : Nat := 50
abbrev mX7_last : Nat := 51
abbrev mX7_open : Nat := 52
abbrev mX7_isAskedOfOpenings : Nat := 53
abbrev mX7_openingsAnswer : Nat := 54
abbrev mX7_ease : Nat := 55
abbrev mX7_shelf : Nat := 56
abbrev mX7_order : Nat := 57
abbrev mX7_reading : Nat := 58
abbrev mX7_back : Nat := 59
abbrev mX7_sizes : Nat := 60
abbrev mX7_kinds : Nat := 61
abbrev mX7_damps : Nat := 62
abbrev mX7_odds : Nat := 63
abbrev mX7_sheet : Nat := 64
abbrev mX7_lose : Nat := 65
abbrev mX7_put : Nat := 66
abbrev mX7_cell : Nat := 67
abbrev mX7_copy : Nat := 68
abbrev mX7_tell : Nat := 69
abbrev mX7_boomingBody : Nat := 70
abbrev mX7_dryBody : Nat := 71
abbrev mX7_clapBody : Nat := 72
abbrev mX7_leaveInTrace : Nat := 73
abbrev mX7_cork : Nat := 74
abbrev mX7_as : Nat := 75
abbrev mX7_trace : Nat := 76
abbrev mX7_fault : Nat := 77
abbrev mX7_many : Nat := 78
abbrev mX7_isSheet : Nat := 79
abbrev mX7_isLane : Nat := 80
abbrev mX7_isMonth : Nat := 81
abbrev mX7_faultAnswer : Nat := 82
abbrev mX8_fails : Nat := 83
abbrev mX8_lost : Nat := 84
abbrev mX8_within : Nat := 85
abbrev mX8_isSheet : Nat := 86
abbrev mX8_isSort : Nat := 87
abbrev mX8_against : Nat := 88
abbrev mX8_isPerson : Nat := 89
abbrev mX8_isClap : Nat := 90
abbrev mX8_digit : Nat := 91
abbrev mX8_isSign : Nat := 92
abbrev mX8_office : Nat := 93
abbrev mX8_takeOffice : Nat := 94
abbrev mX8_readOffice : Nat := 95
abbrev mX8_readPerson : Nat := 96
abbrev mX8_readClap : Nat := 97
abbrev mX8_clapsOf : Nat := 98
abbrev mX8_ofPerson : Nat := 99
abbrev mX8_ofClap : Nat := 100
abbrev mX8_nerve : Nat := 101
abbrev mX8_damp : Nat := 102
abbrev mX8_send : Nat := 103
abbrev mX8_loudOf : Nat := 104
abbrev mX8_isMonths : Nat := 105
abbrev mX8_loud : Nat := 106
abbrev mX8_ownerOf : Nat := 107
abbrev mX8_owner : Nat := 108
abbrev mX8_last : Nat := 109
abbrev mX8_harmTo : Nat := 110
abbrev mX8_open : Nat := 111
abbrev mX8_tellOpen : Nat := 112
abbrev mX8_findEase : Nat := 113
abbrev mX8_ease : Nat := 114
abbrev mX8_isApart : Nat := 115
abbrev mX8_shelf : Nat := 116
abbrev mX8_mayStand : Nat := 117
abbrev mX8_findOrder : Nat := 118
abbrev mX8_order : Nat := 119
abbrev mX8_reading : Nat := 120
abbrev mX8_back : Nat := 121
abbrev mX8_areSo : Nat := 122
abbrev mX8_sizes : Nat := 123
abbrev mX8_kinds : Nat := 124
abbrev mX8_damps : Nat := 125
abbrev mX8_inLeastTerms : Nat := 126
abbrev mX8_odds : Nat := 127
abbrev mX8_sheet : Nat := 128
abbrev mX8_lose : Nat := 129
abbrev mX8_put : Nat := 130
abbrev mX8_cell : Nat := 131
abbrev mX8_copy : Nat := 132
abbrev mX8_begins : Nat := 133
abbrev mX8_tell : Nat := 134
abbrev mX8_cork : Nat := 135
abbrev mX8_as : Nat := 136
abbrev mX8_trace : Nat := 137
abbrev mX8_fault : Nat := 138
abbrev mX8_many : Nat := 139
def jx_mL : List (MethodName × ByteArray × Nat × Option FieldType × Nat × Bool × Nat) := [(yX0_findLeast, cX0_findLeast, 4, none, 0, false, 2),
  (yX0_settleFrom, cX0_settleFrom, 6, none, 0, true, 3),
  (yX0_harmIn, cX0_harmIn, 2, (some .int), 0, false, 1),
  (yX0_keepBest, cX0_keepBest, 3, none, 0, false, 1),
  (yX1_stands, cX1_stands, 1, (some .boolean), 1, false, 0),
  (yX1_hasPerson, cX1_hasPerson, 2, (some .boolean), 1, false, 1),
  (yX1_hasClap, cX1_hasClap, 2, (some .boolean), 1, false, 1),
  (yX1_isFor, cX1_isFor, 3, (some .boolean), 1, false, 2),
  (yX1_clapsFor, cX1_clapsFor, 4, (some .int), 1, false, 1),
  (yX1_everybody, cX1_everybody, 1, (some .int), 1, false, 0),
  (yX1_loudness, cX1_loudness, 4, (some .int), 1, false, 2),
  (yX1_takerOf, cX1_takerOf, 7, (some .int), 1, false, 3),
  (yX2_takeMonths, cX2_takeMonths, 5, (some .boolean), 2, false, 3),
  (yX2_monthsTaken, cX2_monthsTaken, 4, (some .int), 2, false, 1),
  (yX2_harmTo, cX2_harmTo, 5, (some .int), 2, false, 2),
  (yX2_harmIn, cX2_harmIn, 6, (some .int), 2, false, 3),
  (yX2_harmToAll, cX2_harmToAll, 4, (some .int), 2, false, 1),
  (yX2_mostHarmed, cX2_mostHarmed, 6, (some .int), 2, false, 1),
  (yX3_add, cX3_add, 4, (some .int), 3, false, 3),
  (yX3_bitIfSo, cX3_bitIfSo, 4, (some .int), 3, false, 2),
  (yX4_renew, cX4_renew, 4, none, 4, false, 2),
  (yX4_hasCells, cX4_hasCells, 3, (some .boolean), 4, false, 2),
  (yX4_faultOfCells, cX4_faultOfCells, 4, (some .int), 4, false, 3),
  (yX4_read, cX4_read, 2, (some .int), 4, false, 1),
  (yX4_write, cX4_write, 3, none, 4, false, 2),
  (yX5_measure, cX5_measure, 4, none, 5, false, 2),
  (yX5_takeRow, cX5_takeRow, 5, (some .boolean), 5, false, 3),
  (yX5_isClap, cX5_isClap, 2, (some .boolean), 5, false, 1),
  (yX5_firstWrong, cX5_firstWrong, 4, (some .int), 5, false, 1),
  (yX5_fits, cX5_fits, 5, (some .boolean), 5, false, 3),
  (yX5_fillInOrder, cX5_fillInOrder, 1, (some .boolean), 5, false, 0),
  (yX5_fillFrom, cX5_fillFrom, 4, (some .boolean), 5, true, 3),
  (yX6_firstFault, cX6_firstFault, 6, (some .int), 6, false, 4),
  (yX6_readsHead, cX6_readsHead, 1, (some .boolean), 6, false, 0),
  (yX6_readsPeople, cX6_readsPeople, 2, (some .boolean), 6, false, 0),
  (yX6_readsPerson, cX6_readsPerson, 2, (some .boolean), 6, false, 1),
  (yX6_readsClaps, cX6_readsClaps, 2, (some .boolean), 6, false, 0),
  (yX6_readsClap, cX6_readsClap, 2, (some .boolean), 6, false, 1),
  (yX6_takeKind, cX6_takeKind, 1, (some .int), 6, false, 0),
  (yX6_takeDigit, cX6_takeDigit, 4, (some .int), 6, false, 2),
  (yX6_takes, cX6_takes, 2, (some .boolean), 6, false, 1),
  (yX6_nextCode, cX6_nextCode, 1, (some .int), 6, false, 0),
  (yX7_office, cX7_office, 7, (some .int), 7, false, 4),
  (yX7_takeDraft, cX7_takeDraft, 2, none, 7, false, 0),
  (yX7_ofPerson, cX7_ofPerson, 3, (some .int), 7, false, 2),
  (yX7_ofClap, cX7_ofClap, 3, (some .int), 7, false, 2),
  (yX7_nerve, cX7_nerve, 4, (some .int), 7, false, 2),
  (yX7_damp, cX7_damp, 3, (some .int), 7, false, 1),
  (yX7_send, cX7_send, 4, (some .int), 7, false, 2),
  (yX7_loud, cX7_loud, 3, (some .int), 7, false, 2),
  (yX7_owner, cX7_owner, 3, (some .int), 7, false, 2),
  (yX7_last, cX7_last, 3, (some .int), 7, false, 1),
  (yX7_open, cX7_open, 7, (some .int), 7, false, 5),
  (yX7_isAskedOfOpenings, cX7_isAskedOfOpenings, 1, (some .boolean), 7, true, 1),
  (yX7_openingsAnswer, cX7_openingsAnswer, 2, (some .int), 7, false, 1),
  (yX7_ease, cX7_ease, 3, (some .int), 7, false, 2),
  (yX7_shelf, cX7_shelf, 7, (some .int), 7, false, 5),
  (yX7_order, cX7_order, 3, (some .int), 7, false, 2),
  (yX7_reading, cX7_reading, 4, (some .int), 7, false, 3),
  (yX7_back, cX7_back, 2, (some .int), 7, false, 1),
  (yX7_sizes, cX7_sizes, 5, (some .int), 7, false, 1),
  (yX7_kinds, cX7_kinds, 5, (some .int), 7, false, 1),
  (yX7_damps, cX7_damps, 4, (some .int), 7, false, 0),
  (yX7_odds, cX7_odds, 8, (some .long), 7, false, 3),
  (yX7_sheet, cX7_sheet, 4, (some .int), 7, false, 3),
  (yX7_lose, cX7_lose, 3, (some .int), 7, false, 1),
  (yX7_put, cX7_put, 4, (some .int), 7, false, 3),
  (yX7_cell, cX7_cell, 4, (some .long), 7, false, 3),
  (yX7_copy, cX7_copy, 8, (some .int), 7, false, 5),
  (yX7_tell, cX7_tell, 2, (some .int), 7, false, 1),
  (yX7_boomingBody, cX7_boomingBody, 3, (some .int), 7, false, 1),
  (yX7_dryBody, cX7_dryBody, 2, (some .int), 7, false, 1),
  (yX7_clapBody, cX7_clapBody, 2, (some .int), 7, false, 1),
  (yX7_leaveInTrace, cX7_leaveInTrace, 2, none, 7, false, 1),
  (yX7_cork, cX7_cork, 3, (some .int), 7, false, 1),
  (yX7_as, cX7_as, 3, (some .int), 7, false, 2),
  (yX7_trace, cX7_trace, 1, (some .int), 7, false, 0),
  (yX7_fault, cX7_fault, 1, (some .int), 7, false, 0),
  (yX7_many, cX7_many, 2, (some .int), 7, false, 1),
  (yX7_isSheet, cX7_isSheet, 1, (some .boolean), 7, true, 1),
  (yX7_isLane, cX7_isLane, 1, (some .boolean), 7, true, 1),
  (yX7_isMonth, cX7_isMonth, 1, (some .boolean), 7, true, 1),
  (yX7_faultAnswer, cX7_faultAnswer, 2, (some .int), 7, false, 1),
  (yX8_fails, cX8_fails, 2, (some .int), 8, false, 1),
  (yX8_lost, cX8_lost, 2, (some .long), 8, false, 1),
  (yX8_within, cX8_within, 3, (some .boolean), 8, true, 3),
  (yX8_isSheet, cX8_isSheet, 1, (some .boolean), 8, true, 1),
  (yX8_isSort, cX8_isSort, 1, (some .boolean), 8, true, 1),
  (yX8_against, cX8_against, 5, (some .int), 8, false, 4),
  (yX8_isPerson, cX8_isPerson, 2, (some .boolean), 8, false, 1),
  (yX8_isClap, cX8_isClap, 2, (some .boolean), 8, false, 1),
  (yX8_digit, cX8_digit, 4, (some .int), 8, false, 3),
  (yX8_isSign, cX8_isSign, 3, (some .boolean), 8, false, 2),
  (yX8_office, cX8_office, 7, (some .int), 8, false, 4),
  (yX8_takeOffice, cX8_takeOffice, 2, none, 8, false, 0),
  (yX8_readOffice, cX8_readOffice, 2, (some .boolean), 8, false, 1),
  (yX8_readPerson, cX8_readPerson, 2, (some .boolean), 8, false, 1),
  (yX8_readClap, cX8_readClap, 3, (some .boolean), 8, false, 1),
  (yX8_clapsOf, cX8_clapsOf, 4, (some .int), 8, false, 1),
  (yX8_ofPerson, cX8_ofPerson, 3, (some .int), 8, false, 2),
  (yX8_ofClap, cX8_ofClap, 3, (some .int), 8, false, 2),
  (yX8_nerve, cX8_nerve, 4, (some .int), 8, false, 2),
  (yX8_damp, cX8_damp, 3, (some .int), 8, false, 1),
  (yX8_send, cX8_send, 4, (some .int), 8, false, 2),
  (yX8_loudOf, cX8_loudOf, 4, (some .int), 8, false, 2),
  (yX8_isMonths, cX8_isMonths, 1, (some .boolean), 8, true, 1),
  (yX8_loud, cX8_loud, 3, (some .int), 8, false, 2),
  (yX8_ownerOf, cX8_ownerOf, 6, (some .int), 8, false, 3),
  (yX8_owner, cX8_owner, 3, (some .int), 8, false, 2),
  (yX8_last, cX8_last, 3, (some .int), 8, false, 1),
  (yX8_harmTo, cX8_harmTo, 6, (some .int), 8, false, 1),
  (yX8_open, cX8_open, 8, (some .int), 8, false, 5),
  (yX8_tellOpen, cX8_tellOpen, 7, (some .int), 8, false, 1),
  (yX8_findEase, cX8_findEase, 9, (some .int), 8, false, 1),
  (yX8_ease, cX8_ease, 4, (some .int), 8, false, 2),
  (yX8_isApart, cX8_isApart, 5, (some .boolean), 8, false, 3),
  (yX8_shelf, cX8_shelf, 11, (some .int), 8, false, 5),
  (yX8_mayStand, cX8_mayStand, 4, (some .boolean), 8, false, 2),
  (yX8_findOrder, cX8_findOrder, 3, (some .boolean), 8, false, 1),
  (yX8_order, cX8_order, 3, (some .int), 8, false, 2),
  (yX8_reading, cX8_reading, 4, (some .int), 8, false, 3),
  (yX8_back, cX8_back, 2, (some .int), 8, false, 1),
  (yX8_areSo, cX8_areSo, 2, (some .boolean), 8, false, 0),
  (yX8_sizes, cX8_sizes, 5, (some .int), 8, false, 1),
  (yX8_kinds, cX8_kinds, 5, (some .int), 8, false, 1),
  (yX8_damps, cX8_damps, 4, (some .int), 8, false, 0),
  (yX8_inLeastTerms, cX8_inLeastTerms, 11, (some .long), 8, true, 3),
  (yX8_odds, cX8_odds, 6, (some .long), 8, false, 3),
  (yX8_sheet, cX8_sheet, 5, (some .int), 8, false, 3),
  (yX8_lose, cX8_lose, 3, (some .int), 8, false, 1),
  (yX8_put, cX8_put, 4, (some .int), 8, false, 3),
  (yX8_cell, cX8_cell, 4, (some .long), 8, false, 3),
  (yX8_copy, cX8_copy, 10, (some .int), 8, false, 5),
  (yX8_begins, cX8_begins, 2, none, 8, false, 1),
  (yX8_tell, cX8_tell, 3, (some .int), 8, false, 1),
  (yX8_cork, cX8_cork, 2, (some .int), 8, false, 1),
  (yX8_as, cX8_as, 3, (some .int), 8, false, 2),
  (yX8_trace, cX8_trace, 1, (some .int), 8, false, 0),
  (yX8_fault, cX8_fault, 1, (some .int), 8, false, 0),
  (yX8_many, cX8_many, 2, (some .int), 8, false, 1)]
def jx_mi (y : Nat) : MethodName × ByteArray × Nat × Option FieldType × Nat × Bool × Nat := jx_mL.getD y (yX0_findLeast, cX0_findLeast, 4, none, 0, false, 2)
abbrev jx_mn (y : Nat) : MethodName := (jx_mi y).1
abbrev jx_mb (y : Nat) : ByteArray := (jx_mi y).2.1
abbrev jx_mx (y : Nat) : Nat := (jx_mi y).2.2.1
abbrev jx_mr (y : Nat) : Option FieldType := (jx_mi y).2.2.2.1
abbrev jx_mo (y : Nat) : Nat := (jx_mi y).2.2.2.2.1
abbrev jx_ms (y : Nat) : Bool := (jx_mi y).2.2.2.2.2.1
abbrev jx_mp (y : Nat) : Nat := (jx_mi y).2.2.2.2.2.2
def jx_mlT : List (Nat × Nat × Nat) := [(7, 70, 79), (7, 74, 80), (7, 77, 22), (4, 26, 21), (7, 81, 82), (7, 85, 32), (6, 37, 33), (6, 47, 40), (6, 87, 41), (6, 90, 23), (6, 51, 39), (6, 41, 34), (6, 61, 35), (6, 44, 36), (6, 71, 37), (6, 77, 38), (7, 89, 43), (7, 98, 5), (7, 108, 8), (1, 44, 7), (1, 40, 6), (7, 111, 6), (7, 123, 4), (7, 130, 81), (7, 133, 10), (7, 137, 9), (7, 141, 11), (1, 48, 10), (1, 52, 5), (7, 144, 53), (7, 147, 12), (2, 15, 23), (7, 151, 54), (7, 154, 16), (2, 51, 14), (2, 27, 15), (2, 31, 7), (2, 35, 10), (2, 39, 5), (7, 158, 13), (7, 161, 17), (7, 164, 14), (7, 168, 7), (7, 172, 0), (0, 35, 1), (0, 39, 3), (0, 43, 7), (0, 49, 10), (0, 53, 2), (0, 57, 5), (7, 182, 25), (5, 35, 10), (7, 185, 26), (5, 38, 23), (5, 44, 27), (7, 188, 28), (5, 48, 29), (7, 191, 30), (5, 55, 31), (7, 197, 18), (7, 200, 19), (3, 25, 10), (7, 205, 20), (7, 213, 21), (7, 216, 24), (7, 219, 23), (7, 234, 70), (7, 243, 73), (7, 237, 71), (7, 240, 72), (8, 86, 86), (8, 73, 85), (8, 90, 87), (8, 93, 88), (8, 97, 83), (8, 101, 95), (8, 128, 92), (8, 132, 91), (8, 136, 96), (8, 139, 97), (8, 104, 94), (8, 142, 89), (8, 145, 98), (8, 148, 90), (8, 151, 105), (8, 154, 104), (8, 158, 107), (8, 161, 112), (8, 164, 110), (8, 167, 113), (8, 170, 115), (8, 176, 118), (8, 173, 117), (8, 179, 122), (8, 187, 84), (8, 194, 133)]
def jx_ml (o i : Nat) : Option Nat := (jx_mlT.find? (fun e => e.1 == o && e.2.1 == i)).map (fun e => e.2.2)
def jx_biT : List (Nat × Nat × Nat) := [(2, 46, 1), (0, 64, 1), (5, 28, 2), (5, 52, 3), (7, 228, 4), (8, 183, 5)]
def jx_bi (o i : Nat) : Nat := ((jx_biT.find? (fun e => e.1 == o && e.2.1 == i)).map (fun e => e.2.2)).getD 0
def jx_TB : List Cond := lw_tbl.filter goodWord
set_option maxRecDepth 100000 in
theorem jx_mem {w : Cond} (i : Nat) (h : lw_tbl[i]? = some w) (hg : goodWord w = true) : w ∈ jx_TB := List.mem_filter.mpr ⟨List.mem_of_getElem? h, hg⟩
set_option maxRecDepth 100000 in
theorem jx_flw : ∀ e ∈ jx_flT, Cond.fieldLink (jx_rx e.1) e.2.1 (jx_T e.2.2.1 e.2.2.2).1 (jx_T e.2.2.1 e.2.2.2).2.1 (jx_T e.2.2.1 e.2.2.2).2.2.1 ∈ jx_TB ∧ e.2.2.1 < 9 ∧ e.2.2.2 < jx_N e.2.2.1 := by
  unfold jx_flT
  refine List.forall_mem_cons.mpr ⟨?_, List.forall_mem_cons.mpr ⟨?_, List.forall_mem_cons.mpr ⟨?_, List.forall_mem_cons.mpr ⟨?_, List.forall_mem_cons.mpr ⟨?_, List.forall_mem_cons.mpr ⟨?_, List.forall_mem_cons.mpr ⟨?_, List.forall_mem_cons.mpr ⟨?_, List.forall_mem_cons.mpr ⟨?_, List.forall_mem_cons.mpr ⟨?_, List.forall_mem_cons.mpr ⟨?_, List.forall_mem_cons.mpr ⟨?_, List.forall_mem_cons.mpr ⟨?_, List.forall_mem_cons.mpr ⟨?_, List.forall_mem_cons.mpr ⟨?_, List.forall_mem_cons.mpr ⟨?_, List.forall_mem_cons.mpr ⟨?_, List.forall_mem_cons.mpr ⟨?_, List.forall_mem_cons.mpr ⟨?_, List.forall_mem_cons.mpr ⟨?_, List.forall_mem_cons.mpr ⟨?_, List.forall_mem_cons.mpr ⟨?_, List.forall_mem_cons.mpr ⟨?_, List.forall_mem_cons.mpr ⟨?_, List.forall_mem_cons.mpr ⟨?_, List.forall_mem_cons.mpr ⟨?_, List.forall_mem_cons.mpr ⟨?_, List.forall_mem_cons.mpr ⟨?_, List.forall_mem_cons.mpr ⟨?_, List.forall_mem_cons.mpr ⟨?_, List.forall_mem_cons.mpr ⟨?_, List.forall_mem_cons.mpr ⟨?_, List.forall_mem_cons.mpr ⟨?_, List.forall_mem_cons.mpr ⟨?_, List.forall_mem_cons.mpr ⟨?_, List.forall_mem_cons.mpr ⟨?_, List.forall_mem_cons.mpr ⟨?_, List.forall_mem_cons.mpr ⟨?_, List.forall_mem_cons.mpr ⟨?_, List.forall_mem_cons.mpr ⟨?_, List.forall_mem_cons.mpr ⟨?_, List.forall_mem_cons.mpr ⟨?_, List.forall_mem_cons.mpr ⟨?_, List.forall_mem_cons.mpr ⟨?_, List.forall_mem_cons.mpr ⟨?_, List.forall_mem_cons.mpr ⟨?_, List.forall_mem_cons.mpr ⟨?_, List.forall_mem_cons.mpr ⟨?_, List.forall_mem_cons.mpr ⟨?_, List.forall_mem_cons.mpr ⟨?_, List.forall_mem_cons.mpr ⟨?_, List.forall_mem_cons.mpr ⟨?_, List.forall_mem_cons.mpr ⟨?_, List.forall_mem_cons.mpr ⟨?_, List.forall_mem_cons.mpr ⟨?_, List.forall_mem_cons.mpr ⟨?_, List.forall_mem_cons.mpr ⟨?_, List.forall_mem_cons.mpr ⟨?_, List.forall_mem_cons.mpr ⟨?_, List.forall_mem_cons.mpr ⟨?_, List.forall_mem_cons.mpr ⟨?_, List.forall_mem_cons.mpr ⟨?_, List.forall_mem_cons.mpr ⟨?_, List.forall_mem_cons.mpr ⟨?_, List.forall_mem_cons.mpr ⟨?_, List.forall_mem_cons.mpr ⟨?_, List.forall_mem_cons.mpr ⟨?_, List.forall_mem_cons.mpr ⟨?_, List.forall_mem_cons.mpr ⟨?_, List.forall_mem_cons.mpr ⟨?_, List.forall_mem_cons.mpr ⟨?_, List.forall_mem_cons.mpr ⟨?_, List.forall_mem_cons.mpr ⟨?_, List.forall_mem_cons.mpr ⟨?_, List.forall_mem_cons.mpr ⟨?_, List.forall_mem_cons.mpr ⟨?_, List.forall_mem_cons.mpr ⟨?_, List.forall_mem_cons.mpr ⟨?_, List.forall_mem_cons.mpr ⟨?_, List.forall_mem_cons.mpr ⟨?_, List.forall_mem_cons.mpr ⟨?_, List.forall_mem_cons.mpr ⟨?_, List.forall_mem_cons.mpr ⟨?_, List.forall_mem_cons.mpr ⟨?_, List.forall_mem_cons.mpr ⟨?_, List.forall_mem_cons.mpr ⟨?_, List.forall_mem_cons.mpr ⟨?_, List.forall_mem_cons.mpr ⟨?_, List.forall_mem_cons.mpr ⟨?_, List.forall_mem_cons.mpr ⟨?_, List.forall_mem_cons.mpr ⟨?_, List.forall_mem_cons.mpr ⟨?_, List.forall_mem_cons.mpr ⟨?_, List.forall_mem_cons.mpr ⟨?_, List.forall_mem_cons.mpr ⟨?_, List.forall_mem_cons.mpr ⟨?_, List.forall_mem_cons.mpr ⟨?_, List.forall_mem_cons.mpr ⟨?_, List.forall_mem_cons.mpr ⟨?_, List.forall_mem_cons.mpr ⟨?_, List.forall_mem_cons.mpr ⟨?_, List.forall_mem_cons.mpr ⟨?_, List.forall_mem_cons.mpr ⟨?_, List.forall_mem_cons.mpr ⟨?_, fun _ h => absurd h List.not_mem_nil⟩⟩⟩⟩⟩⟩⟩⟩⟩⟩⟩⟩⟩⟩⟩⟩⟩⟩⟩⟩⟩⟩⟩⟩⟩⟩⟩⟩⟩⟩⟩⟩⟩⟩⟩⟩⟩⟩⟩⟩⟩⟩⟩⟩⟩⟩⟩⟩⟩⟩⟩⟩⟩⟩⟩⟩⟩⟩⟩⟩⟩⟩⟩⟩⟩⟩⟩⟩⟩⟩⟩⟩⟩⟩⟩⟩⟩⟩⟩⟩⟩⟩⟩⟩⟩⟩⟩⟩⟩⟩⟩⟩⟩⟩⟩⟩⟩⟩⟩⟩⟩⟩⟩⟩
  · exact ⟨jx_mem 71 rfl rfl, by decide, by decide⟩
  · exact ⟨jx_mem 72 rfl rfl, by decide, by decide⟩
  · exact ⟨jx_mem 73 rfl rfl, by decide, by decide⟩
  · exact ⟨jx_mem 74 rfl rfl, by decide, by decide⟩
  · exact ⟨jx_mem 75 rfl rfl, by decide, by decide⟩
  · exact ⟨jx_mem 93 rfl rfl, by decide, by decide⟩
  · exact ⟨jx_mem 94 rfl rfl, by decide, by decide⟩
  · exact ⟨jx_mem 95 rfl rfl, by decide, by decide⟩
  · exact ⟨jx_mem 96 rfl rfl, by decide, by decide⟩
  · exact ⟨jx_mem 97 rfl rfl, by decide, by decide⟩
  · exact ⟨jx_mem 114 rfl rfl, by decide, by decide⟩
  · exact ⟨jx_mem 124 rfl rfl, by decide, by decide⟩
  · exact ⟨jx_mem 125 rfl rfl, by decide, by decide⟩
  · exact ⟨jx_mem 126 rfl rfl, by decide, by decide⟩
  · exact ⟨jx_mem 127 rfl rfl, by decide, by decide⟩
  · exact ⟨jx_mem 128 rfl rfl, by decide, by decide⟩
  · exact ⟨jx_mem 129 rfl rfl, by decide, by decide⟩
  · exact ⟨jx_mem 130 rfl rfl, by decide, by decide⟩
  · exact ⟨jx_mem 131 rfl rfl, by decide, by decide⟩
  · exact ⟨jx_mem 151 rfl rfl, by decide, by decide⟩
  · exact ⟨jx_mem 152 rfl rfl, by decide, by decide⟩
  · exact ⟨jx_mem 153 rfl rfl, by decide, by decide⟩
  · exact ⟨jx_mem 154 rfl rfl, by decide, by decide⟩
  · exact ⟨jx_mem 155 rfl rfl, by decide, by decide⟩
  · exact ⟨jx_mem 171 rfl rfl, by decide, by decide⟩
  · exact ⟨jx_mem 172 rfl rfl, by decide, by decide⟩
  · exact ⟨jx_mem 173 rfl rfl, by decide, by decide⟩
  · exact ⟨jx_mem 174 rfl rfl, by decide, by decide⟩
  · exact ⟨jx_mem 175 rfl rfl, by decide, by decide⟩
  · exact ⟨jx_mem 176 rfl rfl, by decide, by decide⟩
  · exact ⟨jx_mem 177 rfl rfl, by decide, by decide⟩
  · exact ⟨jx_mem 178 rfl rfl, by decide, by decide⟩
  · exact ⟨jx_mem 179 rfl rfl, by decide, by decide⟩
  · exact ⟨jx_mem 180 rfl rfl, by decide, by decide⟩
  · exact ⟨jx_mem 181 rfl rfl, by decide, by decide⟩
  · exact ⟨jx_mem 182 rfl rfl, by decide, by decide⟩
  · exact ⟨jx_mem 183 rfl rfl, by decide, by decide⟩
  · exact ⟨jx_mem 184 rfl rfl, by decide, by decide⟩
  · exact ⟨jx_mem 185 rfl rfl, by decide, by decide⟩
  · exact ⟨jx_mem 186 rfl rfl, by decide, by decide⟩
  · exact ⟨jx_mem 187 rfl rfl, by decide, by decide⟩
  · exact ⟨jx_mem 188 rfl rfl, by decide, by decide⟩
  · exact ⟨jx_mem 189 rfl rfl, by decide, by decide⟩
  · exact ⟨jx_mem 190 rfl rfl, by decide, by decide⟩
  · exact ⟨jx_mem 191 rfl rfl, by decide, by decide⟩
  · exact ⟨jx_mem 192 rfl rfl, by decide, by decide⟩
  · exact ⟨jx_mem 193 rfl rfl, by decide, by decide⟩
  · exact ⟨jx_mem 194 rfl rfl, by decide, by decide⟩
  · exact ⟨jx_mem 195 rfl rfl, by decide, by decide⟩
  · exact ⟨jx_mem 196 rfl rfl, by decide, by decide⟩
  · exact ⟨jx_mem 197 rfl rfl, by decide, by decide⟩
  · exact ⟨jx_mem 198 rfl rfl, by decide, by decide⟩
  · exact ⟨jx_mem 199 rfl rfl, by decide, by decide⟩
  · exact ⟨jx_mem 200 rfl rfl, by decide, by decide⟩
  · exact ⟨jx_mem 201 rfl rfl, by decide, by decide⟩
  · exact ⟨jx_mem 202 rfl rfl, by decide, by decide⟩
  · exact ⟨jx_mem 227 rfl rfl, by decide, by decide⟩
  · exact ⟨jx_mem 228 rfl rfl, by decide, by decide⟩
  · exact ⟨jx_mem 229 rfl rfl, by decide, by decide⟩
  · exact ⟨jx_mem 230 rfl rfl, by decide, by decide⟩
  · exact ⟨jx_mem 231 rfl rfl, by decide, by decide⟩
  · exact ⟨jx_mem 232 rfl rfl, by decide, by decide⟩
  · exact ⟨jx_mem 233 rfl rfl, by decide, by decide⟩
  · exact ⟨jx_mem 243 rfl rfl, by decide, by decide⟩
  · exact ⟨jx_mem 244 rfl rfl, by decide, by decide⟩
  · exact ⟨jx_mem 245 rfl rfl, by decide, by decide⟩
  · exact ⟨jx_mem 246 rfl rfl, by decide, by decide⟩
  · exact ⟨jx_mem 247 rfl rfl, by decide, by decide⟩
  · exact ⟨jx_mem 248 rfl rfl, by decide, by decide⟩
  · exact ⟨jx_mem 249 rfl rfl, by decide, by decide⟩
  · exact ⟨jx_mem 250 rfl rfl, by decide, by decide⟩
  · exact ⟨jx_mem 251 rfl rfl, by decide, by decide⟩
  · exact ⟨jx_mem 252 rfl rfl, by decide, by decide⟩
  · exact ⟨jx_mem 638 rfl rfl, by decide, by decide⟩
  · exact ⟨jx_mem 639 rfl rfl, by decide, by decide⟩
  · exact ⟨jx_mem 640 rfl rfl, by decide, by decide⟩
  · exact ⟨jx_mem 641 rfl rfl, by decide, by decide⟩
  · exact ⟨jx_mem 642 rfl rfl, by decide, by decide⟩
  · exact ⟨jx_mem 643 rfl rfl, by decide, by decide⟩
  · exact ⟨jx_mem 644 rfl rfl, by decide, by decide⟩
  · exact ⟨jx_mem 645 rfl rfl, by decide, by decide⟩
  · exact ⟨jx_mem 646 rfl rfl, by decide, by decide⟩
  · exact ⟨jx_mem 647 rfl rfl, by decide, by decide⟩
  · exact ⟨jx_mem 648 rfl rfl, by decide, by decide⟩
  · exact ⟨jx_mem 649 rfl rfl, by decide, by decide⟩
  · exact ⟨jx_mem 650 rfl rfl, by decide, by decide⟩
  · exact ⟨jx_mem 651 rfl rfl, by decide, by decide⟩
  · exact ⟨jx_mem 652 rfl rfl, by decide, by decide⟩
  · exact ⟨jx_mem 653 rfl rfl, by decide, by decide⟩
  · exact ⟨jx_mem 654 rfl rfl, by decide, by decide⟩
  · exact ⟨jx_mem 655 rfl rfl, by decide, by decide⟩
  · exact ⟨jx_mem 656 rfl rfl, by decide, by decide⟩
  · exact ⟨jx_mem 657 rfl rfl, by decide, by decide⟩
  · exact ⟨jx_mem 658 rfl rfl, by decide, by decide⟩
  · exact ⟨jx_mem 659 rfl rfl, by decide, by decide⟩
  · exact ⟨jx_mem 660 rfl rfl, by decide, by decide⟩
  · exact ⟨jx_mem 661 rfl rfl, by decide, by decide⟩
  · exact ⟨jx_mem 662 rfl rfl, by decide, by decide⟩
  · exact ⟨jx_mem 663 rfl rfl, by decide, by decide⟩
  · exact ⟨jx_mem 664 rfl rfl, by decide, by decide⟩
  · exact ⟨jx_mem 665 rfl rfl, by decide, by decide⟩
  · exact ⟨jx_mem 666 rfl rfl, by decide, by decide⟩
  · exact ⟨jx_mem 667 rfl rfl, by decide, by decide⟩
  · exact ⟨jx_mem 668 rfl rfl, by decide, by decide⟩
set_option maxRecDepth 100000 in
theorem jx_mlw : ∀ e ∈ jx_mlT, Cond.methodLink (jx_rx e.1) e.2.1 (jx_mn e.2.2) ∈ jx_TB ∧ e.2.2 < 140 := by
  unfold jx_mlT
  refine List.forall_mem_cons.mpr ⟨?_, List.forall_mem_cons.mpr ⟨?_, List.forall_mem_cons.mpr ⟨?_, List.forall_mem_cons.mpr ⟨?_, List.forall_mem_cons.mpr ⟨?_, List.forall_mem_cons.mpr ⟨?_, List.forall_mem_cons.mpr ⟨?_, List.forall_mem_cons.mpr ⟨?_, List.forall_mem_cons.mpr ⟨?_, List.forall_mem_cons.mpr ⟨?_, List.forall_mem_cons.mpr ⟨?_, List.forall_mem_cons.mpr ⟨?_, List.forall_mem_cons.mpr ⟨?_, List.forall_mem_cons.mpr ⟨?_, List.forall_mem_cons.mpr ⟨?_, List.forall_mem_cons.mpr ⟨?_, List.forall_mem_cons.mpr ⟨?_, List.forall_mem_cons.mpr ⟨?_, List.forall_mem_cons.mpr ⟨?_, List.forall_mem_cons.mpr ⟨?_, List.forall_mem_cons.mpr ⟨?_, List.forall_mem_cons.mpr ⟨?_, List.forall_mem_cons.mpr ⟨?_, List.forall_mem_cons.mpr ⟨?_, List.forall_mem_cons.mpr ⟨?_, List.forall_mem_cons.mpr ⟨?_, List.forall_mem_cons.mpr ⟨?_, List.forall_mem_cons.mpr ⟨?_, List.forall_mem_cons.mpr ⟨?_, List.forall_mem_cons.mpr ⟨?_, List.forall_mem_cons.mpr ⟨?_, List.forall_mem_cons.mpr ⟨?_, List.forall_mem_cons.mpr ⟨?_, List.forall_mem_cons.mpr ⟨?_, List.forall_mem_cons.mpr ⟨?_, List.forall_mem_cons.mpr ⟨?_, List.forall_mem_cons.mpr ⟨?_, List.forall_mem_cons.mpr ⟨?_, List.forall_mem_cons.mpr ⟨?_, List.forall_mem_cons.mpr ⟨?_, List.forall_mem_cons.mpr ⟨?_, List.forall_mem_cons.mpr ⟨?_, List.forall_mem_cons.mpr ⟨?_, List.forall_mem_cons.mpr ⟨?_, List.forall_mem_cons.mpr ⟨?_, List.forall_mem_cons.mpr ⟨?_, List.forall_mem_cons.mpr ⟨?_, List.forall_mem_cons.mpr ⟨?_, List.forall_mem_cons.mpr ⟨?_, List.forall_mem_cons.mpr ⟨?_, List.forall_mem_cons.mpr ⟨?_, List.forall_mem_cons.mpr ⟨?_, List.forall_mem_cons.mpr ⟨?_, List.forall_mem_cons.mpr ⟨?_, List.forall_mem_cons.mpr ⟨?_, List.forall_mem_cons.mpr ⟨?_, List.forall_mem_cons.mpr ⟨?_, List.forall_mem_cons.mpr ⟨?_, List.forall_mem_cons.mpr ⟨?_, List.forall_mem_cons.mpr ⟨?_, List.forall_mem_cons.mpr ⟨?_, List.forall_mem_cons.mpr ⟨?_, List.forall_mem_cons.mpr ⟨?_, List.forall_mem_cons.mpr ⟨?_, List.forall_mem_cons.mpr ⟨?_, List.forall_mem_cons.mpr ⟨?_, List.forall_mem_cons.mpr ⟨?_, List.forall_mem_cons.mpr ⟨?_, List.forall_mem_cons.mpr ⟨?_, List.forall_mem_cons.mpr ⟨?_, List.forall_mem_cons.mpr ⟨?_, List.forall_mem_cons.mpr ⟨?_, List.forall_mem_cons.mpr ⟨?_, List.forall_mem_cons.mpr ⟨?_, List.forall_mem_cons.mpr ⟨?_, List.forall_mem_cons.mpr ⟨?_, List.forall_mem_cons.mpr ⟨?_, List.forall_mem_cons.mpr ⟨?_, List.forall_mem_cons.mpr ⟨?_, List.forall_mem_cons.mpr ⟨?_, List.forall_mem_cons.mpr ⟨?_, List.forall_mem_cons.mpr ⟨?_, List.forall_mem_cons.mpr ⟨?_, List.forall_mem_cons.mpr ⟨?_, List.forall_mem_cons.mpr ⟨?_, List.forall_mem_cons.mpr ⟨?_, List.forall_mem_cons.mpr ⟨?_, List.forall_mem_cons.mpr ⟨?_, List.forall_mem_cons.mpr ⟨?_, List.forall_mem_cons.mpr ⟨?_, List.forall_mem_cons.mpr ⟨?_, List.forall_mem_cons.mpr ⟨?_, List.forall_mem_cons.mpr ⟨?_, List.forall_mem_cons.mpr ⟨?_, List.forall_mem_cons.mpr ⟨?_, List.forall_mem_cons.mpr ⟨?_, fun _ h => absurd h List.not_mem_nil⟩⟩⟩⟩⟩⟩⟩⟩⟩⟩⟩⟩⟩⟩⟩⟩⟩⟩⟩⟩⟩⟩⟩⟩⟩⟩⟩⟩⟩⟩⟩⟩⟩⟩⟩⟩⟩⟩⟩⟩⟩⟩⟩⟩⟩⟩⟩⟩⟩⟩⟩⟩⟩⟩⟩⟩⟩⟩⟩⟩⟩⟩⟩⟩⟩⟩⟩⟩⟩⟩⟩⟩⟩⟩⟩⟩⟩⟩⟩⟩⟩⟩⟩⟩⟩⟩⟩⟩⟩⟩⟩⟩⟩⟩⟩⟩
  · exact ⟨jx_mem 278 rfl rfl, by decide⟩
  · exact ⟨jx_mem 281 rfl rfl, by decide⟩
  · exact ⟨jx_mem 284 rfl rfl, by decide⟩
  · exact ⟨jx_mem 288 rfl rfl, by decide⟩
  · exact ⟨jx_mem 292 rfl rfl, by decide⟩
  · exact ⟨jx_mem 296 rfl rfl, by decide⟩
  · exact ⟨jx_mem 300 rfl rfl, by decide⟩
  · exact ⟨jx_mem 304 rfl rfl, by decide⟩
  · exact ⟨jx_mem 308 rfl rfl, by decide⟩
  · exact ⟨jx_mem 312 rfl rfl, by decide⟩
  · exact ⟨jx_mem 316 rfl rfl, by decide⟩
  · exact ⟨jx_mem 320 rfl rfl, by decide⟩
  · exact ⟨jx_mem 324 rfl rfl, by decide⟩
  · exact ⟨jx_mem 328 rfl rfl, by decide⟩
  · exact ⟨jx_mem 332 rfl rfl, by decide⟩
  · exact ⟨jx_mem 336 rfl rfl, by decide⟩
  · exact ⟨jx_mem 340 rfl rfl, by decide⟩
  · exact ⟨jx_mem 348 rfl rfl, by decide⟩
  · exact ⟨jx_mem 352 rfl rfl, by decide⟩
  · exact ⟨jx_mem 356 rfl rfl, by decide⟩
  · exact ⟨jx_mem 360 rfl rfl, by decide⟩
  · exact ⟨jx_mem 368 rfl rfl, by decide⟩
  · exact ⟨jx_mem 377 rfl rfl, by decide⟩
  · exact ⟨jx_mem 389 rfl rfl, by decide⟩
  · exact ⟨jx_mem 392 rfl rfl, by decide⟩
  · exact ⟨jx_mem 400 rfl rfl, by decide⟩
  · exact ⟨jx_mem 404 rfl rfl, by decide⟩
  · exact ⟨jx_mem 408 rfl rfl, by decide⟩
  · exact ⟨jx_mem 409 rfl rfl, by decide⟩
  · exact ⟨jx_mem 418 rfl rfl, by decide⟩
  · exact ⟨jx_mem 421 rfl rfl, by decide⟩
  · exact ⟨jx_mem 425 rfl rfl, by decide⟩
  · exact ⟨jx_mem 426 rfl rfl, by decide⟩
  · exact ⟨jx_mem 430 rfl rfl, by decide⟩
  · exact ⟨jx_mem 434 rfl rfl, by decide⟩
  · exact ⟨jx_mem 438 rfl rfl, by decide⟩
  · exact ⟨jx_mem 442 rfl rfl, by decide⟩
  · exact ⟨jx_mem 443 rfl rfl, by decide⟩
  · exact ⟨jx_mem 444 rfl rfl, by decide⟩
  · exact ⟨jx_mem 448 rfl rfl, by decide⟩
  · exact ⟨jx_mem 452 rfl rfl, by decide⟩
  · exact ⟨jx_mem 456 rfl rfl, by decide⟩
  · exact ⟨jx_mem 461 rfl rfl, by decide⟩
  · exact ⟨jx_mem 462 rfl rfl, by decide⟩
  · exact ⟨jx_mem 467 rfl rfl, by decide⟩
  · exact ⟨jx_mem 470 rfl rfl, by decide⟩
  · exact ⟨jx_mem 474 rfl rfl, by decide⟩
  · exact ⟨jx_mem 475 rfl rfl, by decide⟩
  · exact ⟨jx_mem 476 rfl rfl, by decide⟩
  · exact ⟨jx_mem 480 rfl rfl, by decide⟩
  · exact ⟨jx_mem 486 rfl rfl, by decide⟩
  · exact ⟨jx_mem 493 rfl rfl, by decide⟩
  · exact ⟨jx_mem 494 rfl rfl, by decide⟩
  · exact ⟨jx_mem 498 rfl rfl, by decide⟩
  · exact ⟨jx_mem 499 rfl rfl, by decide⟩
  · exact ⟨jx_mem 503 rfl rfl, by decide⟩
  · exact ⟨jx_mem 507 rfl rfl, by decide⟩
  · exact ⟨jx_mem 518 rfl rfl, by decide⟩
  · exact ⟨jx_mem 522 rfl rfl, by decide⟩
  · exact ⟨jx_mem 529 rfl rfl, by decide⟩
  · exact ⟨jx_mem 541 rfl rfl, by decide⟩
  · exact ⟨jx_mem 545 rfl rfl, by decide⟩
  · exact ⟨jx_mem 563 rfl rfl, by decide⟩
  · exact ⟨jx_mem 575 rfl rfl, by decide⟩
  · exact ⟨jx_mem 576 rfl rfl, by decide⟩
  · exact ⟨jx_mem 584 rfl rfl, by decide⟩
  · exact ⟨jx_mem 596 rfl rfl, by decide⟩
  · exact ⟨jx_mem 600 rfl rfl, by decide⟩
  · exact ⟨jx_mem 604 rfl rfl, by decide⟩
  · exact ⟨jx_mem 608 rfl rfl, by decide⟩
  · exact ⟨jx_mem 736 rfl rfl, by decide⟩
  · exact ⟨jx_mem 739 rfl rfl, by decide⟩
  · exact ⟨jx_mem 742 rfl rfl, by decide⟩
  · exact ⟨jx_mem 745 rfl rfl, by decide⟩
  · exact ⟨jx_mem 749 rfl rfl, by decide⟩
  · exact ⟨jx_mem 753 rfl rfl, by decide⟩
  · exact ⟨jx_mem 757 rfl rfl, by decide⟩
  · exact ⟨jx_mem 761 rfl rfl, by decide⟩
  · exact ⟨jx_mem 765 rfl rfl, by decide⟩
  · exact ⟨jx_mem 769 rfl rfl, by decide⟩
  · exact ⟨jx_mem 773 rfl rfl, by decide⟩
  · exact ⟨jx_mem 781 rfl rfl, by decide⟩
  · exact ⟨jx_mem 785 rfl rfl, by decide⟩
  · exact ⟨jx_mem 793 rfl rfl, by decide⟩
  · exact ⟨jx_mem 813 rfl rfl, by decide⟩
  · exact ⟨jx_mem 816 rfl rfl, by decide⟩
  · exact ⟨jx_mem 824 rfl rfl, by decide⟩
  · exact ⟨jx_mem 836 rfl rfl, by decide⟩
  · exact ⟨jx_mem 840 rfl rfl, by decide⟩
  · exact ⟨jx_mem 848 rfl rfl, by decide⟩
  · exact ⟨jx_mem 856 rfl rfl, by decide⟩
  · exact ⟨jx_mem 864 rfl rfl, by decide⟩
  · exact ⟨jx_mem 868 rfl rfl, by decide⟩
  · exact ⟨jx_mem 884 rfl rfl, by decide⟩
  · exact ⟨jx_mem 920 rfl rfl, by decide⟩
  · exact ⟨jx_mem 932 rfl rfl, by decide⟩
/-- the words of a method that is called -/
def jx_ok (y : Nat) : Prop := Cond.code (jx_mn y) (jx_mb y) (jx_mx y) (jx_mr y) ∈ jx_TB ∧ Cond.initialized (jx_mn y).cls ∈ jx_TB ∧ (jx_mn y).cls = jx_rx (jx_mo y) ∧ plainName (jx_mn y).cls = true ∧
  ((jx_mn y).cls ≠ "java/lang/invoke/MethodHandle" ∧ (jx_mn y).cls ≠ "java/lang/invoke/VarHandle" ∧ (parseMethodDescriptor (jx_mn y).desc).map (fun d => d.parameters.length) = some (jx_mp y)) ∧ jx_mo y < 9 ∧ jx_mx y ≤ 20 ∧
  (if jx_ms y = true then Cond.static (jx_mn y) ∈ jx_TB else Cond.instanceMethod (jx_mn y) ∈ jx_TB ∧ Cond.selects (jx_rx (jx_mo y)) (jx_mn y) (jx_mn y) ∈ jx_TB)
set_option maxRecDepth 100000 in
theorem jx_ok_0 : jx_ok 0 := ⟨jx_mem 465 rfl rfl, jx_mem 48 rfl rfl, rfl, by decide +kernel, ⟨by decide +kernel, by decide +kernel, by decide +kernel⟩, by decide, by decide, Eq.mpr (if_neg (by decide)) ⟨jx_mem 463 rfl rfl, jx_mem 464 rfl rfl⟩⟩
set_option maxRecDepth 100000 in
theorem jx_ok_1 : jx_ok 1 := ⟨jx_mem 469 rfl rfl, jx_mem 48 rfl rfl, rfl, by decide +kernel, ⟨by decide +kernel, by decide +kernel, by decide +kernel⟩, by decide, by decide, Eq.mpr (if_pos rfl) (jx_mem 468 rfl rfl)⟩
set_option maxRecDepth 100000 in
theorem jx_ok_2 : jx_ok 2 := ⟨jx_mem 479 rfl rfl, jx_mem 48 rfl rfl, rfl, by decide +kernel, ⟨by decide +kernel, by decide +kernel, by decide +kernel⟩, by decide, by decide, Eq.mpr (if_neg (by decide)) ⟨jx_mem 478 rfl rfl, jx_mem 14 rfl rfl⟩⟩
set_option maxRecDepth 100000 in
theorem jx_ok_3 : jx_ok 3 := ⟨jx_mem 473 rfl rfl, jx_mem 48 rfl rfl, rfl, by decide +kernel, ⟨by decide +kernel, by decide +kernel, by decide +kernel⟩, by decide, by decide, Eq.mpr (if_neg (by decide)) ⟨jx_mem 472 rfl rfl, jx_mem 13 rfl rfl⟩⟩
set_option maxRecDepth 100000 in
theorem jx_ok_4 : jx_ok 4 := ⟨jx_mem 380 rfl rfl, jx_mem 50 rfl rfl, rfl, by decide +kernel, ⟨by decide +kernel, by decide +kernel, by decide +kernel⟩, by decide, by decide, Eq.mpr (if_neg (by decide)) ⟨jx_mem 378 rfl rfl, jx_mem 379 rfl rfl⟩⟩
set_option maxRecDepth 100000 in
theorem jx_ok_5 : jx_ok 5 := ⟨jx_mem 351 rfl rfl, jx_mem 50 rfl rfl, rfl, by decide +kernel, ⟨by decide +kernel, by decide +kernel, by decide +kernel⟩, by decide, by decide, Eq.mpr (if_neg (by decide)) ⟨jx_mem 349 rfl rfl, jx_mem 350 rfl rfl⟩⟩
set_option maxRecDepth 100000 in
theorem jx_ok_6 : jx_ok 6 := ⟨jx_mem 363 rfl rfl, jx_mem 50 rfl rfl, rfl, by decide +kernel, ⟨by decide +kernel, by decide +kernel, by decide +kernel⟩, by decide, by decide, Eq.mpr (if_neg (by decide)) ⟨jx_mem 361 rfl rfl, jx_mem 362 rfl rfl⟩⟩
set_option maxRecDepth 100000 in
theorem jx_ok_7 : jx_ok 7 := ⟨jx_mem 359 rfl rfl, jx_mem 50 rfl rfl, rfl, by decide +kernel, ⟨by decide +kernel, by decide +kernel, by decide +kernel⟩, by decide, by decide, Eq.mpr (if_neg (by decide)) ⟨jx_mem 357 rfl rfl, jx_mem 358 rfl rfl⟩⟩
set_option maxRecDepth 100000 in
theorem jx_ok_8 : jx_ok 8 := ⟨jx_mem 355 rfl rfl, jx_mem 50 rfl rfl, rfl, by decide +kernel, ⟨by decide +kernel, by decide +kernel, by decide +kernel⟩, by decide, by decide, Eq.mpr (if_neg (by decide)) ⟨jx_mem 353 rfl rfl, jx_mem 354 rfl rfl⟩⟩
set_option maxRecDepth 100000 in
theorem jx_ok_9 : jx_ok 9 := ⟨jx_mem 403 rfl rfl, jx_mem 50 rfl rfl, rfl, by decide +kernel, ⟨by decide +kernel, by decide +kernel, by decide +kernel⟩, by decide, by decide, Eq.mpr (if_neg (by decide)) ⟨jx_mem 401 rfl rfl, jx_mem 402 rfl rfl⟩⟩
set_option maxRecDepth 100000 in
theorem jx_ok_10 : jx_ok 10 := ⟨jx_mem 395 rfl rfl, jx_mem 50 rfl rfl, rfl, by decide +kernel, ⟨by decide +kernel, by decide +kernel, by decide +kernel⟩, by decide, by decide, Eq.mpr (if_neg (by decide)) ⟨jx_mem 393 rfl rfl, jx_mem 394 rfl rfl⟩⟩
set_option maxRecDepth 100000 in
theorem jx_ok_11 : jx_ok 11 := ⟨jx_mem 407 rfl rfl, jx_mem 50 rfl rfl, rfl, by decide +kernel, ⟨by decide +kernel, by decide +kernel, by decide +kernel⟩, by decide, by decide, Eq.mpr (if_neg (by decide)) ⟨jx_mem 405 rfl rfl, jx_mem 406 rfl rfl⟩⟩
set_option maxRecDepth 100000 in
theorem jx_ok_12 : jx_ok 12 := ⟨jx_mem 424 rfl rfl, jx_mem 47 rfl rfl, rfl, by decide +kernel, ⟨by decide +kernel, by decide +kernel, by decide +kernel⟩, by decide, by decide, Eq.mpr (if_neg (by decide)) ⟨jx_mem 422 rfl rfl, jx_mem 423 rfl rfl⟩⟩
set_option maxRecDepth 100000 in
theorem jx_ok_13 : jx_ok 13 := ⟨jx_mem 451 rfl rfl, jx_mem 47 rfl rfl, rfl, by decide +kernel, ⟨by decide +kernel, by decide +kernel, by decide +kernel⟩, by decide, by decide, Eq.mpr (if_neg (by decide)) ⟨jx_mem 449 rfl rfl, jx_mem 450 rfl rfl⟩⟩
set_option maxRecDepth 100000 in
theorem jx_ok_14 : jx_ok 14 := ⟨jx_mem 437 rfl rfl, jx_mem 47 rfl rfl, rfl, by decide +kernel, ⟨by decide +kernel, by decide +kernel, by decide +kernel⟩, by decide, by decide, Eq.mpr (if_neg (by decide)) ⟨jx_mem 435 rfl rfl, jx_mem 436 rfl rfl⟩⟩
set_option maxRecDepth 100000 in
theorem jx_ok_15 : jx_ok 15 := ⟨jx_mem 441 rfl rfl, jx_mem 47 rfl rfl, rfl, by decide +kernel, ⟨by decide +kernel, by decide +kernel, by decide +kernel⟩, by decide, by decide, Eq.mpr (if_neg (by decide)) ⟨jx_mem 440 rfl rfl, jx_mem 12 rfl rfl⟩⟩
set_option maxRecDepth 100000 in
theorem jx_ok_16 : jx_ok 16 := ⟨jx_mem 433 rfl rfl, jx_mem 47 rfl rfl, rfl, by decide +kernel, ⟨by decide +kernel, by decide +kernel, by decide +kernel⟩, by decide, by decide, Eq.mpr (if_neg (by decide)) ⟨jx_mem 431 rfl rfl, jx_mem 432 rfl rfl⟩⟩
set_option maxRecDepth 100000 in
theorem jx_ok_17 : jx_ok 17 := ⟨jx_mem 455 rfl rfl, jx_mem 47 rfl rfl, rfl, by decide +kernel, ⟨by decide +kernel, by decide +kernel, by decide +kernel⟩, by decide, by decide, Eq.mpr (if_neg (by decide)) ⟨jx_mem 453 rfl rfl, jx_mem 454 rfl rfl⟩⟩
set_option maxRecDepth 100000 in
theorem jx_ok_18 : jx_ok 18 := ⟨jx_mem 532 rfl rfl, jx_mem 46 rfl rfl, rfl, by decide +kernel, ⟨by decide +kernel, by decide +kernel, by decide +kernel⟩, by decide, by decide, Eq.mpr (if_neg (by decide)) ⟨jx_mem 530 rfl rfl, jx_mem 531 rfl rfl⟩⟩
set_option maxRecDepth 100000 in
theorem jx_ok_19 : jx_ok 19 := ⟨jx_mem 544 rfl rfl, jx_mem 46 rfl rfl, rfl, by decide +kernel, ⟨by decide +kernel, by decide +kernel, by decide +kernel⟩, by decide, by decide, Eq.mpr (if_neg (by decide)) ⟨jx_mem 542 rfl rfl, jx_mem 543 rfl rfl⟩⟩
set_option maxRecDepth 100000 in
theorem jx_ok_20 : jx_ok 20 := ⟨jx_mem 566 rfl rfl, jx_mem 51 rfl rfl, rfl, by decide +kernel, ⟨by decide +kernel, by decide +kernel, by decide +kernel⟩, by decide, by decide, Eq.mpr (if_neg (by decide)) ⟨jx_mem 564 rfl rfl, jx_mem 565 rfl rfl⟩⟩
set_option maxRecDepth 100000 in
theorem jx_ok_21 : jx_ok 21 := ⟨jx_mem 291 rfl rfl, jx_mem 51 rfl rfl, rfl, by decide +kernel, ⟨by decide +kernel, by decide +kernel, by decide +kernel⟩, by decide, by decide, Eq.mpr (if_neg (by decide)) ⟨jx_mem 289 rfl rfl, jx_mem 290 rfl rfl⟩⟩
set_option maxRecDepth 100000 in
theorem jx_ok_22 : jx_ok 22 := ⟨jx_mem 287 rfl rfl, jx_mem 51 rfl rfl, rfl, by decide +kernel, ⟨by decide +kernel, by decide +kernel, by decide +kernel⟩, by decide, by decide, Eq.mpr (if_neg (by decide)) ⟨jx_mem 285 rfl rfl, jx_mem 286 rfl rfl⟩⟩
set_option maxRecDepth 100000 in
theorem jx_ok_23 : jx_ok 23 := ⟨jx_mem 315 rfl rfl, jx_mem 51 rfl rfl, rfl, by decide +kernel, ⟨by decide +kernel, by decide +kernel, by decide +kernel⟩, by decide, by decide, Eq.mpr (if_neg (by decide)) ⟨jx_mem 313 rfl rfl, jx_mem 314 rfl rfl⟩⟩
set_option maxRecDepth 100000 in
theorem jx_ok_24 : jx_ok 24 := ⟨jx_mem 579 rfl rfl, jx_mem 51 rfl rfl, rfl, by decide +kernel, ⟨by decide +kernel, by decide +kernel, by decide +kernel⟩, by decide, by decide, Eq.mpr (if_neg (by decide)) ⟨jx_mem 577 rfl rfl, jx_mem 578 rfl rfl⟩⟩
set_option maxRecDepth 100000 in
theorem jx_ok_25 : jx_ok 25 := ⟨jx_mem 489 rfl rfl, jx_mem 49 rfl rfl, rfl, by decide +kernel, ⟨by decide +kernel, by decide +kernel, by decide +kernel⟩, by decide, by decide, Eq.mpr (if_neg (by decide)) ⟨jx_mem 487 rfl rfl, jx_mem 488 rfl rfl⟩⟩
set_option maxRecDepth 100000 in
theorem jx_ok_26 : jx_ok 26 := ⟨jx_mem 497 rfl rfl, jx_mem 49 rfl rfl, rfl, by decide +kernel, ⟨by decide +kernel, by decide +kernel, by decide +kernel⟩, by decide, by decide, Eq.mpr (if_neg (by decide)) ⟨jx_mem 495 rfl rfl, jx_mem 496 rfl rfl⟩⟩
set_option maxRecDepth 100000 in
theorem jx_ok_27 : jx_ok 27 := ⟨jx_mem 502 rfl rfl, jx_mem 49 rfl rfl, rfl, by decide +kernel, ⟨by decide +kernel, by decide +kernel, by decide +kernel⟩, by decide, by decide, Eq.mpr (if_neg (by decide)) ⟨jx_mem 501 rfl rfl, jx_mem 15 rfl rfl⟩⟩
set_option maxRecDepth 100000 in
theorem jx_ok_28 : jx_ok 28 := ⟨jx_mem 506 rfl rfl, jx_mem 49 rfl rfl, rfl, by decide +kernel, ⟨by decide +kernel, by decide +kernel, by decide +kernel⟩, by decide, by decide, Eq.mpr (if_neg (by decide)) ⟨jx_mem 504 rfl rfl, jx_mem 505 rfl rfl⟩⟩
set_option maxRecDepth 100000 in
theorem jx_ok_29 : jx_ok 29 := ⟨jx_mem 510 rfl rfl, jx_mem 49 rfl rfl, rfl, by decide +kernel, ⟨by decide +kernel, by decide +kernel, by decide +kernel⟩, by decide, by decide, Eq.mpr (if_neg (by decide)) ⟨jx_mem 509 rfl rfl, jx_mem 16 rfl rfl⟩⟩
set_option maxRecDepth 100000 in
theorem jx_ok_30 : jx_ok 30 := ⟨jx_mem 521 rfl rfl, jx_mem 49 rfl rfl, rfl, by decide +kernel, ⟨by decide +kernel, by decide +kernel, by decide +kernel⟩, by decide, by decide, Eq.mpr (if_neg (by decide)) ⟨jx_mem 519 rfl rfl, jx_mem 520 rfl rfl⟩⟩
set_option maxRecDepth 100000 in
theorem jx_ok_31 : jx_ok 31 := ⟨jx_mem 524 rfl rfl, jx_mem 49 rfl rfl, rfl, by decide +kernel, ⟨by decide +kernel, by decide +kernel, by decide +kernel⟩, by decide, by decide, Eq.mpr (if_pos rfl) (jx_mem 523 rfl rfl)⟩
set_option maxRecDepth 100000 in
theorem jx_ok_32 : jx_ok 32 := ⟨jx_mem 299 rfl rfl, jx_mem 45 rfl rfl, rfl, by decide +kernel, ⟨by decide +kernel, by decide +kernel, by decide +kernel⟩, by decide, by decide, Eq.mpr (if_neg (by decide)) ⟨jx_mem 297 rfl rfl, jx_mem 298 rfl rfl⟩⟩
set_option maxRecDepth 100000 in
theorem jx_ok_33 : jx_ok 33 := ⟨jx_mem 303 rfl rfl, jx_mem 45 rfl rfl, rfl, by decide +kernel, ⟨by decide +kernel, by decide +kernel, by decide +kernel⟩, by decide, by decide, Eq.mpr (if_neg (by decide)) ⟨jx_mem 302 rfl rfl, jx_mem 1 rfl rfl⟩⟩
set_option maxRecDepth 100000 in
theorem jx_ok_34 : jx_ok 34 := ⟨jx_mem 323 rfl rfl, jx_mem 45 rfl rfl, rfl, by decide +kernel, ⟨by decide +kernel, by decide +kernel, by decide +kernel⟩, by decide, by decide, Eq.mpr (if_neg (by decide)) ⟨jx_mem 322 rfl rfl, jx_mem 5 rfl rfl⟩⟩
set_option maxRecDepth 100000 in
theorem jx_ok_35 : jx_ok 35 := ⟨jx_mem 327 rfl rfl, jx_mem 45 rfl rfl, rfl, by decide +kernel, ⟨by decide +kernel, by decide +kernel, by decide +kernel⟩, by decide, by decide, Eq.mpr (if_neg (by decide)) ⟨jx_mem 326 rfl rfl, jx_mem 6 rfl rfl⟩⟩
set_option maxRecDepth 100000 in
theorem jx_ok_36 : jx_ok 36 := ⟨jx_mem 331 rfl rfl, jx_mem 45 rfl rfl, rfl, by decide +kernel, ⟨by decide +kernel, by decide +kernel, by decide +kernel⟩, by decide, by decide, Eq.mpr (if_neg (by decide)) ⟨jx_mem 330 rfl rfl, jx_mem 7 rfl rfl⟩⟩
set_option maxRecDepth 100000 in
theorem jx_ok_37 : jx_ok 37 := ⟨jx_mem 335 rfl rfl, jx_mem 45 rfl rfl, rfl, by decide +kernel, ⟨by decide +kernel, by decide +kernel, by decide +kernel⟩, by decide, by decide, Eq.mpr (if_neg (by decide)) ⟨jx_mem 334 rfl rfl, jx_mem 8 rfl rfl⟩⟩
set_option maxRecDepth 100000 in
theorem jx_ok_38 : jx_ok 38 := ⟨jx_mem 339 rfl rfl, jx_mem 45 rfl rfl, rfl, by decide +kernel, ⟨by decide +kernel, by decide +kernel, by decide +kernel⟩, by decide, by decide, Eq.mpr (if_neg (by decide)) ⟨jx_mem 338 rfl rfl, jx_mem 9 rfl rfl⟩⟩
set_option maxRecDepth 100000 in
theorem jx_ok_39 : jx_ok 39 := ⟨jx_mem 319 rfl rfl, jx_mem 45 rfl rfl, rfl, by decide +kernel, ⟨by decide +kernel, by decide +kernel, by decide +kernel⟩, by decide, by decide, Eq.mpr (if_neg (by decide)) ⟨jx_mem 318 rfl rfl, jx_mem 4 rfl rfl⟩⟩
set_option maxRecDepth 100000 in
theorem jx_ok_40 : jx_ok 40 := ⟨jx_mem 307 rfl rfl, jx_mem 45 rfl rfl, rfl, by decide +kernel, ⟨by decide +kernel, by decide +kernel, by decide +kernel⟩, by decide, by decide, Eq.mpr (if_neg (by decide)) ⟨jx_mem 306 rfl rfl, jx_mem 2 rfl rfl⟩⟩
set_option maxRecDepth 100000 in
theorem jx_ok_41 : jx_ok 41 := ⟨jx_mem 311 rfl rfl, jx_mem 45 rfl rfl, rfl, by decide +kernel, ⟨by decide +kernel, by decide +kernel, by decide +kernel⟩, by decide, by decide, Eq.mpr (if_neg (by decide)) ⟨jx_mem 310 rfl rfl, jx_mem 3 rfl rfl⟩⟩
set_option maxRecDepth 100000 in
theorem jx_ok_42 : jx_ok 42 := ⟨jx_mem 277 rfl rfl, jx_mem 44 rfl rfl, rfl, by decide +kernel, ⟨by decide +kernel, by decide +kernel, by decide +kernel⟩, by decide, by decide, Eq.mpr (if_neg (by decide)) ⟨jx_mem 275 rfl rfl, jx_mem 276 rfl rfl⟩⟩
set_option maxRecDepth 100000 in
theorem jx_ok_43 : jx_ok 43 := ⟨jx_mem 343 rfl rfl, jx_mem 44 rfl rfl, rfl, by decide +kernel, ⟨by decide +kernel, by decide +kernel, by decide +kernel⟩, by decide, by decide, Eq.mpr (if_neg (by decide)) ⟨jx_mem 342 rfl rfl, jx_mem 10 rfl rfl⟩⟩
set_option maxRecDepth 100000 in
theorem jx_ok_44 : jx_ok 44 := ⟨jx_mem 347 rfl rfl, jx_mem 44 rfl rfl, rfl, by decide +kernel, ⟨by decide +kernel, by decide +kernel, by decide +kernel⟩, by decide, by decide, Eq.mpr (if_neg (by decide)) ⟨jx_mem 345 rfl rfl, jx_mem 346 rfl rfl⟩⟩
set_option maxRecDepth 100000 in
theorem jx_ok_45 : jx_ok 45 := ⟨jx_mem 367 rfl rfl, jx_mem 44 rfl rfl, rfl, by decide +kernel, ⟨by decide +kernel, by decide +kernel, by decide +kernel⟩, by decide, by decide, Eq.mpr (if_neg (by decide)) ⟨jx_mem 365 rfl rfl, jx_mem 366 rfl rfl⟩⟩
set_option maxRecDepth 100000 in
theorem jx_ok_46 : jx_ok 46 := ⟨jx_mem 372 rfl rfl, jx_mem 44 rfl rfl, rfl, by decide +kernel, ⟨by decide +kernel, by decide +kernel, by decide +kernel⟩, by decide, by decide, Eq.mpr (if_neg (by decide)) ⟨jx_mem 370 rfl rfl, jx_mem 371 rfl rfl⟩⟩
set_option maxRecDepth 100000 in
theorem jx_ok_47 : jx_ok 47 := ⟨jx_mem 376 rfl rfl, jx_mem 44 rfl rfl, rfl, by decide +kernel, ⟨by decide +kernel, by decide +kernel, by decide +kernel⟩, by decide, by decide, Eq.mpr (if_neg (by decide)) ⟨jx_mem 374 rfl rfl, jx_mem 375 rfl rfl⟩⟩
set_option maxRecDepth 100000 in
theorem jx_ok_48 : jx_ok 48 := ⟨jx_mem 384 rfl rfl, jx_mem 44 rfl rfl, rfl, by decide +kernel, ⟨by decide +kernel, by decide +kernel, by decide +kernel⟩, by decide, by decide, Eq.mpr (if_neg (by decide)) ⟨jx_mem 382 rfl rfl, jx_mem 383 rfl rfl⟩⟩
set_option maxRecDepth 100000 in
theorem jx_ok_49 : jx_ok 49 := ⟨jx_mem 388 rfl rfl, jx_mem 44 rfl rfl, rfl, by decide +kernel, ⟨by decide +kernel, by decide +kernel, by decide +kernel⟩, by decide, by decide, Eq.mpr (if_neg (by decide)) ⟨jx_mem 386 rfl rfl, jx_mem 387 rfl rfl⟩⟩
set_option maxRecDepth 100000 in
theorem jx_ok_50 : jx_ok 50 := ⟨jx_mem 399 rfl rfl, jx_mem 44 rfl rfl, rfl, by decide +kernel, ⟨by decide +kernel, by decide +kernel, by decide +kernel⟩, by decide, by decide, Eq.mpr (if_neg (by decide)) ⟨jx_mem 397 rfl rfl, jx_mem 398 rfl rfl⟩⟩
set_option maxRecDepth 100000 in
theorem jx_ok_51 : jx_ok 51 := ⟨jx_mem 413 rfl rfl, jx_mem 44 rfl rfl, rfl, by decide +kernel, ⟨by decide +kernel, by decide +kernel, by decide +kernel⟩, by decide, by decide, Eq.mpr (if_neg (by decide)) ⟨jx_mem 411 rfl rfl, jx_mem 412 rfl rfl⟩⟩
set_option maxRecDepth 100000 in
theorem jx_ok_52 : jx_ok 52 := ⟨jx_mem 417 rfl rfl, jx_mem 44 rfl rfl, rfl, by decide +kernel, ⟨by decide +kernel, by decide +kernel, by decide +kernel⟩, by decide, by decide, Eq.mpr (if_neg (by decide)) ⟨jx_mem 415 rfl rfl, jx_mem 416 rfl rfl⟩⟩
set_option maxRecDepth 100000 in
theorem jx_ok_53 : jx_ok 53 := ⟨jx_mem 420 rfl rfl, jx_mem 44 rfl rfl, rfl, by decide +kernel, ⟨by decide +kernel, by decide +kernel, by decide +kernel⟩, by decide, by decide, Eq.mpr (if_pos rfl) (jx_mem 419 rfl rfl)⟩
set_option maxRecDepth 100000 in
theorem jx_ok_54 : jx_ok 54 := ⟨jx_mem 429 rfl rfl, jx_mem 44 rfl rfl, rfl, by decide +kernel, ⟨by decide +kernel, by decide +kernel, by decide +kernel⟩, by decide, by decide, Eq.mpr (if_neg (by decide)) ⟨jx_mem 428 rfl rfl, jx_mem 11 rfl rfl⟩⟩
set_option maxRecDepth 100000 in
theorem jx_ok_55 : jx_ok 55 := ⟨jx_mem 460 rfl rfl, jx_mem 44 rfl rfl, rfl, by decide +kernel, ⟨by decide +kernel, by decide +kernel, by decide +kernel⟩, by decide, by decide, Eq.mpr (if_neg (by decide)) ⟨jx_mem 458 rfl rfl, jx_mem 459 rfl rfl⟩⟩
set_option maxRecDepth 100000 in
theorem jx_ok_56 : jx_ok 56 := ⟨jx_mem 485 rfl rfl, jx_mem 44 rfl rfl, rfl, by decide +kernel, ⟨by decide +kernel, by decide +kernel, by decide +kernel⟩, by decide, by decide, Eq.mpr (if_neg (by decide)) ⟨jx_mem 483 rfl rfl, jx_mem 484 rfl rfl⟩⟩
set_option maxRecDepth 100000 in
theorem jx_ok_57 : jx_ok 57 := ⟨jx_mem 517 rfl rfl, jx_mem 44 rfl rfl, rfl, by decide +kernel, ⟨by decide +kernel, by decide +kernel, by decide +kernel⟩, by decide, by decide, Eq.mpr (if_neg (by decide)) ⟨jx_mem 515 rfl rfl, jx_mem 516 rfl rfl⟩⟩
set_option maxRecDepth 100000 in
theorem jx_ok_58 : jx_ok 58 := ⟨jx_mem 528 rfl rfl, jx_mem 44 rfl rfl, rfl, by decide +kernel, ⟨by decide +kernel, by decide +kernel, by decide +kernel⟩, by decide, by decide, Eq.mpr (if_neg (by decide)) ⟨jx_mem 526 rfl rfl, jx_mem 527 rfl rfl⟩⟩
set_option maxRecDepth 100000 in
theorem jx_ok_59 : jx_ok 59 := ⟨jx_mem 536 rfl rfl, jx_mem 44 rfl rfl, rfl, by decide +kernel, ⟨by decide +kernel, by decide +kernel, by decide +kernel⟩, by decide, by decide, Eq.mpr (if_neg (by decide)) ⟨jx_mem 534 rfl rfl, jx_mem 535 rfl rfl⟩⟩
set_option maxRecDepth 100000 in
theorem jx_ok_60 : jx_ok 60 := ⟨jx_mem 540 rfl rfl, jx_mem 44 rfl rfl, rfl, by decide +kernel, ⟨by decide +kernel, by decide +kernel, by decide +kernel⟩, by decide, by decide, Eq.mpr (if_neg (by decide)) ⟨jx_mem 538 rfl rfl, jx_mem 539 rfl rfl⟩⟩
set_option maxRecDepth 100000 in
theorem jx_ok_61 : jx_ok 61 := ⟨jx_mem 549 rfl rfl, jx_mem 44 rfl rfl, rfl, by decide +kernel, ⟨by decide +kernel, by decide +kernel, by decide +kernel⟩, by decide, by decide, Eq.mpr (if_neg (by decide)) ⟨jx_mem 547 rfl rfl, jx_mem 548 rfl rfl⟩⟩
set_option maxRecDepth 100000 in
theorem jx_ok_62 : jx_ok 62 := ⟨jx_mem 553 rfl rfl, jx_mem 44 rfl rfl, rfl, by decide +kernel, ⟨by decide +kernel, by decide +kernel, by decide +kernel⟩, by decide, by decide, Eq.mpr (if_neg (by decide)) ⟨jx_mem 551 rfl rfl, jx_mem 552 rfl rfl⟩⟩
set_option maxRecDepth 100000 in
theorem jx_ok_63 : jx_ok 63 := ⟨jx_mem 557 rfl rfl, jx_mem 44 rfl rfl, rfl, by decide +kernel, ⟨by decide +kernel, by decide +kernel, by decide +kernel⟩, by decide, by decide, Eq.mpr (if_neg (by decide)) ⟨jx_mem 555 rfl rfl, jx_mem 556 rfl rfl⟩⟩
set_option maxRecDepth 100000 in
theorem jx_ok_64 : jx_ok 64 := ⟨jx_mem 562 rfl rfl, jx_mem 44 rfl rfl, rfl, by decide +kernel, ⟨by decide +kernel, by decide +kernel, by decide +kernel⟩, by decide, by decide, Eq.mpr (if_neg (by decide)) ⟨jx_mem 560 rfl rfl, jx_mem 561 rfl rfl⟩⟩
set_option maxRecDepth 100000 in
theorem jx_ok_65 : jx_ok 65 := ⟨jx_mem 570 rfl rfl, jx_mem 44 rfl rfl, rfl, by decide +kernel, ⟨by decide +kernel, by decide +kernel, by decide +kernel⟩, by decide, by decide, Eq.mpr (if_neg (by decide)) ⟨jx_mem 568 rfl rfl, jx_mem 569 rfl rfl⟩⟩
set_option maxRecDepth 100000 in
theorem jx_ok_66 : jx_ok 66 := ⟨jx_mem 574 rfl rfl, jx_mem 44 rfl rfl, rfl, by decide +kernel, ⟨by decide +kernel, by decide +kernel, by decide +kernel⟩, by decide, by decide, Eq.mpr (if_neg (by decide)) ⟨jx_mem 572 rfl rfl, jx_mem 573 rfl rfl⟩⟩
set_option maxRecDepth 100000 in
theorem jx_ok_67 : jx_ok 67 := ⟨jx_mem 583 rfl rfl, jx_mem 44 rfl rfl, rfl, by decide +kernel, ⟨by decide +kernel, by decide +kernel, by decide +kernel⟩, by decide, by decide, Eq.mpr (if_neg (by decide)) ⟨jx_mem 581 rfl rfl, jx_mem 582 rfl rfl⟩⟩
set_option maxRecDepth 100000 in
theorem jx_ok_68 : jx_ok 68 := ⟨jx_mem 588 rfl rfl, jx_mem 44 rfl rfl, rfl, by decide +kernel, ⟨by decide +kernel, by decide +kernel, by decide +kernel⟩, by decide, by decide, Eq.mpr (if_neg (by decide)) ⟨jx_mem 586 rfl rfl, jx_mem 587 rfl rfl⟩⟩
set_option maxRecDepth 100000 in
theorem jx_ok_69 : jx_ok 69 := ⟨jx_mem 595 rfl rfl, jx_mem 44 rfl rfl, rfl, by decide +kernel, ⟨by decide +kernel, by decide +kernel, by decide +kernel⟩, by decide, by decide, Eq.mpr (if_neg (by decide)) ⟨jx_mem 593 rfl rfl, jx_mem 594 rfl rfl⟩⟩
set_option maxRecDepth 100000 in
theorem jx_ok_70 : jx_ok 70 := ⟨jx_mem 599 rfl rfl, jx_mem 44 rfl rfl, rfl, by decide +kernel, ⟨by decide +kernel, by decide +kernel, by decide +kernel⟩, by decide, by decide, Eq.mpr (if_neg (by decide)) ⟨jx_mem 598 rfl rfl, jx_mem 17 rfl rfl⟩⟩
set_option maxRecDepth 100000 in
theorem jx_ok_71 : jx_ok 71 := ⟨jx_mem 607 rfl rfl, jx_mem 44 rfl rfl, rfl, by decide +kernel, ⟨by decide +kernel, by decide +kernel, by decide +kernel⟩, by decide, by decide, Eq.mpr (if_neg (by decide)) ⟨jx_mem 606 rfl rfl, jx_mem 19 rfl rfl⟩⟩
set_option maxRecDepth 100000 in
theorem jx_ok_72 : jx_ok 72 := ⟨jx_mem 611 rfl rfl, jx_mem 44 rfl rfl, rfl, by decide +kernel, ⟨by decide +kernel, by decide +kernel, by decide +kernel⟩, by decide, by decide, Eq.mpr (if_neg (by decide)) ⟨jx_mem 610 rfl rfl, jx_mem 20 rfl rfl⟩⟩
set_option maxRecDepth 100000 in
theorem jx_ok_73 : jx_ok 73 := ⟨jx_mem 603 rfl rfl, jx_mem 44 rfl rfl, rfl, by decide +kernel, ⟨by decide +kernel, by decide +kernel, by decide +kernel⟩, by decide, by decide, Eq.mpr (if_neg (by decide)) ⟨jx_mem 602 rfl rfl, jx_mem 18 rfl rfl⟩⟩
set_option maxRecDepth 100000 in
theorem jx_ok_74 : jx_ok 74 := ⟨jx_mem 615 rfl rfl, jx_mem 44 rfl rfl, rfl, by decide +kernel, ⟨by decide +kernel, by decide +kernel, by decide +kernel⟩, by decide, by decide, Eq.mpr (if_neg (by decide)) ⟨jx_mem 613 rfl rfl, jx_mem 614 rfl rfl⟩⟩
set_option maxRecDepth 100000 in
theorem jx_ok_75 : jx_ok 75 := ⟨jx_mem 619 rfl rfl, jx_mem 44 rfl rfl, rfl, by decide +kernel, ⟨by decide +kernel, by decide +kernel, by decide +kernel⟩, by decide, by decide, Eq.mpr (if_neg (by decide)) ⟨jx_mem 617 rfl rfl, jx_mem 618 rfl rfl⟩⟩
set_option maxRecDepth 100000 in
theorem jx_ok_76 : jx_ok 76 := ⟨jx_mem 623 rfl rfl, jx_mem 44 rfl rfl, rfl, by decide +kernel, ⟨by decide +kernel, by decide +kernel, by decide +kernel⟩, by decide, by decide, Eq.mpr (if_neg (by decide)) ⟨jx_mem 621 rfl rfl, jx_mem 622 rfl rfl⟩⟩
set_option maxRecDepth 100000 in
theorem jx_ok_77 : jx_ok 77 := ⟨jx_mem 627 rfl rfl, jx_mem 44 rfl rfl, rfl, by decide +kernel, ⟨by decide +kernel, by decide +kernel, by decide +kernel⟩, by decide, by decide, Eq.mpr (if_neg (by decide)) ⟨jx_mem 625 rfl rfl, jx_mem 626 rfl rfl⟩⟩
set_option maxRecDepth 100000 in
theorem jx_ok_78 : jx_ok 78 := ⟨jx_mem 631 rfl rfl, jx_mem 44 rfl rfl, rfl, by decide +kernel, ⟨by decide +kernel, by decide +kernel, by decide +kernel⟩, by decide, by decide, Eq.mpr (if_neg (by decide)) ⟨jx_mem 629 rfl rfl, jx_mem 630 rfl rfl⟩⟩
set_option maxRecDepth 100000 in
theorem jx_ok_79 : jx_ok 79 := ⟨jx_mem 280 rfl rfl, jx_mem 44 rfl rfl, rfl, by decide +kernel, ⟨by decide +kernel, by decide +kernel, by decide +kernel⟩, by decide, by decide, Eq.mpr (if_pos rfl) (jx_mem 279 rfl rfl)⟩
set_option maxRecDepth 100000 in
theorem jx_ok_80 : jx_ok 80 := ⟨jx_mem 283 rfl rfl, jx_mem 44 rfl rfl, rfl, by decide +kernel, ⟨by decide +kernel, by decide +kernel, by decide +kernel⟩, by decide, by decide, Eq.mpr (if_pos rfl) (jx_mem 282 rfl rfl)⟩
set_option maxRecDepth 100000 in
theorem jx_ok_81 : jx_ok 81 := ⟨jx_mem 391 rfl rfl, jx_mem 44 rfl rfl, rfl, by decide +kernel, ⟨by decide +kernel, by decide +kernel, by decide +kernel⟩, by decide, by decide, Eq.mpr (if_pos rfl) (jx_mem 390 rfl rfl)⟩
set_option maxRecDepth 100000 in
theorem jx_ok_82 : jx_ok 82 := ⟨jx_mem 295 rfl rfl, jx_mem 44 rfl rfl, rfl, by decide +kernel, ⟨by decide +kernel, by decide +kernel, by decide +kernel⟩, by decide, by decide, Eq.mpr (if_neg (by decide)) ⟨jx_mem 294 rfl rfl, jx_mem 0 rfl rfl⟩⟩
set_option maxRecDepth 100000 in
theorem jx_ok_83 : jx_ok 83 := ⟨jx_mem 752 rfl rfl, jx_mem 52 rfl rfl, rfl, by decide +kernel, ⟨by decide +kernel, by decide +kernel, by decide +kernel⟩, by decide, by decide, Eq.mpr (if_neg (by decide)) ⟨jx_mem 751 rfl rfl, jx_mem 22 rfl rfl⟩⟩
set_option maxRecDepth 100000 in
theorem jx_ok_84 : jx_ok 84 := ⟨jx_mem 923 rfl rfl, jx_mem 52 rfl rfl, rfl, by decide +kernel, ⟨by decide +kernel, by decide +kernel, by decide +kernel⟩, by decide, by decide, Eq.mpr (if_neg (by decide)) ⟨jx_mem 922 rfl rfl, jx_mem 41 rfl rfl⟩⟩
set_option maxRecDepth 100000 in
theorem jx_ok_85 : jx_ok 85 := ⟨jx_mem 741 rfl rfl, jx_mem 52 rfl rfl, rfl, by decide +kernel, ⟨by decide +kernel, by decide +kernel, by decide +kernel⟩, by decide, by decide, Eq.mpr (if_pos rfl) (jx_mem 740 rfl rfl)⟩
set_option maxRecDepth 100000 in
theorem jx_ok_86 : jx_ok 86 := ⟨jx_mem 738 rfl rfl, jx_mem 52 rfl rfl, rfl, by decide +kernel, ⟨by decide +kernel, by decide +kernel, by decide +kernel⟩, by decide, by decide, Eq.mpr (if_pos rfl) (jx_mem 737 rfl rfl)⟩
set_option maxRecDepth 100000 in
theorem jx_ok_87 : jx_ok 87 := ⟨jx_mem 744 rfl rfl, jx_mem 52 rfl rfl, rfl, by decide +kernel, ⟨by decide +kernel, by decide +kernel, by decide +kernel⟩, by decide, by decide, Eq.mpr (if_pos rfl) (jx_mem 743 rfl rfl)⟩
set_option maxRecDepth 100000 in
theorem jx_ok_88 : jx_ok 88 := ⟨jx_mem 748 rfl rfl, jx_mem 52 rfl rfl, rfl, by decide +kernel, ⟨by decide +kernel, by decide +kernel, by decide +kernel⟩, by decide, by decide, Eq.mpr (if_neg (by decide)) ⟨jx_mem 747 rfl rfl, jx_mem 21 rfl rfl⟩⟩
set_option maxRecDepth 100000 in
theorem jx_ok_89 : jx_ok 89 := ⟨jx_mem 784 rfl rfl, jx_mem 52 rfl rfl, rfl, by decide +kernel, ⟨by decide +kernel, by decide +kernel, by decide +kernel⟩, by decide, by decide, Eq.mpr (if_neg (by decide)) ⟨jx_mem 783 rfl rfl, jx_mem 29 rfl rfl⟩⟩
set_option maxRecDepth 100000 in
theorem jx_ok_90 : jx_ok 90 := ⟨jx_mem 796 rfl rfl, jx_mem 52 rfl rfl, rfl, by decide +kernel, ⟨by decide +kernel, by decide +kernel, by decide +kernel⟩, by decide, by decide, Eq.mpr (if_neg (by decide)) ⟨jx_mem 795 rfl rfl, jx_mem 31 rfl rfl⟩⟩
set_option maxRecDepth 100000 in
theorem jx_ok_91 : jx_ok 91 := ⟨jx_mem 764 rfl rfl, jx_mem 52 rfl rfl, rfl, by decide +kernel, ⟨by decide +kernel, by decide +kernel, by decide +kernel⟩, by decide, by decide, Eq.mpr (if_neg (by decide)) ⟨jx_mem 763 rfl rfl, jx_mem 25 rfl rfl⟩⟩
set_option maxRecDepth 100000 in
theorem jx_ok_92 : jx_ok 92 := ⟨jx_mem 760 rfl rfl, jx_mem 52 rfl rfl, rfl, by decide +kernel, ⟨by decide +kernel, by decide +kernel, by decide +kernel⟩, by decide, by decide, Eq.mpr (if_neg (by decide)) ⟨jx_mem 759 rfl rfl, jx_mem 24 rfl rfl⟩⟩
set_option maxRecDepth 100000 in
theorem jx_ok_93 : jx_ok 93 := ⟨jx_mem 735 rfl rfl, jx_mem 52 rfl rfl, rfl, by decide +kernel, ⟨by decide +kernel, by decide +kernel, by decide +kernel⟩, by decide, by decide, Eq.mpr (if_neg (by decide)) ⟨jx_mem 733 rfl rfl, jx_mem 734 rfl rfl⟩⟩
set_option maxRecDepth 100000 in
theorem jx_ok_94 : jx_ok 94 := ⟨jx_mem 776 rfl rfl, jx_mem 52 rfl rfl, rfl, by decide +kernel, ⟨by decide +kernel, by decide +kernel, by decide +kernel⟩, by decide, by decide, Eq.mpr (if_neg (by decide)) ⟨jx_mem 775 rfl rfl, jx_mem 28 rfl rfl⟩⟩
set_option maxRecDepth 100000 in
theorem jx_ok_95 : jx_ok 95 := ⟨jx_mem 756 rfl rfl, jx_mem 52 rfl rfl, rfl, by decide +kernel, ⟨by decide +kernel, by decide +kernel, by decide +kernel⟩, by decide, by decide, Eq.mpr (if_neg (by decide)) ⟨jx_mem 755 rfl rfl, jx_mem 23 rfl rfl⟩⟩
set_option maxRecDepth 100000 in
theorem jx_ok_96 : jx_ok 96 := ⟨jx_mem 768 rfl rfl, jx_mem 52 rfl rfl, rfl, by decide +kernel, ⟨by decide +kernel, by decide +kernel, by decide +kernel⟩, by decide, by decide, Eq.mpr (if_neg (by decide)) ⟨jx_mem 767 rfl rfl, jx_mem 26 rfl rfl⟩⟩
set_option maxRecDepth 100000 in
theorem jx_ok_97 : jx_ok 97 := ⟨jx_mem 772 rfl rfl, jx_mem 52 rfl rfl, rfl, by decide +kernel, ⟨by decide +kernel, by decide +kernel, by decide +kernel⟩, by decide, by decide, Eq.mpr (if_neg (by decide)) ⟨jx_mem 771 rfl rfl, jx_mem 27 rfl rfl⟩⟩
set_option maxRecDepth 100000 in
theorem jx_ok_98 : jx_ok 98 := ⟨jx_mem 788 rfl rfl, jx_mem 52 rfl rfl, rfl, by decide +kernel, ⟨by decide +kernel, by decide +kernel, by decide +kernel⟩, by decide, by decide, Eq.mpr (if_neg (by decide)) ⟨jx_mem 787 rfl rfl, jx_mem 30 rfl rfl⟩⟩
set_option maxRecDepth 100000 in
theorem jx_ok_99 : jx_ok 99 := ⟨jx_mem 780 rfl rfl, jx_mem 52 rfl rfl, rfl, by decide +kernel, ⟨by decide +kernel, by decide +kernel, by decide +kernel⟩, by decide, by decide, Eq.mpr (if_neg (by decide)) ⟨jx_mem 778 rfl rfl, jx_mem 779 rfl rfl⟩⟩
set_option maxRecDepth 100000 in
theorem jx_ok_100 : jx_ok 100 := ⟨jx_mem 792 rfl rfl, jx_mem 52 rfl rfl, rfl, by decide +kernel, ⟨by decide +kernel, by decide +kernel, by decide +kernel⟩, by decide, by decide, Eq.mpr (if_neg (by decide)) ⟨jx_mem 790 rfl rfl, jx_mem 791 rfl rfl⟩⟩
set_option maxRecDepth 100000 in
theorem jx_ok_101 : jx_ok 101 := ⟨jx_mem 800 rfl rfl, jx_mem 52 rfl rfl, rfl, by decide +kernel, ⟨by decide +kernel, by decide +kernel, by decide +kernel⟩, by decide, by decide, Eq.mpr (if_neg (by decide)) ⟨jx_mem 798 rfl rfl, jx_mem 799 rfl rfl⟩⟩
set_option maxRecDepth 100000 in
theorem jx_ok_102 : jx_ok 102 := ⟨jx_mem 804 rfl rfl, jx_mem 52 rfl rfl, rfl, by decide +kernel, ⟨by decide +kernel, by decide +kernel, by decide +kernel⟩, by decide, by decide, Eq.mpr (if_neg (by decide)) ⟨jx_mem 802 rfl rfl, jx_mem 803 rfl rfl⟩⟩
set_option maxRecDepth 100000 in
theorem jx_ok_103 : jx_ok 103 := ⟨jx_mem 808 rfl rfl, jx_mem 52 rfl rfl, rfl, by decide +kernel, ⟨by decide +kernel, by decide +kernel, by decide +kernel⟩, by decide, by decide, Eq.mpr (if_neg (by decide)) ⟨jx_mem 806 rfl rfl, jx_mem 807 rfl rfl⟩⟩
set_option maxRecDepth 100000 in
theorem jx_ok_104 : jx_ok 104 := ⟨jx_mem 819 rfl rfl, jx_mem 52 rfl rfl, rfl, by decide +kernel, ⟨by decide +kernel, by decide +kernel, by decide +kernel⟩, by decide, by decide, Eq.mpr (if_neg (by decide)) ⟨jx_mem 818 rfl rfl, jx_mem 32 rfl rfl⟩⟩
set_option maxRecDepth 100000 in
theorem jx_ok_105 : jx_ok 105 := ⟨jx_mem 815 rfl rfl, jx_mem 52 rfl rfl, rfl, by decide +kernel, ⟨by decide +kernel, by decide +kernel, by decide +kernel⟩, by decide, by decide, Eq.mpr (if_pos rfl) (jx_mem 814 rfl rfl)⟩
set_option maxRecDepth 100000 in
theorem jx_ok_106 : jx_ok 106 := ⟨jx_mem 812 rfl rfl, jx_mem 52 rfl rfl, rfl, by decide +kernel, ⟨by decide +kernel, by decide +kernel, by decide +kernel⟩, by decide, by decide, Eq.mpr (if_neg (by decide)) ⟨jx_mem 810 rfl rfl, jx_mem 811 rfl rfl⟩⟩
set_option maxRecDepth 100000 in
theorem jx_ok_107 : jx_ok 107 := ⟨jx_mem 827 rfl rfl, jx_mem 52 rfl rfl, rfl, by decide +kernel, ⟨by decide +kernel, by decide +kernel, by decide +kernel⟩, by decide, by decide, Eq.mpr (if_neg (by decide)) ⟨jx_mem 826 rfl rfl, jx_mem 33 rfl rfl⟩⟩
set_option maxRecDepth 100000 in
theorem jx_ok_108 : jx_ok 108 := ⟨jx_mem 823 rfl rfl, jx_mem 52 rfl rfl, rfl, by decide +kernel, ⟨by decide +kernel, by decide +kernel, by decide +kernel⟩, by decide, by decide, Eq.mpr (if_neg (by decide)) ⟨jx_mem 821 rfl rfl, jx_mem 822 rfl rfl⟩⟩
set_option maxRecDepth 100000 in
theorem jx_ok_109 : jx_ok 109 := ⟨jx_mem 831 rfl rfl, jx_mem 52 rfl rfl, rfl, by decide +kernel, ⟨by decide +kernel, by decide +kernel, by decide +kernel⟩, by decide, by decide, Eq.mpr (if_neg (by decide)) ⟨jx_mem 829 rfl rfl, jx_mem 830 rfl rfl⟩⟩
set_option maxRecDepth 100000 in
theorem jx_ok_110 : jx_ok 110 := ⟨jx_mem 843 rfl rfl, jx_mem 52 rfl rfl, rfl, by decide +kernel, ⟨by decide +kernel, by decide +kernel, by decide +kernel⟩, by decide, by decide, Eq.mpr (if_neg (by decide)) ⟨jx_mem 842 rfl rfl, jx_mem 35 rfl rfl⟩⟩
set_option maxRecDepth 100000 in
theorem jx_ok_111 : jx_ok 111 := ⟨jx_mem 835 rfl rfl, jx_mem 52 rfl rfl, rfl, by decide +kernel, ⟨by decide +kernel, by decide +kernel, by decide +kernel⟩, by decide, by decide, Eq.mpr (if_neg (by decide)) ⟨jx_mem 833 rfl rfl, jx_mem 834 rfl rfl⟩⟩
set_option maxRecDepth 100000 in
theorem jx_ok_112 : jx_ok 112 := ⟨jx_mem 839 rfl rfl, jx_mem 52 rfl rfl, rfl, by decide +kernel, ⟨by decide +kernel, by decide +kernel, by decide +kernel⟩, by decide, by decide, Eq.mpr (if_neg (by decide)) ⟨jx_mem 838 rfl rfl, jx_mem 34 rfl rfl⟩⟩
set_option maxRecDepth 100000 in
theorem jx_ok_113 : jx_ok 113 := ⟨jx_mem 851 rfl rfl, jx_mem 52 rfl rfl, rfl, by decide +kernel, ⟨by decide +kernel, by decide +kernel, by decide +kernel⟩, by decide, by decide, Eq.mpr (if_neg (by decide)) ⟨jx_mem 850 rfl rfl, jx_mem 36 rfl rfl⟩⟩
set_option maxRecDepth 100000 in
theorem jx_ok_114 : jx_ok 114 := ⟨jx_mem 847 rfl rfl, jx_mem 52 rfl rfl, rfl, by decide +kernel, ⟨by decide +kernel, by decide +kernel, by decide +kernel⟩, by decide, by decide, Eq.mpr (if_neg (by decide)) ⟨jx_mem 845 rfl rfl, jx_mem 846 rfl rfl⟩⟩
set_option maxRecDepth 100000 in
theorem jx_ok_115 : jx_ok 115 := ⟨jx_mem 859 rfl rfl, jx_mem 52 rfl rfl, rfl, by decide +kernel, ⟨by decide +kernel, by decide +kernel, by decide +kernel⟩, by decide, by decide, Eq.mpr (if_neg (by decide)) ⟨jx_mem 858 rfl rfl, jx_mem 37 rfl rfl⟩⟩
set_option maxRecDepth 100000 in
theorem jx_ok_116 : jx_ok 116 := ⟨jx_mem 855 rfl rfl, jx_mem 52 rfl rfl, rfl, by decide +kernel, ⟨by decide +kernel, by decide +kernel, by decide +kernel⟩, by decide, by decide, Eq.mpr (if_neg (by decide)) ⟨jx_mem 853 rfl rfl, jx_mem 854 rfl rfl⟩⟩
set_option maxRecDepth 100000 in
theorem jx_ok_117 : jx_ok 117 := ⟨jx_mem 871 rfl rfl, jx_mem 52 rfl rfl, rfl, by decide +kernel, ⟨by decide +kernel, by decide +kernel, by decide +kernel⟩, by decide, by decide, Eq.mpr (if_neg (by decide)) ⟨jx_mem 870 rfl rfl, jx_mem 39 rfl rfl⟩⟩
set_option maxRecDepth 100000 in
theorem jx_ok_118 : jx_ok 118 := ⟨jx_mem 867 rfl rfl, jx_mem 52 rfl rfl, rfl, by decide +kernel, ⟨by decide +kernel, by decide +kernel, by decide +kernel⟩, by decide, by decide, Eq.mpr (if_neg (by decide)) ⟨jx_mem 866 rfl rfl, jx_mem 38 rfl rfl⟩⟩
set_option maxRecDepth 100000 in
theorem jx_ok_119 : jx_ok 119 := ⟨jx_mem 863 rfl rfl, jx_mem 52 rfl rfl, rfl, by decide +kernel, ⟨by decide +kernel, by decide +kernel, by decide +kernel⟩, by decide, by decide, Eq.mpr (if_neg (by decide)) ⟨jx_mem 861 rfl rfl, jx_mem 862 rfl rfl⟩⟩
set_option maxRecDepth 100000 in
theorem jx_ok_120 : jx_ok 120 := ⟨jx_mem 875 rfl rfl, jx_mem 52 rfl rfl, rfl, by decide +kernel, ⟨by decide +kernel, by decide +kernel, by decide +kernel⟩, by decide, by decide, Eq.mpr (if_neg (by decide)) ⟨jx_mem 873 rfl rfl, jx_mem 874 rfl rfl⟩⟩
set_option maxRecDepth 100000 in
theorem jx_ok_121 : jx_ok 121 := ⟨jx_mem 879 rfl rfl, jx_mem 52 rfl rfl, rfl, by decide +kernel, ⟨by decide +kernel, by decide +kernel, by decide +kernel⟩, by decide, by decide, Eq.mpr (if_neg (by decide)) ⟨jx_mem 877 rfl rfl, jx_mem 878 rfl rfl⟩⟩
set_option maxRecDepth 100000 in
theorem jx_ok_122 : jx_ok 122 := ⟨jx_mem 887 rfl rfl, jx_mem 52 rfl rfl, rfl, by decide +kernel, ⟨by decide +kernel, by decide +kernel, by decide +kernel⟩, by decide, by decide, Eq.mpr (if_neg (by decide)) ⟨jx_mem 886 rfl rfl, jx_mem 40 rfl rfl⟩⟩
set_option maxRecDepth 100000 in
theorem jx_ok_123 : jx_ok 123 := ⟨jx_mem 883 rfl rfl, jx_mem 52 rfl rfl, rfl, by decide +kernel, ⟨by decide +kernel, by decide +kernel, by decide +kernel⟩, by decide, by decide, Eq.mpr (if_neg (by decide)) ⟨jx_mem 881 rfl rfl, jx_mem 882 rfl rfl⟩⟩
set_option maxRecDepth 100000 in
theorem jx_ok_124 : jx_ok 124 := ⟨jx_mem 891 rfl rfl, jx_mem 52 rfl rfl, rfl, by decide +kernel, ⟨by decide +kernel, by decide +kernel, by decide +kernel⟩, by decide, by decide, Eq.mpr (if_neg (by decide)) ⟨jx_mem 889 rfl rfl, jx_mem 890 rfl rfl⟩⟩
set_option maxRecDepth 100000 in
theorem jx_ok_125 : jx_ok 125 := ⟨jx_mem 895 rfl rfl, jx_mem 52 rfl rfl, rfl, by decide +kernel, ⟨by decide +kernel, by decide +kernel, by decide +kernel⟩, by decide, by decide, Eq.mpr (if_neg (by decide)) ⟨jx_mem 893 rfl rfl, jx_mem 894 rfl rfl⟩⟩
set_option maxRecDepth 100000 in
theorem jx_ok_126 : jx_ok 126 := ⟨jx_mem 903 rfl rfl, jx_mem 52 rfl rfl, rfl, by decide +kernel, ⟨by decide +kernel, by decide +kernel, by decide +kernel⟩, by decide, by decide, Eq.mpr (if_pos rfl) (jx_mem 902 rfl rfl)⟩
set_option maxRecDepth 100000 in
theorem jx_ok_127 : jx_ok 127 := ⟨jx_mem 899 rfl rfl, jx_mem 52 rfl rfl, rfl, by decide +kernel, ⟨by decide +kernel, by decide +kernel, by decide +kernel⟩, by decide, by decide, Eq.mpr (if_neg (by decide)) ⟨jx_mem 897 rfl rfl, jx_mem 898 rfl rfl⟩⟩
set_option maxRecDepth 100000 in
theorem jx_ok_128 : jx_ok 128 := ⟨jx_mem 907 rfl rfl, jx_mem 52 rfl rfl, rfl, by decide +kernel, ⟨by decide +kernel, by decide +kernel, by decide +kernel⟩, by decide, by decide, Eq.mpr (if_neg (by decide)) ⟨jx_mem 905 rfl rfl, jx_mem 906 rfl rfl⟩⟩
set_option maxRecDepth 100000 in
theorem jx_ok_129 : jx_ok 129 := ⟨jx_mem 911 rfl rfl, jx_mem 52 rfl rfl, rfl, by decide +kernel, ⟨by decide +kernel, by decide +kernel, by decide +kernel⟩, by decide, by decide, Eq.mpr (if_neg (by decide)) ⟨jx_mem 909 rfl rfl, jx_mem 910 rfl rfl⟩⟩
set_option maxRecDepth 100000 in
theorem jx_ok_130 : jx_ok 130 := ⟨jx_mem 915 rfl rfl, jx_mem 52 rfl rfl, rfl, by decide +kernel, ⟨by decide +kernel, by decide +kernel, by decide +kernel⟩, by decide, by decide, Eq.mpr (if_neg (by decide)) ⟨jx_mem 913 rfl rfl, jx_mem 914 rfl rfl⟩⟩
set_option maxRecDepth 100000 in
theorem jx_ok_131 : jx_ok 131 := ⟨jx_mem 919 rfl rfl, jx_mem 52 rfl rfl, rfl, by decide +kernel, ⟨by decide +kernel, by decide +kernel, by decide +kernel⟩, by decide, by decide, Eq.mpr (if_neg (by decide)) ⟨jx_mem 917 rfl rfl, jx_mem 918 rfl rfl⟩⟩
set_option maxRecDepth 100000 in
theorem jx_ok_132 : jx_ok 132 := ⟨jx_mem 927 rfl rfl, jx_mem 52 rfl rfl, rfl, by decide +kernel, ⟨by decide +kernel, by decide +kernel, by decide +kernel⟩, by decide, by decide, Eq.mpr (if_neg (by decide)) ⟨jx_mem 925 rfl rfl, jx_mem 926 rfl rfl⟩⟩
set_option maxRecDepth 100000 in
theorem jx_ok_133 : jx_ok 133 := ⟨jx_mem 935 rfl rfl, jx_mem 52 rfl rfl, rfl, by decide +kernel, ⟨by decide +kernel, by decide +kernel, by decide +kernel⟩, by decide, by decide, Eq.mpr (if_neg (by decide)) ⟨jx_mem 934 rfl rfl, jx_mem 42 rfl rfl⟩⟩
set_option maxRecDepth 100000 in
theorem jx_ok_134 : jx_ok 134 := ⟨jx_mem 931 rfl rfl, jx_mem 52 rfl rfl, rfl, by decide +kernel, ⟨by decide +kernel, by decide +kernel, by decide +kernel⟩, by decide, by decide, Eq.mpr (if_neg (by decide)) ⟨jx_mem 929 rfl rfl, jx_mem 930 rfl rfl⟩⟩
set_option maxRecDepth 100000 in
theorem jx_ok_135 : jx_ok 135 := ⟨jx_mem 939 rfl rfl, jx_mem 52 rfl rfl, rfl, by decide +kernel, ⟨by decide +kernel, by decide +kernel, by decide +kernel⟩, by decide, by decide, Eq.mpr (if_neg (by decide)) ⟨jx_mem 937 rfl rfl, jx_mem 938 rfl rfl⟩⟩
set_option maxRecDepth 100000 in
theorem jx_ok_136 : jx_ok 136 := ⟨jx_mem 943 rfl rfl, jx_mem 52 rfl rfl, rfl, by decide +kernel, ⟨by decide +kernel, by decide +kernel, by decide +kernel⟩, by decide, by decide, Eq.mpr (if_neg (by decide)) ⟨jx_mem 941 rfl rfl, jx_mem 942 rfl rfl⟩⟩
set_option maxRecDepth 100000 in
theorem jx_ok_137 : jx_ok 137 := ⟨jx_mem 947 rfl rfl, jx_mem 52 rfl rfl, rfl, by decide +kernel, ⟨by decide +kernel, by decide +kernel, by decide +kernel⟩, by decide, by decide, Eq.mpr (if_neg (by decide)) ⟨jx_mem 945 rfl rfl, jx_mem 946 rfl rfl⟩⟩
set_option maxRecDepth 100000 in
theorem jx_ok_138 : jx_ok 138 := ⟨jx_mem 951 rfl rfl, jx_mem 52 rfl rfl, rfl, by decide +kernel, ⟨by decide +kernel, by decide +kernel, by decide +kernel⟩, by decide, by decide, Eq.mpr (if_neg (by decide)) ⟨jx_mem 949 rfl rfl, jx_mem 950 rfl rfl⟩⟩
set_option maxRecDepth 100000 in
theorem jx_ok_139 : jx_ok 139 := ⟨jx_mem 955 rfl rfl, jx_mem 52 rfl rfl, rfl, by decide +kernel, ⟨by decide +kernel, by decide +kernel, by decide +kernel⟩, by decide, by decide, Eq.mpr (if_neg (by decide)) ⟨jx_mem 953 rfl rfl, jx_mem 954 rfl rfl⟩⟩
set_option maxRecDepth 100000 in
theorem jx_oks : ∀ y, y < 140 → jx_ok y
  | 0, _ => jx_ok_0
  | 1, _ => jx_ok_1
  | 2, _ => jx_ok_2
  | 3, _ => jx_ok_3
  | 4, _ => jx_ok_4
  | 5, _ => jx_ok_5
  | 6, _ => jx_ok_6
  | 7, _ => jx_ok_7
  | 8, _ => jx_ok_8
  | 9, _ => jx_ok_9
  | 10, _ => jx_ok_10
  | 11, _ => jx_ok_11
  | 12, _ => jx_ok_12
  | 13, _ => jx_ok_13
  | 14, _ => jx_ok_14
  | 15, _ => jx_ok_15
  | 16, _ => jx_ok_16
  | 17, _ => jx_ok_17
  | 18, _ => jx_ok_18
  | 19, _ => jx_ok_19
  | 20, _ => jx_ok_20
  | 21, _ => jx_ok_21
  | 22, _ => jx_ok_22
  | 23, _ => jx_ok_23
  | 24, _ => jx_ok_24
  | 25, _ => jx_ok_25
  | 26, _ => jx_ok_26
  | 27, _ => jx_ok_27
  | 28, _ => jx_ok_28
  | 29, _ => jx_ok_29
  | 30, _ => jx_ok_30
  | 31, _ => jx_ok_31
  | 32, _ => jx_ok_32
  | 33, _ => jx_ok_33
  | 34, _ => jx_ok_34
  | 35, _ => jx_ok_35
  | 36, _ => jx_ok_36
  | 37, _ => jx_ok_37
  | 38, _ => jx_ok_38
  | 39, _ => jx_ok_39
  | 40, _ => jx_ok_40
  | 41, _ => jx_ok_41
  | 42, _ => jx_ok_42
  | 43, _ => jx_ok_43
  | 44, _ => jx_ok_44
  | 45, _ => jx_ok_45
  | 46, _ => jx_ok_46
  | 47, _ => jx_ok_47
  | 48, _ => jx_ok_48
  | 49, _ => jx_ok_49
  | 50, _ => jx_ok_50
  | 51, _ => jx_ok_51
  | 52, _ => jx_ok_52
  | 53, _ => jx_ok_53
  | 54, _ => jx_ok_54
  | 55, _ => jx_ok_55
  | 56, _ => jx_ok_56
  | 57, _ => jx_ok_57
  | 58, _ => jx_ok_58
  | 59, _ => jx_ok_59
  | 60, _ => jx_ok_60
  | 61, _ => jx_ok_61
  | 62, _ => jx_ok_62
  | 63, _ => jx_ok_63
  | 64, _ => jx_ok_64
  | 65, _ => jx_ok_65
  | 66, _ => jx_ok_66
  | 67, _ => jx_ok_67
  | 68, _ => jx_ok_68
  | 69, _ => jx_ok_69
  | 70, _ => jx_ok_70
  | 71, _ => jx_ok_71
  | 72, _ => jx_ok_72
  | 73, _ => jx_ok_73
  | 74, _ => jx_ok_74
  | 75, _ => jx_ok_75
  | 76, _ => jx_ok_76
  | 77, _ => jx_ok_77
  | 78, _ => jx_ok_78
  | 79, _ => jx_ok_79
  | 80, _ => jx_ok_80
  | 81, _ => jx_ok_81
  | 82, _ => jx_ok_82
  | 83, _ => jx_ok_83
  | 84, _ => jx_ok_84
  | 85, _ => jx_ok_85
  | 86, _ => jx_ok_86
  | 87, _ => jx_ok_87
  | 88, _ => jx_ok_88
  | 89, _ => jx_ok_89
  | 90, _ => jx_ok_90
  | 91, _ => jx_ok_91
  | 92, _ => jx_ok_92
  | 93, _ => jx_ok_93
  | 94, _ => jx_ok_94
  | 95, _ => jx_ok_95
  | 96, _ => jx_ok_96
  | 97, _ => jx_ok_97
  | 98, _ => jx_ok_98
  | 99, _ => jx_ok_99
  | 100, _ => jx_ok_100
  | 101, _ => jx_ok_101
  | 102, _ => jx_ok_102
  | 103, _ => jx_ok_103
  | 104, _ => jx_ok_104
  | 105, _ => jx_ok_105
  | 106, _ => jx_ok_106
  | 107, _ => jx_ok_107
  | 108, _ => jx_ok_108
  | 109, _ => jx_ok_109
  | 110, _ => jx_ok_110
  | 111, _ => jx_ok_111
  | 112, _ => jx_ok_112
  | 113, _ => jx_ok_113
  | 114, _ => jx_ok_114
  | 115, _ => jx_ok_115
  | 116, _ => jx_ok_116
  | 117, _ => jx_ok_117
  | 118, _ => jx_ok_118
  | 119, _ => jx_ok_119
  | 120, _ => jx_ok_120
  | 121, _ => jx_ok_121
  | 122, _ => jx_ok_122
  | 123, _ => jx_ok_123
  | 124, _ => jx_ok_124
  | 125, _ => jx_ok_125
  | 126, _ => jx_ok_126
  | 127, _ => jx_ok_127
  | 128, _ => jx_ok_128
  | 129, _ => jx_ok_129
  | 130, _ => jx_ok_130
  | 131, _ => jx_ok_131
  | 132, _ => jx_ok_132
  | 133, _ => jx_ok_133
  | 134, _ => jx_ok_134
  | 135, _ => jx_ok_135
  | 136, _ => jx_ok_136
  | 137, _ => jx_ok_137
  | 138, _ => jx_ok_138
  | 139, _ => jx_ok_139
  | y + 140, h => absurd h (by omega)
set_option maxRecDepth 100000 in
theorem jx_cin : ∀ ci, ci < 9 → ∀ w ∈ u_ws (jx_rx ci) (jx_T ci) (jx_N ci), w ∈ jx_TB
  | 0, _ => fun w h => List.mem_filter.mpr ⟨(by decide +kernel : ∀ w ∈ u_ws RX0 TX0 6, w ∈ lw_tbl) w h, (by decide +kernel : ∀ w ∈ u_ws RX0 TX0 6, goodWord w = true) w h⟩
  | 1, _ => fun w h => List.mem_filter.mpr ⟨(by decide +kernel : ∀ w ∈ u_ws RX1 TX1 9, w ∈ lw_tbl) w h, (by decide +kernel : ∀ w ∈ u_ws RX1 TX1 9, goodWord w = true) w h⟩
  | 2, _ => fun w h => List.mem_filter.mpr ⟨(by decide +kernel : ∀ w ∈ u_ws RX2 TX2 1, w ∈ lw_tbl) w h, (by decide +kernel : ∀ w ∈ u_ws RX2 TX2 1, goodWord w = true) w h⟩
  | 3, _ => fun w h => List.mem_filter.mpr ⟨(by decide +kernel : ∀ w ∈ u_ws RX3 TX3 4, w ∈ lw_tbl) w h, (by decide +kernel : ∀ w ∈ u_ws RX3 TX3 4, goodWord w = true) w h⟩
  | 4, _ => fun w h => List.mem_filter.mpr ⟨(by decide +kernel : ∀ w ∈ u_ws RX4 TX4 4, w ∈ lw_tbl) w h, (by decide +kernel : ∀ w ∈ u_ws RX4 TX4 4, goodWord w = true) w h⟩
  | 5, _ => fun w h => List.mem_filter.mpr ⟨(by decide +kernel : ∀ w ∈ u_ws RX5 TX5 4, w ∈ lw_tbl) w h, (by decide +kernel : ∀ w ∈ u_ws RX5 TX5 4, goodWord w = true) w h⟩
  | 6, _ => fun w h => List.mem_filter.mpr ⟨(by decide +kernel : ∀ w ∈ u_ws RX6 TX6 5, w ∈ lw_tbl) w h, (by decide +kernel : ∀ w ∈ u_ws RX6 TX6 5, goodWord w = true) w h⟩
  | 7, _ => fun w h => List.mem_filter.mpr ⟨(by decide +kernel : ∀ w ∈ u_ws RX7 TX7 10, w ∈ lw_tbl) w h, (by decide +kernel : ∀ w ∈ u_ws RX7 TX7 10, goodWord w = true) w h⟩
  | 8, _ => fun w h => List.mem_filter.mpr ⟨(by decide +kernel : ∀ w ∈ u_ws RX8 TX8 31, w ∈ lw_tbl) w h, (by decide +kernel : ∀ w ∈ u_ws RX8 TX8 31, goodWord w = true) w h⟩
  | ci + 9, h => absurd h (by omega)
set_option maxRecDepth 100000 in
theorem jx_cty : ∀ ci, ci < 9 → ∀ k, k < jx_N ci → parseFieldDescriptor (jx_T ci k).2.2.1 = some (jx_ty ci k)
  | 0, _ => tyX0_ok
  | 1, _ => tyX1_ok
  | 2, _ => tyX2_ok
  | 3, _ => tyX3_ok
  | 4, _ => tyX4_ok
  | 5, _ => tyX5_ok
  | 6, _ => tyX6_ok
  | 7, _ => tyX7_ok
  | 8, _ => tyX8_ok
  | ci + 9, h => absurd h (by omega)
set_option maxRecDepth 100000 in
theorem jx_cnm : ∀ ci, ci < 9 → ∀ a, a < jx_N ci → ∀ b, b < jx_N ci → a ≠ b → (jx_T ci a).2.1 ≠ (jx_T ci b).2.1
  | 0, _ => nmX0
  | 1, _ => nmX1
  | 2, _ => nmX2
  | 3, _ => nmX3
  | 4, _ => nmX4
  | 5, _ => nmX5
  | 6, _ => nmX6
  | 7, _ => nmX7
  | 8, _ => nmX8
  | ci + 9, h => absurd h (by omega)
set_option maxRecDepth 100000 in
theorem jx_vcl : ∀ ci, ci < 9 → vwCl[ci]? = some (jx_rx ci, jx_T ci, jx_N ci)
  | 0, _ => rfl
  | 1, _ => rfl
  | 2, _ => rfl
  | 3, _ => rfl
  | 4, _ => rfl
  | 5, _ => rfl
  | 6, _ => rfl
  | 7, _ => rfl
  | 8, _ => rfl
  | ci + 9, h => absurd h (by omega)
/-- what a kind of field says -/
def jx_fkP (ci j : Nat) : Bool := match jx_fk ci j with
  | 0 => !(jx_T ci j).2.2.2 && decide (jx_ty ci j = .int)
  | 1 => !(jx_T ci j).2.2.2 && decide (jx_ty ci j = .boolean)
  | 2 => !(jx_T ci j).2.2.2 && (decide (jx_ty ci j = .object RX1) || decide (jx_ty ci j = .object RX4))
  | _ => true
set_option maxRecDepth 100000 in
theorem jx_fko : ∀ ci, ci < 9 → ∀ j, j < jx_N ci → jx_fkP ci j = true := by decide +kernel
set_option maxRecDepth 100000 in
theorem jx_shc : ∀ k, k < 56 → (jx_cl k = 9 ∨ jx_cl k = 10 ∧ k = 1 ∧ jx_sz k = 4 ∨ jx_cl k < 9 ∧ jx_sz k = jx_N (jx_cl k)) := by decide +kernel
set_option maxRecDepth 100000 in
theorem jx_klt {k ci : Nat} (h : jx_cl k = ci) (hc : ci < 99) : k < 56 := by
  rcases Nat.lt_or_ge k 56 with q | q
  · exact q
  · exfalso
    have e : jx_cl k = 99 := by
      have h2 : jx_shL[k]? = none := List.getElem?_eq_none q
      simp [jx_cl, List.getD, h2]
    omega
set_option maxRecDepth 100000 in
theorem jx_bw_2_46 : Cond.methodLink (jx_rx 2) 46 Lib.Math.max.name ∈ jx_TB := jx_mem 445 rfl rfl
set_option maxRecDepth 100000 in
theorem jx_bw_0_64 : Cond.methodLink (jx_rx 0) 64 Lib.Math.max.name ∈ jx_TB := jx_mem 481 rfl rfl
set_option maxRecDepth 100000 in
theorem jx_bw_5_28 : Cond.methodLink (jx_rx 5) 28 Lib.Math.min.name ∈ jx_TB := jx_mem 490 rfl rfl
set_option maxRecDepth 100000 in
theorem jx_bw_5_52 : Cond.methodLink (jx_rx 5) 52 Lib.Math.abs.name ∈ jx_TB := jx_mem 511 rfl rfl
set_option maxRecDepth 100000 in
theorem jx_bw_7_228 : Cond.methodLink (jx_rx 7) 228 arraycopyName ∈ jx_TB := jx_mem 589 rfl rfl
set_option maxRecDepth 100000 in
theorem jx_bw_8_183 : Cond.methodLink (jx_rx 8) 183 yX8_inLeastTerms ∈ jx_TB := jx_mem 901 rfl rfl
set_option maxRecDepth 100000 in
theorem jx_bs_max : Cond.static Lib.Math.max.name ∈ jx_TB := jx_mem 446 rfl rfl
set_option maxRecDepth 100000 in
theorem jx_bc_max : Cond.code Lib.Math.max.name Lib.Math.max.code 2 (some .int) ∈ jx_TB := jx_mem 447 rfl rfl
set_option maxRecDepth 100000 in
theorem jx_bs_min : Cond.static Lib.Math.min.name ∈ jx_TB := jx_mem 491 rfl rfl
set_option maxRecDepth 100000 in
theorem jx_bc_min : Cond.code Lib.Math.min.name Lib.Math.min.code 2 (some .int) ∈ jx_TB := jx_mem 492 rfl rfl
set_option maxRecDepth 100000 in
theorem jx_bs_abs : Cond.static Lib.Math.abs.name ∈ jx_TB := jx_mem 512 rfl rfl
set_option maxRecDepth 100000 in
theorem jx_bc_abs : Cond.code Lib.Math.abs.name Lib.Math.abs.code 1 (some .int) ∈ jx_TB := jx_mem 513 rfl rfl
set_option maxRecDepth 100000 in
theorem jx_bini : Cond.initialized "java/lang/Math" ∈ jx_TB := jx_mem 53 rfl rfl
set_option maxRecDepth 100000 in
theorem jx_binis : Cond.initialized "java/lang/System" ∈ jx_TB := jx_mem 54 rfl rfl
set_option maxRecDepth 100000 in
theorem jx_bacs : Cond.static arraycopyName ∈ jx_TB := jx_mem 590 rfl rfl
set_option maxRecDepth 100000 in
theorem jx_bacn : Cond.native arraycopyName ∈ jx_TB := jx_mem 591 rfl rfl
set_option maxRecDepth 100000 in
theorem jx_k0 : Cond.constant (jx_rx 0) 34 2147483647 ∈ jx_TB := jx_mem 466 rfl rfl
set_option maxRecDepth 100000 in
theorem jx_k7 : Cond.constantLong (jx_rx 7) 203 (-9223372036854775808) ∈ jx_TB := jx_mem 558 rfl rfl
set_option maxRecDepth 100000 in
theorem jx_k8 : Cond.constantLong (jx_rx 8) 71 (-9223372036854775808) ∈ jx_TB := jx_mem 900 rfl rfl
end
section
/-! a machine of pure numbers: one memory M of ints (place, offset); references are places; its run is a function -/
def jx_up (M : jx_M) (k j : Nat) (v : Int32) : jx_M := fun a => if a = k then upd (M a) j v else M a
def jx_rv (x : Int32) : Value := if x < 0 then .null else .ref x.toNatClampNeg
def jx_fv (c : Nat) (r : Nat → Int32) (k j : Nat) : Value := match c with
  | 0 => .int (r j)
  | 1 => .int (r j)
  | 2 => jx_rv (r j)
  | c + 3 => .ref (k + c)
def jx_ft (y pc : Nat) : Option (Instr × Nat) := match decode (jx_mb y) pc with
  | .ok x => some x
  | .error _ => none
theorem jx_fok {y pc : Nat} {x : Instr × Nat} (h : decode (jx_mb y) pc = .ok x) : jx_ft y pc = some x := by simp [jx_ft, h]
theorem jx_fok' {y pc : Nat} {x : Instr × Nat} (h : jx_ft y pc = some x) : decode (jx_mb y) pc = .ok x := by
  unfold jx_ft at h
  split at h
  · next q => rw [q]; cases h; rfl
  · cases h
def jx_jp (pc : Nat) (off : Int) : Option Nat := if 0 ≤ (pc : Int) + off then some ((pc : Int) + off).toNat else none
theorem jx_jpe {pc t : Nat} {off : Int} (h : jx_jp pc off = some t) : (pc : Int) + off = (t : Int) := by
  unfold jx_jp at h
  split at h
  · cases h; omega
  · cases h
def jx_h (c : ClassFile.Cond) (x y : Int32) : Bool := match c with
  | .eq => decide (x = y)
  | .ne => decide (¬ x = y)
  | .lt => decide (x < y)
  | .ge => decide (y ≤ x)
  | .gt => decide (y < x)
  | .le => decide (x ≤ y)
abbrev jx_R : Type := Option (Nat × List (Option Value) × List Value × jx_M)
def jx_ldi (pc : Nat) (lv : List (Option Value)) (st : List Value) (M : jx_M) (k : Nat) : jx_R := match lv[k]? with
  | some (some (.int x)) => some (pc, lv, .int x :: st, M)
  | _ => none
def jx_lda (pc : Nat) (lv : List (Option Value)) (st : List Value) (M : jx_M) (k : Nat) : jx_R := match lv[k]? with
  | some (some (.ref x)) => some (pc, lv, .ref x :: st, M)
  | _ => none
def jx_sti (pc : Nat) (lv : List (Option Value)) (st : List Value) (M : jx_M) (k : Nat) : jx_R := match st with
  | .int x :: st => if k < lv.length then some (pc, lv.set k (some (.int x)), st, M) else none
  | _ => none
def jx_sta (pc : Nat) (lv : List (Option Value)) (st : List Value) (M : jx_M) (k : Nat) : jx_R := match st with
  | .ref x :: st => if k < lv.length then some (pc, lv.set k (some (.ref x)), st, M) else none
  | _ => none
def jx_inc (pc : Nat) (lv : List (Option Value)) (st : List Value) (M : jx_M) (k : Nat) (n : Int) : jx_R := match lv[k]? with
  | some (some (.int x)) => some (pc, lv.set k (some (.int (x + Int32.ofInt n))), st, M)
  | _ => none
def jx_b2 (pc : Nat) (lv : List (Option Value)) (st : List Value) (M : jx_M) (f : Int32 → Int32 → Int32) : jx_R := match st with
  | .int y :: .int x :: st => some (pc, lv, .int (f x y) :: st, M)
  | _ => none
def jx_dv (pc : Nat) (lv : List (Option Value)) (st : List Value) (M : jx_M) (f : Int32 → Int32 → Int32) : jx_R := match st with
  | .int y :: .int x :: st => if y = 0 then none else some (pc, lv, .int (f x y) :: st, M)
  | _ => none
def jx_u1 (pc : Nat) (lv : List (Option Value)) (st : List Value) (M : jx_M) (f : Int32 → Value) : jx_R := match st with
  | .int x :: st => some (pc, lv, f x :: st, M)
  | _ => none
def jx_lsh (pc : Nat) (lv : List (Option Value)) (st : List Value) (M : jx_M) : jx_R := match st with
  | .int y :: .long x :: st => some (pc, lv, .long (x <<< (y.toInt64 &&& 63)) :: st, M)
  | _ => none
def jx_dup (pc : Nat) (lv : List (Option Value)) (st : List Value) (M : jx_M) : jx_R := match st with
  | v :: st => if v.category = 1 then some (pc, lv, v :: v :: st, M) else none
  | _ => none
def jx_dup2 (pc : Nat) (lv : List (Option Value)) (st : List Value) (M : jx_M) : jx_R := match st with
  | v :: w :: st => if v.category = 1 ∧ w.category = 1 then some (pc, lv, v :: w :: v :: w :: st, M) else none
  | _ => none
def jx_br1 (pc : Nat) (lv : List (Option Value)) (st : List Value) (M : jx_M) (c : ClassFile.Cond) (off : Int) : jx_R := match st with
  | .int x :: st => match jx_jp pc off with
    | some t => some (if jx_h c x 0 = true then t else pc + 3, lv, st, M)
    | none => none
  | _ => none
def jx_br2 (pc : Nat) (lv : List (Option Value)) (st : List Value) (M : jx_M) (c : ClassFile.Cond) (off : Int) : jx_R := match st with
  | .int y :: .int x :: st => match jx_jp pc off with
    | some t => some (if jx_h c x y = true then t else pc + 3, lv, st, M)
    | none => none
  | _ => none
def jx_brn (pc : Nat) (lv : List (Option Value)) (st : List Value) (M : jx_M) (off : Int) : jx_R := match st with
  | .ref _ :: st => some (pc + 3, lv, st, M)
  | .null :: st => match jx_jp pc off with
    | some t => some (t, lv, st, M)
    | none => none
  | _ => none
def jx_tsw (pc : Nat) (lv : List (Option Value)) (st : List Value) (M : jx_M) (dflt lo hi : Int) (offs : Array Int) : jx_R := match st with
  | .int x :: st => if x.toInt < lo ∨ hi < x.toInt then (match jx_jp pc dflt with
      | some t => some (t, lv, st, M)
      | none => none)
    else match offs[(x.toInt - lo).toNat]? with
      | some off => (match jx_jp pc off with
        | some t => some (t, lv, st, M)
        | none => none)
      | none => none
  | _ => none
def jx_lsw (pc : Nat) (lv : List (Option Value)) (st : List Value) (M : jx_M) (dflt : Int) (ps : Array (Int × Int)) : jx_R := match st with
  | .int x :: st => if (ps.toList.zip (ps.toList.drop 1)).all (fun (a, next) => a.1 < next.1) = true then (match jx_jp pc (Op.lookupswitch.offset ps.toList dflt x.toInt) with
      | some t => some (t, lv, st, M)
      | none => none)
    else none
  | _ => none
def jx_gf (y pc : Nat) (lv : List (Option Value)) (st : List Value) (M : jx_M) (i : Nat) : jx_R := match jx_fl (jx_mo y) i with
  | none => none
  | some (ci, j) => match st with
    | .ref k :: st => if jx_cl k = ci then some (pc + 3, lv, jx_fv (jx_fk ci j) (M k) k j :: st, M) else none
    | _ => none
def jx_pf (y pc : Nat) (lv : List (Option Value)) (st : List Value) (M : jx_M) (i : Nat) : jx_R := match jx_fl (jx_mo y) i with
  | none => none
  | some (ci, j) => match st with
    | .int x :: .ref k :: st => if jx_cl k = ci ∧ (jx_fk ci j = 0 ∨ jx_fk ci j = 1 ∧ (x = 0 ∨ x = 1)) then some (pc + 3, lv, st, jx_up M k j x) else none
    | .ref o :: .ref k :: st => if jx_cl k = ci ∧ jx_fk ci j = 2 ∧ o < 56 then some (pc + 3, lv, st, jx_up M k j (nI o)) else none
    | _ => none
def jx_al (pc : Nat) (lv : List (Option Value)) (st : List Value) (M : jx_M) : jx_R := match st with
  | .int i :: .ref a :: st => if jx_cl a = 9 ∧ ¬ (i < 0 ∨ jx_sz a ≤ i.toNatClampNeg) then some (pc + 1, lv, .int (M a i.toNatClampNeg) :: st, M) else none
  | _ => none
def jx_as (pc : Nat) (lv : List (Option Value)) (st : List Value) (M : jx_M) : jx_R := match st with
  | .int x :: .int i :: .ref a :: st => if jx_cl a = 9 ∧ ¬ (i < 0 ∨ jx_sz a ≤ i.toNatClampNeg) then some (pc + 1, lv, st, jx_up M a i.toNatClampNeg x) else none
  | _ => none
def jx_sp (i : Int32) : Nat := 28 + 2 * i.toNatClampNeg
def jx_aa (pc : Nat) (lv : List (Option Value)) (st : List Value) (M : jx_M) : jx_R := match st with
  | .int i :: .ref a :: st => if a = 1 ∧ ¬ (i < 0 ∨ 4 ≤ i.toNatClampNeg) then some (pc + 1, lv, .ref (jx_sp i) :: st, M) else none
  | _ => none
def jx_cp (M : jx_M) (a b : Nat) (sp dp n : Int32) : jx_M := fun k => if k = b then va_cpy (M a) (M b) sp.toNatClampNeg dp.toNatClampNeg n.toNatClampNeg else M k
def jx_gcd : Nat → Int64 → Int64 → Option Int64
  | 0, _, _ => none
  | n + 1, x, y => if y = 0 then some x else jx_gcd n y (x - x / y * y)
def jx_ilt (u d : Int64) (w : Int32) : Option Int64 := match jx_gcd 100 u d with
  | none => none
  | some x => if x = 0 then none else some (if w = 0 then u / x else d / x)
def jx_sum (st : List Value) : Nat := (st.map fun v => v.category).sum
def jx_nat (b d pc : Nat) (lv : List (Option Value)) (st : List Value) (M : jx_M) : jx_R := match b with
  | 1 => (match st with
    | .int y :: .int x :: st => if 0 < d ∧ jx_sum st ≤ 8 then some (pc + 3, lv, .int (if x < y then y else x) :: st, M) else none
    | _ => none)
  | 2 => (match st with
    | .int y :: .int x :: st => if 0 < d ∧ jx_sum st ≤ 8 then some (pc + 3, lv, .int (if y < x then y else x) :: st, M) else none
    | _ => none)
  | 3 => (match st with
    | .int x :: st => if 0 < d ∧ jx_sum st ≤ 8 then some (pc + 3, lv, .int (if 0 ≤ x then x else 0 - x) :: st, M) else none
    | _ => none)
  | 4 => (match st with
    | .int n :: .int dp :: .ref b :: .int sp :: .ref a :: st => if 0 < d ∧ jx_sum st ≤ 8 ∧ jx_cl a = 9 ∧ jx_cl b = 9 ∧ ¬ sp < 0 ∧ ¬ dp < 0 ∧ ¬ n < 0 ∧ sp.toNatClampNeg + n.toNatClampNeg ≤ jx_sz a ∧ dp.toNatClampNeg + n.toNatClampNeg ≤ jx_sz b then some (pc + 3, lv, st, jx_cp M a b sp dp n) else none
    | _ => none)
  | 5 => (match st with
    | .int w :: .long dd :: .long u :: st => if 0 < d ∧ jx_sum st ≤ 8 then (match jx_ilt u dd w with
        | some r => some (pc + 3, lv, .long r :: st, M)
        | none => none) else none
    | _ => none)
  | _ => none
def jx_st (d y pc : Nat) (i : Instr) (len : Nat) (lv : List (Option Value)) (st : List Value) (M : jx_M) : jx_R :=
  match i with
  | .iconst n => if len = 1 then some (pc + 1, lv, .int (Int32.ofInt n) :: st, M) else none
  | .bipush n => if len = 2 then some (pc + 2, lv, .int (Int8.ofInt n).toInt32 :: st, M) else none
  | .sipush n => if len = 3 then some (pc + 3, lv, .int (Int16.ofInt n).toInt32 :: st, M) else none
  | .lconst n => if len = 1 then some (pc + 1, lv, .long (Int64.ofNat (n : Nat)) :: st, M) else none
  | .ldc k => if len = 2 ∧ jx_mo y = 0 ∧ k = 34 then some (pc + 2, lv, .int 2147483647 :: st, M) else none
  | .ldc2_w k => if len = 3 ∧ (jx_mo y = 7 ∧ k = 203 ∨ jx_mo y = 8 ∧ k = 71) then some (pc + 3, lv, .long (-9223372036854775808) :: st, M) else none
  | .iload k => if len = 2 then jx_ldi (pc + 2) lv st M k else none
  | .iload_n k => if len = 1 then jx_ldi (pc + 1) lv st M k else none
  | .aload k => if len = 2 then jx_lda (pc + 2) lv st M k else none
  | .aload_n k => if len = 1 then jx_lda (pc + 1) lv st M k else none
  | .istore k => if len = 2 then jx_sti (pc + 2) lv st M k else none
  | .istore_n k => if len = 1 then jx_sti (pc + 1) lv st M k else none
  | .astore k => if len = 2 then jx_sta (pc + 2) lv st M k else none
  | .astore_n k => if len = 1 then jx_sta (pc + 1) lv st M k else none
  | .iinc k n => if len = 3 then jx_inc (pc + 3) lv st M k n else none
  | .iadd => if len = 1 then jx_b2 (pc + 1) lv st M (fun x y => x + y) else none
  | .isub => if len = 1 then jx_b2 (pc + 1) lv st M (fun x y => x - y) else none
  | .imul => if len = 1 then jx_b2 (pc + 1) lv st M (fun x y => x * y) else none
  | .iand => if len = 1 then jx_b2 (pc + 1) lv st M (fun x y => x &&& y) else none
  | .ior => if len = 1 then jx_b2 (pc + 1) lv st M (fun x y => x ||| y) else none
  | .ishl => if len = 1 then jx_b2 (pc + 1) lv st M (fun x y => x <<< (y &&& 31)) else none
  | .ishr => if len = 1 then jx_b2 (pc + 1) lv st M (fun x y => x >>> (y &&& 31)) else none
  | .idiv => if len = 1 then jx_dv (pc + 1) lv st M (fun x y => x / y) else none
  | .irem => if len = 1 then jx_dv (pc + 1) lv st M (fun x y => x - x / y * y) else none
  | .ineg => if len = 1 then jx_u1 (pc + 1) lv st M (fun x => .int (-x)) else none
  | .i2b => if len = 1 then jx_u1 (pc + 1) lv st M (fun x => .int x.toInt8.toInt32) else none
  | .i2s => if len = 1 then jx_u1 (pc + 1) lv st M (fun x => .int x.toInt16.toInt32) else none
  | .i2l => if len = 1 then jx_u1 (pc + 1) lv st M (fun x => .long x.toInt64) else none
  | .lshl => if len = 1 then jx_lsh (pc + 1) lv st M else none
  | .dup => if len = 1 then jx_dup (pc + 1) lv st M else none
  | .dup2 => if len = 1 then jx_dup2 (pc + 1) lv st M else none
  | .goto off => if len = 3 then (match jx_jp pc off with
    | some t => some (t, lv, st, M)
    | none => none) else none
  | .ifCond c off => if len = 3 then jx_br1 pc lv st M c off else none
  | .if_icmp c off => if len = 3 then jx_br2 pc lv st M c off else none
  | .ifnull off => if len = 3 then jx_brn pc lv st M off else none
  | .tableswitch dflt lo hi offs => jx_tsw pc lv st M dflt lo hi offs
  | .lookupswitch dflt ps => jx_lsw pc lv st M dflt ps
  | .getfield k => if len = 3 then jx_gf y pc lv st M k else none
  | .putfield k => if len = 3 then jx_pf y pc lv st M k else none
  | .iaload => if len = 1 then jx_al pc lv st M else none
  | .iastore => if len = 1 then jx_as pc lv st M else none
  | .aaload => if len = 1 then jx_aa pc lv st M else none
  | .invokestatic k => if len = 3 then jx_nat (jx_bi (jx_mo y) k) d pc lv st M else none
  | _ => none
def jx_rt (y : Nat) (i : Instr) (len : Nat) (st : List Value) : Option (List Value) := match i with
  | .ireturn => (match st with
    | [.int v] => if len = 1 ∧ (jx_mr y = some .int ∨ jx_mr y = some .boolean ∧ (v = 0 ∨ v = 1)) then some [.int v] else none
    | _ => none)
  | .lreturn => (match st with
    | [.long v] => if len = 1 ∧ jx_mr y = some .long then some [.long v] else none
    | _ => none)
  | .return_ => (match st with
    | [] => if len = 1 ∧ jx_mr y = none then some [] else none
    | _ => none)
  | _ => none
/-- a method's arguments (without the receiver) and what is left below fit -/
def jx_fit (y n : Nat) (As rest : List Value) : Bool := decide (As.length = jx_mp y) && As.all (fun v => decide (v.category = 1)) && decide (As.length + n ≤ jx_mx y) && decide (jx_sum rest ≤ 8) && decide (y < 140)
def jx_cc (y : Nat) (i : Instr) (len : Nat) (st : List Value) : Option (Nat × List Value × List Value) := match i with
  | .invokevirtual k => (match jx_ml (jx_mo y) k with
    | none => none
    | some y' => (match st.drop (jx_mp y') with
      | .ref o :: rest => if len = 3 ∧ jx_ms y' = false ∧ jx_cl o = jx_mo y' ∧ jx_fit y' 1 (st.take (jx_mp y')).reverse rest = true then some (y', .ref o :: (st.take (jx_mp y')).reverse, rest) else none
      | _ => none))
  | .invokestatic k => (match jx_ml (jx_mo y) k with
    | none => none
    | some y' => if len = 3 ∧ jx_ms y' = true ∧ jx_fit y' 0 (st.take (jx_mp y')).reverse (st.drop (jx_mp y')) = true then some (y', (st.take (jx_mp y')).reverse, st.drop (jx_mp y')) else none)
  | _ => none
def jx_en (y : Nat) (As : List Value) : List (Option Value) := As.map some ++ List.replicate (jx_mx y - As.length) none
abbrev jx_RT : Type := Nat → Nat → Nat → List (Option Value) → List Value → jx_M → Option (List Value × jx_M)
def jx_F (rec : jx_RT) : jx_RT := fun d y pc lv st M =>
  match jx_ft y pc with
  | none => none
  | some (i, len) => match jx_rt y i len st with
    | some r => some (r, M)
    | none => match jx_cc y i len st with
      | some (y', As, rest) => (match d with
        | 0 => none
        | d' + 1 => (match rec d' y' 0 (jx_en y' As) [] M with
          | none => none
          | some (r, M') => rec (d' + 1) y (pc + 3) lv (r ++ rest) M'))
      | none => match jx_st d y pc i len lv st M with
        | none => none
        | some (pc', lv', st', M') => rec d y pc' lv' st' M'
def jx_run : Nat → jx_RT
  | 0 => fun _ _ _ _ _ _ => none
  | n + 1 => jx_F (jx_run n)
theorem jx_F_mono {f g : jx_RT} (h : ∀ d y pc lv st M x, f d y pc lv st M = some x → g d y pc lv st M = some x) : ∀ d y pc lv st M x, jx_F f d y pc lv st M = some x → jx_F g d y pc lv st M = some x := by
  intro d y pc lv st M x hx
  unfold jx_F at hx ⊢
  cases h1 : jx_ft y pc with
  | none => rw [h1] at hx; cases hx
  | some q =>
    obtain ⟨i, len⟩ := q
    rw [h1] at hx
    dsimp only at hx ⊢
    cases h2 : jx_rt y i len st with
    | some r => rw [h2] at hx; exact hx
    | none =>
      rw [h2] at hx
      dsimp only at hx ⊢
      cases h3 : jx_cc y i len st with
      | some q =>
        obtain ⟨y', As, rest⟩ := q
        rw [h3] at hx
        dsimp only at hx ⊢
        cases d with
        | zero => cases hx
        | succ d' =>
          dsimp only at hx ⊢
          cases h4 : f d' y' 0 (jx_en y' As) [] M with
          | none => rw [h4] at hx; cases hx
          | some q =>
            obtain ⟨r, M'⟩ := q
            rw [h4] at hx
            rw [h _ _ _ _ _ _ _ h4]
            exact h _ _ _ _ _ _ _ hx
      | none =>
        rw [h3] at hx
        dsimp only at hx ⊢
        cases h4 : jx_st d y pc i len lv st M with
        | none => rw [h4] at hx; cases hx
        | some q =>
          obtain ⟨pc', lv', st', M'⟩ := q
          rw [h4] at hx
          exact h _ _ _ _ _ _ _ hx
theorem jx_run_succ : ∀ n d y pc lv st M x, jx_run n d y pc lv st M = some x → jx_run (n + 1) d y pc lv st M = some x
  | 0, _, _, _, _, _, _, _, h => by cases h
  | n + 1, d, y, pc, lv, st, M, x, h => jx_F_mono (jx_run_succ n) d y pc lv st M x h
theorem jx_run_le {n k : Nat} (h : n ≤ k) {d y pc : Nat} {lv : List (Option Value)} {st : List Value} {M : jx_M} {x : List Value × jx_M} (hx : jx_run n d y pc lv st M = some x) : jx_run k d y pc lv st M = some x := by
  induction h with
  | refl => exact hx
  | step _ ih => exact jx_run_succ _ _ _ _ _ _ _ _ ih
abbrev jx_Po : Type := List Value → jx_M → Prop
/-- the run from here ends with Q -/
def jx_Ev (d y pc : Nat) (lv : List (Option Value)) (st : List Value) (M : jx_M) (Q : jx_Po) : Prop := ∃ n r M', jx_run n d y pc lv st M = some (r, M') ∧ Q r M'
def jx_Ct (d y : Nat) (As : List Value) (M : jx_M) (Q : jx_Po) : Prop := jx_Ev d y 0 (jx_en y As) [] M Q
def jx_qI (q : Int32 → jx_M → Prop) : jx_Po := fun r M => ∃ x, r = [.int x] ∧ q x M
def jx_qL (q : Int64 → jx_M → Prop) : jx_Po := fun r M => ∃ x, r = [.long x] ∧ q x M
def jx_qV (q : jx_M → Prop) : jx_Po := fun r M => r = [] ∧ q M
def jx_I (d y : Nat) (As : List Value) (M : jx_M) (q : Int32 → jx_M → Prop) : Prop := jx_Ct d y As M (jx_qI q)
def jx_L (d y : Nat) (As : List Value) (M : jx_M) (q : Int64 → jx_M → Prop) : Prop := jx_Ct d y As M (jx_qL q)
def jx_V (d y : Nat) (As : List Value) (M : jx_M) (q : jx_M → Prop) : Prop := jx_Ct d y As M (jx_qV q)
theorem jx_qI_a {q : Int32 → jx_M → Prop} {x : Int32} {M : jx_M} : jx_qI q [.int x] M ↔ q x M := by simp [jx_qI]
theorem jx_qL_a {q : Int64 → jx_M → Prop} {x : Int64} {M : jx_M} : jx_qL q [.long x] M ↔ q x M := by simp [jx_qL]
theorem jx_qV_a {q : jx_M → Prop} {M : jx_M} : jx_qV q [] M ↔ q M := by simp [jx_qV]
section JXE
variable {d y pc y' len : Nat} {i : Instr} {lv lv' : List (Option Value)} {st st' As rest : List Value} {M M' : jx_M} {Q Q' : jx_Po}
theorem jx_Ev.mono (h : jx_Ev d y pc lv st M Q) (hq : ∀ r M', Q r M' → Q' r M') : jx_Ev d y pc lv st M Q' := by
  obtain ⟨n, r, M', h1, h2⟩ := h
  exact ⟨n, r, M', h1, hq r M' h2⟩
theorem jx_I.mono {q q' : Int32 → jx_M → Prop} (h : jx_I d y As M q) (hq : ∀ x M', q x M' → q' x M') : jx_I d y As M q' := jx_Ev.mono h (fun _ _ ⟨x, e, z⟩ => ⟨x, e, hq x _ z⟩)
theorem jx_V.mono {q q' : jx_M → Prop} (h : jx_V d y As M q) (hq : ∀ M', q M' → q' M') : jx_V d y As M q' := jx_Ev.mono h (fun _ _ ⟨e, z⟩ => ⟨e, hq _ z⟩)
theorem jx_L.mono {q q' : Int64 → jx_M → Prop} (h : jx_L d y As M q) (hq : ∀ x M', q x M' → q' x M') : jx_L d y As M q' := jx_Ev.mono h (fun _ _ ⟨x, e, z⟩ => ⟨x, e, hq x _ z⟩)
theorem jx_ev_st {pc' : Nat} (hf : jx_ft y pc = some (i, len)) (h1 : jx_rt y i len st = none) (h2 : jx_cc y i len st = none) (h : jx_st d y pc i len lv st M = some (pc', lv', st', M')) : jx_Ev d y pc lv st M Q ↔ jx_Ev d y pc' lv' st' M' Q := by
  constructor
  · rintro ⟨n, r, N, a, b⟩
    cases n with
    | zero => cases a
    | succ n =>
      refine ⟨n, r, N, ?_, b⟩
      rw [← a]
      show _ = jx_F (jx_run n) d y pc lv st M
      simp only [jx_F, hf, h1, h2, h]
  · rintro ⟨n, r, N, a, b⟩
    refine ⟨n + 1, r, N, ?_, b⟩
    rw [← a]
    show jx_F (jx_run n) d y pc lv st M = _
    simp only [jx_F, hf, h1, h2, h]
theorem jx_ev_no (hf : jx_ft y pc = some (i, len)) (h1 : jx_rt y i len st = none) (h2 : jx_cc y i len st = none) (h : jx_st d y pc i len lv st M = none) : ¬ jx_Ev d y pc lv st M Q := by
  rintro ⟨n, r, N, a, b⟩
  cases n with
  | zero => cases a
  | succ n =>
    have a' : jx_F (jx_run n) d y pc lv st M = some (r, N) := a
    simp only [jx_F, hf, h1, h2, h] at a'
    cases a'
theorem jx_ev_rt {r : List Value} (hf : jx_ft y pc = some (i, len)) (h1 : jx_rt y i len st = some r) : jx_Ev d y pc lv st M Q ↔ Q r M := by
  constructor
  · rintro ⟨n, r', N, a, b⟩
    cases n with
    | zero => cases a
    | succ n =>
      have a' : jx_F (jx_run n) d y pc lv st M = some (r', N) := a
      simp only [jx_F, hf, h1] at a'
      cases a'
      exact b
  · intro h
    refine ⟨1, r, M, ?_, h⟩
    show jx_F (jx_run 0) d y pc lv st M = _
    simp only [jx_F, hf, h1]
theorem jx_ev_cc (hf : jx_ft y pc = some (i, len)) (h1 : jx_rt y i len st = none) (h2 : jx_cc y i len st = some (y', As, rest)) : jx_Ev (d + 1) y pc lv st M Q ↔ jx_Ct d y' As M (fun r M' => jx_Ev (d + 1) y (pc + 3) lv (r ++ rest) M' Q) := by
  constructor
  · rintro ⟨n, r, N, a, b⟩
    cases n with
    | zero => cases a
    | succ n =>
      have a' : jx_F (jx_run n) (d + 1) y pc lv st M = some (r, N) := a
      simp only [jx_F, hf, h1, h2] at a'
      cases h4 : jx_run n d y' 0 (jx_en y' As) [] M with
      | none => rw [h4] at a'; cases a'
      | some q =>
        obtain ⟨r1, M1⟩ := q
        rw [h4] at a'
        exact ⟨n, r1, M1, h4, n, r, N, a', b⟩
  · rintro ⟨n, r1, M1, a, k, r, N, a2, b⟩
    refine ⟨(n + k) + 1, r, N, ?_, b⟩
    show jx_F (jx_run (n + k)) (d + 1) y pc lv st M = _
    simp only [jx_F, hf, h1, h2]
    rw [jx_run_le (Nat.le_add_right n k) a]
    exact jx_run_le (Nat.le_add_left k n) a2
/-- what a method of a kind gives -/
def jx_typ (y : Nat) (r : List Value) : Prop := (jx_mr y = none ∧ r = []) ∨ (jx_mr y = some .long ∧ ∃ x, r = [.long x]) ∨ ((jx_mr y = some .int ∨ jx_mr y = some .boolean) ∧ ∃ x, r = [.int x])
theorem jx_rt_typ {r : List Value} (h : jx_rt y i len st = some r) : jx_typ y r := by
  unfold jx_rt at h
  split at h
  · split at h
    · split at h
      · next q => cases h; exact Or.inr (Or.inr ⟨q.2.elim Or.inl (fun z => Or.inr z.1), _, rfl⟩)
      · cases h
    · cases h
  · split at h
    · split at h
      · next q => cases h; exact Or.inr (Or.inl ⟨q.2, _, rfl⟩)
      · cases h
    · cases h
  · split at h
    · split at h
      · next q => cases h; exact Or.inl ⟨q.2, rfl⟩
      · cases h
    · cases h
  · cases h
theorem jx_run_typ : ∀ (n d y pc : Nat) (lv : List (Option Value)) (st : List Value) (M : jx_M) (r : List Value) (M' : jx_M), jx_run n d y pc lv st M = some (r, M') → jx_typ y r
  | 0, _, _, _, _, _, _, _, _, h => by cases h
  | n + 1, d, y, pc, lv, st, M, r, M', h => by
    have h : jx_F (jx_run n) d y pc lv st M = some (r, M') := h
    unfold jx_F at h
    cases h1 : jx_ft y pc with
    | none => rw [h1] at h; cases h
    | some q =>
      obtain ⟨i, len⟩ := q
      rw [h1] at h
      dsimp only at h
      cases h2 : jx_rt y i len st with
      | some r => rw [h2] at h; cases h; exact jx_rt_typ h2
      | none =>
        rw [h2] at h
        dsimp only at h
        cases h3 : jx_cc y i len st with
        | some q =>
          obtain ⟨y', As, rest⟩ := q
          rw [h3] at h
          dsimp only at h
          cases d with
          | zero => cases h
          | succ d' =>
            dsimp only at h
            cases h4 : jx_run n d' y' 0 (jx_en y' As) [] M with
            | none => rw [h4] at h; cases h
            | some q =>
              obtain ⟨r1, M1⟩ := q
              rw [h4] at h
              exact jx_run_typ n _ _ _ _ _ _ _ _ h
        | none =>
          rw [h3] at h
          dsimp only at h
          cases h4 : jx_st d y pc i len lv st M with
          | none => rw [h4] at h; cases h
          | some q =>
            obtain ⟨pc', lv', st', M1⟩ := q
            rw [h4] at h
            exact jx_run_typ n _ _ _ _ _ _ _ _ h
theorem jx_ev_ci (hf : jx_ft y pc = some (i, len)) (h1 : jx_rt y i len st = none) (h2 : jx_cc y i len st = some (y', As, rest)) (ht : jx_mr y' = some .int ∨ jx_mr y' = some .boolean) : jx_Ev (d + 1) y pc lv st M Q ↔ jx_I d y' As M (fun x M' => jx_Ev (d + 1) y (pc + 3) lv (.int x :: rest) M' Q) := by
  rw [jx_ev_cc hf h1 h2]
  constructor
  · rintro ⟨n, r1, M1, a, b⟩
    rcases jx_run_typ _ _ _ _ _ _ _ _ _ a with h | h | h
    · rcases ht with t | t <;> rw [t] at h <;> cases h.1
    · rcases ht with t | t <;> rw [t] at h <;> cases h.1
    · obtain ⟨x, rfl⟩ := h.2
      exact ⟨n, _, M1, a, x, rfl, b⟩
  · rintro ⟨n, r1, M1, a, x, rfl, b⟩
    exact ⟨n, _, M1, a, b⟩
theorem jx_ev_cl (hf : jx_ft y pc = some (i, len)) (h1 : jx_rt y i len st = none) (h2 : jx_cc y i len st = some (y', As, rest)) (ht : jx_mr y' = some .long) : jx_Ev (d + 1) y pc lv st M Q ↔ jx_L d y' As M (fun x M' => jx_Ev (d + 1) y (pc + 3) lv (.long x :: rest) M' Q) := by
  rw [jx_ev_cc hf h1 h2]
  constructor
  · rintro ⟨n, r1, M1, a, b⟩
    rcases jx_run_typ _ _ _ _ _ _ _ _ _ a with h | h | h
    · rw [ht] at h; cases h.1
    · obtain ⟨x, rfl⟩ := h.2
      exact ⟨n, _, M1, a, x, rfl, b⟩
    · rw [ht] at h; rcases h.1 with z | z <;> cases z
  · rintro ⟨n, r1, M1, a, x, rfl, b⟩
    exact ⟨n, _, M1, a, b⟩
theorem jx_ev_cv (hf : jx_ft y pc = some (i, len)) (h1 : jx_rt y i len st = none) (h2 : jx_cc y i len st = some (y', As, rest)) (ht : jx_mr y' = none) : jx_Ev (d + 1) y pc lv st M Q ↔ jx_V d y' As M (fun M' => jx_Ev (d + 1) y (pc + 3) lv rest M' Q) := by
  rw [jx_ev_cc hf h1 h2]
  constructor
  · rintro ⟨n, r1, M1, a, b⟩
    rcases jx_run_typ _ _ _ _ _ _ _ _ _ a with h | h | h
    · obtain ⟨-, rfl⟩ := h
      exact ⟨n, _, M1, a, rfl, b⟩
    · rw [ht] at h; cases h.1
    · rw [ht] at h; rcases h.1 with z | z <;> cases z
  · rintro ⟨n, r1, M1, a, rfl, b⟩
    exact ⟨n, _, M1, a, b⟩
/-- a call's shape -/
theorem jx_ccV {k o : Nat} (h1 : jx_ml (jx_mo y) k = some y') (h2 : jx_ms y' = false) (hn : As.length = jx_mp y') (h4 : jx_cl o = jx_mo y') (h5 : jx_fit y' 1 As rest = true) (h3 : st = As.reverse ++ .ref o :: rest) : jx_cc y (.invokevirtual k) 3 st = some (y', .ref o :: As, rest) := by
  have e1 : st.drop (jx_mp y') = .ref o :: rest := by rw [h3, ← hn, ← List.length_reverse, List.drop_left]
  have e2 : (st.take (jx_mp y')).reverse = As := by rw [h3, ← hn, ← List.length_reverse, List.take_left, List.reverse_reverse]
  simp only [jx_cc, h1, e1, e2, h2, h4, h5, and_self, if_true]
theorem jx_ccS {k : Nat} (h1 : jx_ml (jx_mo y) k = some y') (h2 : jx_ms y' = true) (hn : As.length = jx_mp y') (h5 : jx_fit y' 0 As rest = true) (h3 : st = As.reverse ++ rest) : jx_cc y (.invokestatic k) 3 st = some (y', As, rest) := by
  have e1 : st.drop (jx_mp y') = rest := by rw [h3, ← hn, ← List.length_reverse, List.drop_left]
  have e2 : (st.take (jx_mp y')).reverse = As := by rw [h3, ← hn, ← List.length_reverse, List.take_left, List.reverse_reverse]
  simp only [jx_cc, h1, e1, e2, h2, h5, and_self, if_true]
end JXE
end
section
/-! one-instruction rewritings of the run, by kind -/
section JXK
variable {d y pc t : Nat} {lv : List (Option Value)} {st : List Value} {M : jx_M} {Q : jx_Po} {x z : Int32} {off : Int}
theorem jx_hEq : jx_h .eq x z = true ↔ x = z := by simp [jx_h]
theorem jx_hNe : jx_h .ne x z = true ↔ ¬ x = z := by simp [jx_h]
theorem jx_hLt : jx_h .lt x z = true ↔ x < z := by simp [jx_h]
theorem jx_hGe : jx_h .ge x z = true ↔ z ≤ x := by simp [jx_h]
theorem jx_hGt : jx_h .gt x z = true ↔ z < x := by simp [jx_h]
theorem jx_hLe : jx_h .le x z = true ↔ x ≤ z := by simp [jx_h]
theorem jx_k_b1 {c : ClassFile.Cond} {P : Prop} [Decidable P] (hf : jx_ft y pc = some (.ifCond c off, 3)) (ht : jx_jp pc off = some t) (hc : jx_h c x 0 = true ↔ P) : jx_Ev d y pc lv (.int x :: st) M Q ↔ if P then jx_Ev d y t lv st M Q else jx_Ev d y (pc + 3) lv st M Q := by
  rw [jx_ev_st (pc' := if jx_h c x 0 = true then t else pc + 3) (lv' := lv) (st' := st) (M' := M) hf rfl rfl (by simp only [jx_st, jx_br1, ht, if_true])]
  by_cases h : P
  · rw [if_pos h, if_pos (hc.mpr h)]
  · rw [if_neg h, if_neg (fun q => h (hc.mp q))]
theorem jx_k_b1n {c : ClassFile.Cond} {P : Prop} [Decidable P] (hf : jx_ft y pc = some (.ifCond c off, 3)) (ht : jx_jp pc off = some t) (hc : jx_h c x 0 = true ↔ ¬ P) : jx_Ev d y pc lv (.int x :: st) M Q ↔ if P then jx_Ev d y (pc + 3) lv st M Q else jx_Ev d y t lv st M Q := by
  rw [jx_ev_st (pc' := if jx_h c x 0 = true then t else pc + 3) (lv' := lv) (st' := st) (M' := M) hf rfl rfl (by simp only [jx_st, jx_br1, ht, if_true])]
  by_cases h : P
  · rw [if_pos h, if_neg (fun q => hc.mp q h)]
  · rw [if_neg h, if_pos (hc.mpr h)]
theorem jx_k_b2 {c : ClassFile.Cond} {P : Prop} [Decidable P] (hf : jx_ft y pc = some (.if_icmp c off, 3)) (ht : jx_jp pc off = some t) (hc : jx_h c x z = true ↔ P) : jx_Ev d y pc lv (.int z :: .int x :: st) M Q ↔ if P then jx_Ev d y t lv st M Q else jx_Ev d y (pc + 3) lv st M Q := by
  rw [jx_ev_st (pc' := if jx_h c x z = true then t else pc + 3) (lv' := lv) (st' := st) (M' := M) hf rfl rfl (by simp only [jx_st, jx_br2, ht, if_true])]
  by_cases h : P
  · rw [if_pos h, if_pos (hc.mpr h)]
  · rw [if_neg h, if_neg (fun q => h (hc.mp q))]
theorem jx_k_b2n {c : ClassFile.Cond} {P : Prop} [Decidable P] (hf : jx_ft y pc = some (.if_icmp c off, 3)) (ht : jx_jp pc off = some t) (hc : jx_h c x z = true ↔ ¬ P) : jx_Ev d y pc lv (.int z :: .int x :: st) M Q ↔ if P then jx_Ev d y (pc + 3) lv st M Q else jx_Ev d y t lv st M Q := by
  rw [jx_ev_st (pc' := if jx_h c x z = true then t else pc + 3) (lv' := lv) (st' := st) (M' := M) hf rfl rfl (by simp only [jx_st, jx_br2, ht, if_true])]
  by_cases h : P
  · rw [if_pos h, if_neg (fun q => hc.mp q h)]
  · rw [if_neg h, if_pos (hc.mpr h)]
theorem jx_k_goto (hf : jx_ft y pc = some (.goto off, 3)) (ht : jx_jp pc off = some t) : jx_Ev d y pc lv st M Q ↔ jx_Ev d y t lv st M Q :=
  jx_ev_st hf rfl rfl (by simp only [jx_st, ht, if_true])
theorem jx_k_nr {k : Nat} (hf : jx_ft y pc = some (.ifnull off, 3)) : jx_Ev d y pc lv (.ref k :: st) M Q ↔ jx_Ev d y (pc + 3) lv st M Q := jx_ev_st hf rfl rfl rfl
theorem jx_k_nn (hf : jx_ft y pc = some (.ifnull off, 3)) (ht : jx_jp pc off = some t) : jx_Ev d y pc lv (.null :: st) M Q ↔ jx_Ev d y t lv st M Q :=
  jx_ev_st hf rfl rfl (by simp only [jx_st, jx_brn, ht, if_true])
/-- fields -/
theorem jx_k_gf {i ci j k : Nat} {v : Value} (hf : jx_ft y pc = some (.getfield i, 3)) (hl : jx_fl (jx_mo y) i = some (ci, j)) (hk : jx_cl k = ci) (hv : jx_fv (jx_fk ci j) (M k) k j = v) : jx_Ev d y pc lv (.ref k :: st) M Q ↔ jx_Ev d y (pc + 3) lv (v :: st) M Q :=
  jx_ev_st hf rfl rfl (by simp only [jx_st, jx_gf, hl, hk, hv, if_true])
theorem jx_k_pf0 {i ci j k : Nat} (hf : jx_ft y pc = some (.putfield i, 3)) (hl : jx_fl (jx_mo y) i = some (ci, j)) (hk : jx_cl k = ci) (hv : jx_fk ci j = 0) : jx_Ev d y pc lv (.int x :: .ref k :: st) M Q ↔ jx_Ev d y (pc + 3) lv st (jx_up M k j x) Q :=
  jx_ev_st hf rfl rfl (by simp only [jx_st, jx_pf, hl, hk, hv, if_true, true_and, true_or])
theorem jx_k_pf1 {i ci j k : Nat} (hf : jx_ft y pc = some (.putfield i, 3)) (hl : jx_fl (jx_mo y) i = some (ci, j)) (hk : jx_cl k = ci) (hv : jx_fk ci j = 1) : jx_Ev d y pc lv (.int x :: .ref k :: st) M Q ↔ (x = 0 ∨ x = 1) ∧ jx_Ev d y (pc + 3) lv st (jx_up M k j x) Q := by
  by_cases h : x = 0 ∨ x = 1
  · rw [jx_ev_st (pc' := pc + 3) (lv' := lv) (st' := st) (M' := jx_up M k j x) hf rfl rfl (by simp [jx_st, jx_pf, hl, hk, hv, h])]
    exact ⟨fun q => ⟨h, q⟩, fun q => q.2⟩
  · exact ⟨fun q => absurd q (jx_ev_no hf rfl rfl (by simp [jx_st, jx_pf, hl, hk, hv, h])), fun q => absurd q.1 h⟩
theorem jx_k_pf2 {i ci j k o : Nat} (hf : jx_ft y pc = some (.putfield i, 3)) (hl : jx_fl (jx_mo y) i = some (ci, j)) (hk : jx_cl k = ci) (hv : jx_fk ci j = 2) (ho : o < 56) : jx_Ev d y pc lv (.ref o :: .ref k :: st) M Q ↔ jx_Ev d y (pc + 3) lv st (jx_up M k j (nI o)) Q :=
  jx_ev_st hf rfl rfl (by simp only [jx_st, jx_pf, hl, hk, hv, ho, if_true, true_and, and_self])
/-- rows -/
theorem jx_k_al {a : Nat} (hf : jx_ft y pc = some (.iaload, 1)) (ha : jx_cl a = 9) : jx_Ev d y pc lv (.int x :: .ref a :: st) M Q ↔ vp_in x (jx_sz a) ∧ jx_Ev d y (pc + 1) lv (.int (M a x.toNatClampNeg) :: st) M Q := by
  unfold vp_in
  by_cases h : ¬ (x < 0 ∨ jx_sz a ≤ x.toNatClampNeg)
  · rw [jx_ev_st (pc' := pc + 1) (lv' := lv) (st' := .int (M a x.toNatClampNeg) :: st) (M' := M) hf rfl rfl (by simp only [jx_st, jx_al, ha, if_pos h, if_true, true_and])]
    exact ⟨fun q => ⟨h, q⟩, fun q => q.2⟩
  · exact ⟨fun q => absurd q (jx_ev_no hf rfl rfl (by simp only [jx_st, jx_al, ha, if_neg h, if_true, true_and])), fun q => absurd q.1 h⟩
theorem jx_k_as {a : Nat} (hf : jx_ft y pc = some (.iastore, 1)) (ha : jx_cl a = 9) : jx_Ev d y pc lv (.int z :: .int x :: .ref a :: st) M Q ↔ vp_in x (jx_sz a) ∧ jx_Ev d y (pc + 1) lv st (jx_up M a x.toNatClampNeg z) Q := by
  unfold vp_in
  by_cases h : ¬ (x < 0 ∨ jx_sz a ≤ x.toNatClampNeg)
  · rw [jx_ev_st (pc' := pc + 1) (lv' := lv) (st' := st) (M' := jx_up M a x.toNatClampNeg z) hf rfl rfl (by simp only [jx_st, jx_as, ha, if_pos h, if_true, true_and])]
    exact ⟨fun q => ⟨h, q⟩, fun q => q.2⟩
  · exact ⟨fun q => absurd q (jx_ev_no hf rfl rfl (by simp only [jx_st, jx_as, ha, if_neg h, if_true, true_and])), fun q => absurd q.1 h⟩
theorem jx_k_aa (hf : jx_ft y pc = some (.aaload, 1)) : jx_Ev d y pc lv (.int x :: .ref 1 :: st) M Q ↔ vp_in x 4 ∧ jx_Ev d y (pc + 1) lv (.ref (jx_sp x) :: st) M Q := by
  unfold vp_in
  by_cases h : ¬ (x < 0 ∨ 4 ≤ x.toNatClampNeg)
  · rw [jx_ev_st (pc' := pc + 1) (lv' := lv) (st' := .ref (jx_sp x) :: st) (M' := M) hf rfl rfl (by simp only [jx_st, jx_aa, if_pos h, if_true, true_and])]
    exact ⟨fun q => ⟨h, q⟩, fun q => q.2⟩
  · exact ⟨fun q => absurd q (jx_ev_no hf rfl rfl (by simp only [jx_st, jx_aa, if_neg h, if_true, true_and])), fun q => absurd q.1 h⟩
theorem jx_k_idiv (hf : jx_ft y pc = some (.idiv, 1)) : jx_Ev d y pc lv (.int z :: .int x :: st) M Q ↔ ¬ z = 0 ∧ jx_Ev d y (pc + 1) lv (.int (x / z) :: st) M Q := by
  by_cases h : z = 0
  · exact ⟨fun q => absurd q (jx_ev_no hf rfl rfl (by simp only [jx_st, jx_dv, h, if_true])), fun q => absurd h q.1⟩
  · rw [jx_ev_st (pc' := pc + 1) (lv' := lv) (st' := .int (x / z) :: st) (M' := M) hf rfl rfl (by simp only [jx_st, jx_dv, if_neg h, if_true])]
    exact ⟨fun q => ⟨h, q⟩, fun q => q.2⟩
theorem jx_k_irem (hf : jx_ft y pc = some (.irem, 1)) : jx_Ev d y pc lv (.int z :: .int x :: st) M Q ↔ ¬ z = 0 ∧ jx_Ev d y (pc + 1) lv (.int (x - x / z * z) :: st) M Q := by
  by_cases h : z = 0
  · exact ⟨fun q => absurd q (jx_ev_no hf rfl rfl (by simp only [jx_st, jx_dv, h, if_true])), fun q => absurd h q.1⟩
  · rw [jx_ev_st (pc' := pc + 1) (lv' := lv) (st' := .int (x - x / z * z) :: st) (M' := M) hf rfl rfl (by simp only [jx_st, jx_dv, if_neg h, if_true])]
    exact ⟨fun q => ⟨h, q⟩, fun q => q.2⟩
/-- ends -/
theorem jx_k_ri (hf : jx_ft y pc = some (.ireturn, 1)) (hr : jx_mr y = some .int) : jx_Ev d y pc lv [.int x] M Q ↔ Q [.int x] M :=
  jx_ev_rt hf (by simp only [jx_rt, hr, true_or, and_self, if_true])
theorem jx_k_rz (hf : jx_ft y pc = some (.ireturn, 1)) (hr : jx_mr y = some .boolean) : jx_Ev d y pc lv [.int x] M Q ↔ (x = 0 ∨ x = 1) ∧ Q [.int x] M := by
  by_cases h : x = 0 ∨ x = 1
  · rw [jx_ev_rt (r := [.int x]) hf (by simp [jx_rt, hr, h])]
    exact ⟨fun q => ⟨h, q⟩, fun q => q.2⟩
  · exact ⟨fun q => absurd q (jx_ev_no hf (by simp [jx_rt, hr, h]) rfl rfl), fun q => absurd q.1 h⟩
theorem jx_k_rl {x : Int64} (hf : jx_ft y pc = some (.lreturn, 1)) (hr : jx_mr y = some .long) : jx_Ev d y pc lv [.long x] M Q ↔ Q [.long x] M :=
  jx_ev_rt hf (by simp only [jx_rt, hr, and_self, if_true])
theorem jx_k_rv (hf : jx_ft y pc = some (.return_, 1)) (hr : jx_mr y = none) : jx_Ev d y pc lv [] M Q ↔ Q [] M :=
  jx_ev_rt hf (by simp only [jx_rt, hr, and_self, if_true])
/-- the library's -/
theorem jx_k_max {k : Nat} (hf : jx_ft y pc = some (.invokestatic k, 3)) (hm : jx_ml (jx_mo y) k = none) (hb : jx_bi (jx_mo y) k = 1) (hs : jx_sum st ≤ 8) : jx_Ev (d + 1) y pc lv (.int z :: .int x :: st) M Q ↔ jx_Ev (d + 1) y (pc + 3) lv (.int (if x < z then z else x) :: st) M Q :=
  jx_ev_st hf rfl (by simp only [jx_cc, hm]) (by simp only [jx_st, hb, jx_nat, hs, if_true, and_true, Nat.zero_lt_succ])
theorem jx_k_min {k : Nat} (hf : jx_ft y pc = some (.invokestatic k, 3)) (hm : jx_ml (jx_mo y) k = none) (hb : jx_bi (jx_mo y) k = 2) (hs : jx_sum st ≤ 8) : jx_Ev (d + 1) y pc lv (.int z :: .int x :: st) M Q ↔ jx_Ev (d + 1) y (pc + 3) lv (.int (if z < x then z else x) :: st) M Q :=
  jx_ev_st hf rfl (by simp only [jx_cc, hm]) (by simp only [jx_st, hb, jx_nat, hs, if_true, and_true, Nat.zero_lt_succ])
theorem jx_k_abs {k : Nat} (hf : jx_ft y pc = some (.invokestatic k, 3)) (hm : jx_ml (jx_mo y) k = none) (hb : jx_bi (jx_mo y) k = 3) (hs : jx_sum st ≤ 8) : jx_Ev (d + 1) y pc lv (.int x :: st) M Q ↔ jx_Ev (d + 1) y (pc + 3) lv (.int (if 0 ≤ x then x else 0 - x) :: st) M Q :=
  jx_ev_st hf rfl (by simp only [jx_cc, hm]) (by simp only [jx_st, hb, jx_nat, hs, if_true, and_true, Nat.zero_lt_succ])
def jx_cpP (a b : Nat) (sp dp n : Int32) : Prop := ¬ sp < 0 ∧ ¬ dp < 0 ∧ ¬ n < 0 ∧ sp.toNatClampNeg + n.toNatClampNeg ≤ jx_sz a ∧ dp.toNatClampNeg + n.toNatClampNeg ≤ jx_sz b
theorem jx_k_cpy {k a b : Nat} {n dp sp : Int32} (hf : jx_ft y pc = some (.invokestatic k, 3)) (hm : jx_ml (jx_mo y) k = none) (hb : jx_bi (jx_mo y) k = 4) (hs : jx_sum st ≤ 8) (ha : jx_cl a = 9) (hb9 : jx_cl b = 9) : jx_Ev (d + 1) y pc lv (.int n :: .int dp :: .ref b :: .int sp :: .ref a :: st) M Q ↔ jx_cpP a b sp dp n ∧ jx_Ev (d + 1) y (pc + 3) lv st (jx_cp M a b sp dp n) Q := by
  unfold jx_cpP
  by_cases h : ¬ sp < 0 ∧ ¬ dp < 0 ∧ ¬ n < 0 ∧ sp.toNatClampNeg + n.toNatClampNeg ≤ jx_sz a ∧ dp.toNatClampNeg + n.toNatClampNeg ≤ jx_sz b
  · rw [jx_ev_st (pc' := pc + 3) (lv' := lv) (st' := st) (M' := jx_cp M a b sp dp n) hf rfl (by simp only [jx_cc, hm]) (by simp only [jx_st, hb, jx_nat, hs, ha, hb9, if_pos h, if_true, true_and, Nat.zero_lt_succ])]
    exact ⟨fun q => ⟨h, q⟩, fun q => q.2⟩
  · exact ⟨fun q => absurd q (jx_ev_no hf rfl (by simp only [jx_cc, hm]) (by simp only [jx_st, hb, jx_nat, hs, ha, hb9, if_neg h, if_true, true_and, Nat.zero_lt_succ])), fun q => absurd q.1 h⟩
theorem jx_k_ilt {k : Nat} {u v r : Int64} (hf : jx_ft y pc = some (.invokestatic k, 3)) (hm : jx_ml (jx_mo y) k = none) (hb : jx_bi (jx_mo y) k = 5) (hs : jx_sum st ≤ 8) (hr : jx_ilt u v x = some r) : jx_Ev (d + 1) y pc lv (.int x :: .long v :: .long u :: st) M Q ↔ jx_Ev (d + 1) y (pc + 3) lv (.long r :: st) M Q :=
  jx_ev_st hf rfl (by simp only [jx_cc, hm]) (by simp only [jx_st, hb, jx_nat, hs, hr, if_true, and_true, Nat.zero_lt_succ])
/-- switches -/
theorem jx_k_lsw {dflt : Int} {ps : Array (Int × Int)} {len : Nat} (hf : jx_ft y pc = some (.lookupswitch dflt ps, len)) (hs : (ps.toList.zip (ps.toList.drop 1)).all (fun (a, next) => a.1 < next.1) = true) (ht : jx_jp pc (Op.lookupswitch.offset ps.toList dflt x.toInt) = some t) : jx_Ev d y pc lv (.int x :: st) M Q ↔ jx_Ev d y t lv st M Q :=
  jx_ev_st hf rfl rfl (by simp only [jx_st, jx_lsw, hs, ht, if_true])
theorem jx_k_tso {dflt lo hi : Int} {offs : Array Int} {len : Nat} (hf : jx_ft y pc = some (.tableswitch dflt lo hi offs, len)) (h : x.toInt < lo ∨ hi < x.toInt) (ht : jx_jp pc dflt = some t) : jx_Ev d y pc lv (.int x :: st) M Q ↔ jx_Ev d y t lv st M Q :=
  jx_ev_st hf rfl rfl (by simp only [jx_st, jx_tsw, if_pos h, ht])
theorem jx_k_tsi {dflt lo hi : Int} {offs : Array Int} {len : Nat} (hf : jx_ft y pc = some (.tableswitch dflt lo hi offs, len)) (h : ¬ (x.toInt < lo ∨ hi < x.toInt)) (ho : offs[(x.toInt - lo).toNat]? = some off) (ht : jx_jp pc off = some t) : jx_Ev d y pc lv (.int x :: st) M Q ↔ jx_Ev d y t lv st M Q :=
  jx_ev_st hf rfl rfl (by simp only [jx_st, jx_tsw, if_neg h, ho, ht])
end JXK
end
section
theorem jx_i0 {x : Int32} (k : Nat) (h : ¬ x = Int32.ofNat k) (hk : k < 100) : x.toInt ≠ (k : Int) := fun q => h (Int32.toInt_inj.mp (by rw [q, Int32.toInt_ofNat_of_lt (by omega)]))
theorem jx_tsx3 {x : Int32} (h0 : ¬ x = 0) (h1 : ¬ x = 1) (h2 : ¬ x = 2) : x.toInt ≠ 0 ∧ x.toInt ≠ 1 ∧ x.toInt ≠ 2 := ⟨jx_i0 0 h0 (by omega), jx_i0 1 h1 (by omega), jx_i0 2 h2 (by omega)⟩
theorem jx_tsx5 {x : Int32} (h0 : ¬ x = 0) (h1 : ¬ x = 1) (h2 : ¬ x = 2) (h3 : ¬ x = 3) (h4 : ¬ x = 4) : x.toInt ≠ 0 ∧ x.toInt ≠ 1 ∧ x.toInt ≠ 2 ∧ x.toInt ≠ 3 ∧ x.toInt ≠ 4 := ⟨jx_i0 0 h0 (by omega), jx_i0 1 h1 (by omega), jx_i0 2 h2 (by omega), jx_i0 3 h3 (by omega), jx_i0 4 h4 (by omega)⟩
set_option maxRecDepth 100000 in
theorem eX0_findLeast :
  (∀ (d : Nat) (st : List Value) (M : jx_M) (Q : jx_Po) (l1 l2 l3 : Option Value) (x : Nat), jx_Ev d 0 0 [some (.ref x), l1, l2, l3] st M Q ↔ jx_Ev d 0 1 [some (.ref x), l1, l2, l3] (.ref x :: st) M Q) ∧
  (∀ (d : Nat) (st : List Value) (M : jx_M) (Q : jx_Po) (l0 l2 l3 : Option Value) (x : Nat), jx_Ev d 0 1 [l0, some (.ref x), l2, l3] st M Q ↔ jx_Ev d 0 2 [l0, some (.ref x), l2, l3] (.ref x :: st) M Q) ∧
  (∀ (d : Nat) (lv : List (Option Value)) (st : List Value) (M : jx_M) (Q : jx_Po) (o : Nat) (ho : o < 56), jx_Ev d 0 2 lv (.ref o :: .ref 9 :: st) M Q ↔ jx_Ev d 0 5 lv st (jx_up M 9 4 (nI o)) Q) ∧
  (∀ (d : Nat) (st : List Value) (M : jx_M) (Q : jx_Po) (l1 l2 l3 : Option Value) (x : Nat), jx_Ev d 0 5 [some (.ref x), l1, l2, l3] st M Q ↔ jx_Ev d 0 6 [some (.ref x), l1, l2, l3] (.ref x :: st) M Q) ∧
  (∀ (d : Nat) (st : List Value) (M : jx_M) (Q : jx_Po) (l0 l1 l3 : Option Value) (x : Int32), jx_Ev d 0 6 [l0, l1, some (.int x), l3] st M Q ↔ jx_Ev d 0 7 [l0, l1, some (.int x), l3] (.int x :: st) M Q) ∧
  (∀ (d : Nat) (lv : List (Option Value)) (st : List Value) (M : jx_M) (Q : jx_Po) (x : Int32), jx_Ev d 0 7 lv (.int x :: .ref 9 :: st) M Q ↔ jx_Ev d 0 10 lv st (jx_up M 9 5 x) Q) ∧
  (∀ (d : Nat) (st : List Value) (M : jx_M) (Q : jx_Po) (l1 l2 l3 : Option Value) (x : Nat), jx_Ev d 0 10 [some (.ref x), l1, l2, l3] st M Q ↔ jx_Ev d 0 11 [some (.ref x), l1, l2, l3] (.ref x :: st) M Q) ∧
  (∀ (d : Nat) (lv : List (Option Value)) (st : List Value) (M : jx_M) (Q : jx_Po), jx_Ev d 0 11 lv st M Q ↔ jx_Ev d 0 13 lv (.int 2147483647 :: st) M Q) ∧
  (∀ (d : Nat) (lv : List (Option Value)) (st : List Value) (M : jx_M) (Q : jx_Po) (x : Int32), jx_Ev d 0 13 lv (.int x :: .ref 9 :: st) M Q ↔ jx_Ev d 0 16 lv st (jx_up M 9 1 x) Q) ∧
  (∀ (d : Nat) (lv : List (Option Value)) (st : List Value) (M : jx_M) (Q : jx_Po), jx_Ev d 0 16 lv st M Q ↔ jx_Ev d 0 17 lv (.int 0 :: st) M Q) ∧
  (∀ (d : Nat) (st : List Value) (M : jx_M) (Q : jx_Po) (l0 l1 l2 l3 : Option Value) (x : Int32), jx_Ev d 0 17 [l0, l1, l2, l3] (.int x :: st) M Q ↔ jx_Ev d 0 18 [l0, l1, l2, some (.int x)] st M Q) ∧
  (∀ (d : Nat) (lv : List (Option Value)) (st : List Value) (M : jx_M) (Q : jx_Po), jx_Ev d 0 19 lv st M Q ↔ jx_Ev d 0 20 lv (.int 4 :: st) M Q) ∧
  (∀ (d : Nat) (lv : List (Option Value)) (st : List Value) (M : jx_M) (Q : jx_Po) (x z : Int32), jx_Ev d 0 20 lv (.int z :: .int x :: st) M Q ↔ (if z ≤ x then jx_Ev d 0 36 lv st M Q else jx_Ev d 0 23 lv st M Q)) ∧
  (∀ (d : Nat) (st : List Value) (M : jx_M) (Q : jx_Po) (l1 l2 l3 : Option Value) (x : Nat), jx_Ev d 0 23 [some (.ref x), l1, l2, l3] st M Q ↔ jx_Ev d 0 24 [some (.ref x), l1, l2, l3] (.ref x :: st) M Q) ∧
  (∀ (d : Nat) (lv : List (Option Value)) (st : List Value) (M : jx_M) (Q : jx_Po), jx_Ev d 0 24 lv (.ref 9 :: st) M Q ↔ jx_Ev d 0 27 lv (.ref 12 :: st) M Q) ∧
  (∀ (d : Nat) (st : List Value) (M : jx_M) (Q : jx_Po) (l0 l1 l2 : Option Value) (x : Int32), jx_Ev d 0 27 [l0, l1, l2, some (.int x)] st M Q ↔ jx_Ev d 0 28 [l0, l1, l2, some (.int x)] (.int x :: st) M Q) ∧
  (∀ (d : Nat) (lv : List (Option Value)) (st : List Value) (M : jx_M) (Q : jx_Po), jx_Ev d 0 28 lv st M Q ↔ jx_Ev d 0 29 lv (.int 0 :: st) M Q) ∧
  (∀ (d : Nat) (lv : List (Option Value)) (st : List Value) (M : jx_M) (Q : jx_Po) (x z : Int32) (a : Nat) (ha : jx_cl a = 9), jx_Ev d 0 29 lv (.int z :: .int x :: .ref a :: st) M Q ↔ (vp_in x (jx_sz a) ∧ jx_Ev d 0 30 lv st (jx_up M a x.toNatClampNeg z) Q)) ∧
  (∀ (d : Nat) (st : List Value) (M : jx_M) (Q : jx_Po) (l0 l1 l2 : Option Value) (x : Int32), jx_Ev d 0 30 [l0, l1, l2, some (.int x)] st M Q ↔ jx_Ev d 0 33 [l0, l1, l2, some (.int (x + 1))] st M Q) ∧
  (∀ (d : Nat) (lv : List (Option Value)) (st : List Value) (M : jx_M) (Q : jx_Po), jx_Ev d 0 33 lv st M Q ↔ jx_Ev d 0 18 lv st M Q) ∧
  (∀ (d : Nat) (st : List Value) (M : jx_M) (Q : jx_Po) (l1 l2 l3 : Option Value) (x : Nat), jx_Ev d 0 36 [some (.ref x), l1, l2, l3] st M Q ↔ jx_Ev d 0 37 [some (.ref x), l1, l2, l3] (.ref x :: st) M Q) ∧
  (∀ (d : Nat) (lv : List (Option Value)) (st : List Value) (M : jx_M) (Q : jx_Po), jx_Ev d 0 37 lv st M Q ↔ jx_Ev d 0 38 lv (.int 0 :: st) M Q) ∧
  (∀ (d : Nat) (lv : List (Option Value)) (st : List Value) (M : jx_M) (Q : jx_Po), jx_Ev d 0 38 lv st M Q ↔ jx_Ev d 0 39 lv (.int 0 :: st) M Q) ∧
  (∀ (d : Nat) (lv : List (Option Value)) (M : jx_M) (Q : jx_Po) (a0 : Int32) (a1 : Int32) (a2 : Nat), jx_Ev (d + 1) 0 39 lv [.int a0, .int a1, .ref a2] M Q ↔ jx_V d 1 [.ref a2, .int a1, .int a0] M (fun M => jx_Ev (d + 1) 0 42 lv [] M Q)) ∧
  (∀ (d : Nat) (lv : List (Option Value)) (M : jx_M) (Q : jx_Po), jx_Ev d 0 42 lv [] M Q ↔ Q [] M) := by
  refine ⟨?_, ?_, ?_, ?_, ?_, ?_, ?_, ?_, ?_, ?_, ?_, ?_, ?_, ?_, ?_, ?_, ?_, ?_, ?_, ?_, ?_, ?_, ?_, ?_, ?_⟩
  · exact fun d st M Q l1 l2 l3 x => jx_ev_st (jx_fok (by decide +kernel : decode (jx_mb 0) 0 = .ok (.aload_n 0, 1))) rfl rfl rfl
  · exact fun d st M Q l0 l2 l3 x => jx_ev_st (jx_fok (by decide +kernel : decode (jx_mb 0) 1 = .ok (.aload_n 1, 1))) rfl rfl rfl
  · exact fun d lv st M Q o ho => jx_k_pf2 (jx_fok (by decide +kernel : decode (jx_mb 0) 2 = .ok (.putfield 25, 3))) rfl rfl rfl ho
  · exact fun d st M Q l1 l2 l3 x => jx_ev_st (jx_fok (by decide +kernel : decode (jx_mb 0) 5 = .ok (.aload_n 0, 1))) rfl rfl rfl
  · exact fun d st M Q l0 l1 l3 x => jx_ev_st (jx_fok (by decide +kernel : decode (jx_mb 0) 6 = .ok (.iload_n 2, 1))) rfl rfl rfl
  · exact fun d lv st M Q x => jx_k_pf0 (jx_fok (by decide +kernel : decode (jx_mb 0) 7 = .ok (.putfield 29, 3))) rfl rfl rfl
  · exact fun d st M Q l1 l2 l3 x => jx_ev_st (jx_fok (by decide +kernel : decode (jx_mb 0) 10 = .ok (.aload_n 0, 1))) rfl rfl rfl
  · exact fun d lv st M Q => jx_ev_st (jx_fok (by decide +kernel : decode (jx_mb 0) 11 = .ok (.ldc 34, 2))) rfl rfl rfl
  · exact fun d lv st M Q x => jx_k_pf0 (jx_fok (by decide +kernel : decode (jx_mb 0) 13 = .ok (.putfield 15, 3))) rfl rfl rfl
  · exact fun d lv st M Q => jx_ev_st (jx_fok (by decide +kernel : decode (jx_mb 0) 16 = .ok (.iconst 0, 1))) rfl rfl rfl
  · exact fun d st M Q l0 l1 l2 l3 x => jx_ev_st (jx_fok (by decide +kernel : decode (jx_mb 0) 17 = .ok (.istore_n 3, 1))) rfl rfl rfl
  · exact fun d lv st M Q => jx_ev_st (jx_fok (by decide +kernel : decode (jx_mb 0) 19 = .ok (.iconst 4, 1))) rfl rfl rfl
  · exact fun d lv st M Q x z => jx_k_b2 (jx_fok (by decide +kernel : decode (jx_mb 0) 20 = .ok (.if_icmp .ge 16, 3))) rfl jx_hGe
  · exact fun d st M Q l1 l2 l3 x => jx_ev_st (jx_fok (by decide +kernel : decode (jx_mb 0) 23 = .ok (.aload_n 0, 1))) rfl rfl rfl
  · exact fun d lv st M Q => jx_k_gf (jx_fok (by decide +kernel : decode (jx_mb 0) 24 = .ok (.getfield 22, 3))) rfl rfl rfl
  · exact fun d st M Q l0 l1 l2 x => jx_ev_st (jx_fok (by decide +kernel : decode (jx_mb 0) 27 = .ok (.iload_n 3, 1))) rfl rfl rfl
  · exact fun d lv st M Q => jx_ev_st (jx_fok (by decide +kernel : decode (jx_mb 0) 28 = .ok (.iconst 0, 1))) rfl rfl rfl
  · exact fun d lv st M Q x z a ha => jx_k_as (jx_fok (by decide +kernel : decode (jx_mb 0) 29 = .ok (.iastore, 1))) ha
  · exact fun d st M Q l0 l1 l2 x => jx_ev_st (jx_fok (by decide +kernel : decode (jx_mb 0) 30 = .ok (.iinc 3 1, 3))) rfl rfl rfl
  · exact fun d lv st M Q => jx_k_goto (jx_fok (by decide +kernel : decode (jx_mb 0) 33 = .ok (.goto (-15), 3))) rfl
  · exact fun d st M Q l1 l2 l3 x => jx_ev_st (jx_fok (by decide +kernel : decode (jx_mb 0) 36 = .ok (.aload_n 0, 1))) rfl rfl rfl
  · exact fun d lv st M Q => jx_ev_st (jx_fok (by decide +kernel : decode (jx_mb 0) 37 = .ok (.iconst 0, 1))) rfl rfl rfl
  · exact fun d lv st M Q => jx_ev_st (jx_fok (by decide +kernel : decode (jx_mb 0) 38 = .ok (.iconst 0, 1))) rfl rfl rfl
  · exact fun d lv M Q a0 a1 a2 => jx_ev_cv (jx_fok (by decide +kernel : decode (jx_mb 0) 39 = .ok (.invokestatic 35, 3))) rfl (jx_ccS (As := [.ref a2, .int a1, .int a0]) (rest := []) rfl rfl rfl rfl rfl) rfl
  · exact fun d lv M Q => jx_k_rv (jx_fok (by decide +kernel : decode (jx_mb 0) 42 = .ok (.return_, 1))) rfl
theorem eX0_findLeast_18 (d : Nat) (st : List Value) (M : jx_M) (Q : jx_Po) (l0 l1 l2 : Option Value) (x : Int32) : jx_Ev d 0 18 [l0, l1, l2, some (.int x)] st M Q ↔ jx_Ev d 0 19 [l0, l1, l2, some (.int x)] (.int x :: st) M Q := jx_ev_st (jx_fok (by decide +kernel : decode (jx_mb 0) 18 = .ok (.iload_n 3, 1))) rfl rfl rfl
theorem kX0_findLeast (d : Nat) (M : jx_M) (q : jx_M → Prop) (a0 a1 a2 : Value) : jx_V d 0 [a0, a1, a2] M q ↔ jx_Ev d 0 0 [some a0, some a1, some a2, none] [] M (jx_qV q) := Iff.rfl
set_option maxRecDepth 100000 in
theorem eX0_settleFrom :
  (∀ (d : Nat) (st : List Value) (M : jx_M) (Q : jx_Po) (l0 l1 l3 l4 l5 : Option Value) (x : Int32), jx_Ev d 1 0 [l0, l1, some (.int x), l3, l4, l5] st M Q ↔ jx_Ev d 1 1 [l0, l1, some (.int x), l3, l4, l5] (.int x :: st) M Q) ∧
  (∀ (d : Nat) (st : List Value) (M : jx_M) (Q : jx_Po) (l1 l2 l3 l4 l5 : Option Value) (x : Nat), jx_Ev d 1 1 [some (.ref x), l1, l2, l3, l4, l5] st M Q ↔ jx_Ev d 1 2 [some (.ref x), l1, l2, l3, l4, l5] (.ref x :: st) M Q) ∧
  (∀ (d : Nat) (lv : List (Option Value)) (st : List Value) (M : jx_M) (Q : jx_Po), jx_Ev d 1 2 lv (.ref 9 :: st) M Q ↔ jx_Ev d 1 5 lv (.int (M 9 1) :: st) M Q) ∧
  (∀ (d : Nat) (lv : List (Option Value)) (st : List Value) (M : jx_M) (Q : jx_Po) (x z : Int32), jx_Ev d 1 5 lv (.int z :: .int x :: st) M Q ↔ (if x < z then jx_Ev d 1 9 lv st M Q else jx_Ev d 1 8 lv st M Q)) ∧
  (∀ (d : Nat) (lv : List (Option Value)) (M : jx_M) (Q : jx_Po), jx_Ev d 1 8 lv [] M Q ↔ Q [] M) ∧
  (∀ (d : Nat) (st : List Value) (M : jx_M) (Q : jx_Po) (l0 l2 l3 l4 l5 : Option Value) (x : Int32), jx_Ev d 1 9 [l0, some (.int x), l2, l3, l4, l5] st M Q ↔ jx_Ev d 1 10 [l0, some (.int x), l2, l3, l4, l5] (.int x :: st) M Q) ∧
  (∀ (d : Nat) (lv : List (Option Value)) (st : List Value) (M : jx_M) (Q : jx_Po), jx_Ev d 1 10 lv st M Q ↔ jx_Ev d 1 12 lv (.int 6 :: st) M Q) ∧
  (∀ (d : Nat) (lv : List (Option Value)) (st : List Value) (M : jx_M) (Q : jx_Po) (x z : Int32), jx_Ev d 1 12 lv (.int z :: .int x :: st) M Q ↔ (if x < z then jx_Ev d 1 21 lv st M Q else jx_Ev d 1 15 lv st M Q)) ∧
  (∀ (d : Nat) (st : List Value) (M : jx_M) (Q : jx_Po) (l1 l2 l3 l4 l5 : Option Value) (x : Nat), jx_Ev d 1 15 [some (.ref x), l1, l2, l3, l4, l5] st M Q ↔ jx_Ev d 1 16 [some (.ref x), l1, l2, l3, l4, l5] (.ref x :: st) M Q) ∧
  (∀ (d : Nat) (st : List Value) (M : jx_M) (Q : jx_Po) (l0 l1 l3 l4 l5 : Option Value) (x : Int32), jx_Ev d 1 16 [l0, l1, some (.int x), l3, l4, l5] st M Q ↔ jx_Ev d 1 17 [l0, l1, some (.int x), l3, l4, l5] (.int x :: st) M Q) ∧
  (∀ (d : Nat) (lv : List (Option Value)) (M : jx_M) (Q : jx_Po) (a0 : Int32), jx_Ev (d + 1) 1 17 lv [.int a0, .ref 9] M Q ↔ jx_V d 3 [.ref 9, .int a0] M (fun M => jx_Ev (d + 1) 1 20 lv [] M Q)) ∧
  (∀ (d : Nat) (lv : List (Option Value)) (M : jx_M) (Q : jx_Po), jx_Ev d 1 20 lv [] M Q ↔ Q [] M) ∧
  (∀ (d : Nat) (st : List Value) (M : jx_M) (Q : jx_Po) (l1 l2 l3 l4 l5 : Option Value) (x : Nat), jx_Ev d 1 21 [some (.ref x), l1, l2, l3, l4, l5] st M Q ↔ jx_Ev d 1 22 [some (.ref x), l1, l2, l3, l4, l5] (.ref x :: st) M Q) ∧
  (∀ (d : Nat) (lv : List (Option Value)) (st : List Value) (M : jx_M) (Q : jx_Po), jx_Ev d 1 22 lv (.ref 9 :: st) M Q ↔ jx_Ev d 1 25 lv (jx_rv (M 9 4) :: st) M Q) ∧
  (∀ (d : Nat) (lv : List (Option Value)) (st : List Value) (M : jx_M) (Q : jx_Po) (k : Nat), jx_Ev d 1 25 lv (.ref k :: st) M Q ↔ jx_Ev d 1 28 lv st M Q) ∧
  (∀ (d : Nat) (lv : List (Option Value)) (st : List Value) (M : jx_M) (Q : jx_Po), jx_Ev d 1 25 lv (.null :: st) M Q ↔ jx_Ev d 1 43 lv st M Q) ∧
  (∀ (d : Nat) (st : List Value) (M : jx_M) (Q : jx_Po) (l1 l2 l3 l4 l5 : Option Value) (x : Nat), jx_Ev d 1 28 [some (.ref x), l1, l2, l3, l4, l5] st M Q ↔ jx_Ev d 1 29 [some (.ref x), l1, l2, l3, l4, l5] (.ref x :: st) M Q) ∧
  (∀ (d : Nat) (lv : List (Option Value)) (st : List Value) (M : jx_M) (Q : jx_Po), jx_Ev d 1 29 lv (.ref 9 :: st) M Q ↔ jx_Ev d 1 32 lv (jx_rv (M 9 4) :: st) M Q) ∧
  (∀ (d : Nat) (st : List Value) (M : jx_M) (Q : jx_Po) (l0 l2 l3 l4 l5 : Option Value) (x : Int32), jx_Ev d 1 32 [l0, some (.int x), l2, l3, l4, l5] st M Q ↔ jx_Ev d 1 33 [l0, some (.int x), l2, l3, l4, l5] (.int x :: st) M Q) ∧
  (∀ (d : Nat) (st : List Value) (M : jx_M) (Q : jx_Po) (l1 l2 l3 l4 l5 : Option Value) (x : Nat), jx_Ev d 1 33 [some (.ref x), l1, l2, l3, l4, l5] st M Q ↔ jx_Ev d 1 34 [some (.ref x), l1, l2, l3, l4, l5] (.ref x :: st) M Q) ∧
  (∀ (d : Nat) (lv : List (Option Value)) (st : List Value) (M : jx_M) (Q : jx_Po), jx_Ev d 1 34 lv (.ref 9 :: st) M Q ↔ jx_Ev d 1 37 lv (.int (M 9 5) :: st) M Q) ∧
  (∀ (d : Nat) (lv : List (Option Value)) (M : jx_M) (Q : jx_Po) (a0 : Int32) (a1 : Int32) (a2 : Nat) (hk : jx_cl a2 = 1), jx_Ev (d + 1) 1 37 lv [.int a0, .int a1, .ref a2] M Q ↔ jx_I d 7 [.ref a2, .int a1, .int a0] M (fun x M => jx_Ev (d + 1) 1 40 lv (.int x :: []) M Q)) ∧
  (∀ (d : Nat) (lv : List (Option Value)) (st : List Value) (M : jx_M) (Q : jx_Po) (x : Int32), jx_Ev d 1 40 lv (.int x :: st) M Q ↔ (if x = 0 then jx_Ev d 1 43 lv st M Q else jx_Ev d 1 52 lv st M Q)) ∧
  (∀ (d : Nat) (st : List Value) (M : jx_M) (Q : jx_Po) (l1 l2 l3 l4 l5 : Option Value) (x : Nat), jx_Ev d 1 43 [some (.ref x), l1, l2, l3, l4, l5] st M Q ↔ jx_Ev d 1 44 [some (.ref x), l1, l2, l3, l4, l5] (.ref x :: st) M Q) ∧
  (∀ (d : Nat) (st : List Value) (M : jx_M) (Q : jx_Po) (l0 l2 l3 l4 l5 : Option Value) (x : Int32), jx_Ev d 1 44 [l0, some (.int x), l2, l3, l4, l5] st M Q ↔ jx_Ev d 1 45 [l0, some (.int x), l2, l3, l4, l5] (.int x :: st) M Q) ∧
  (∀ (d : Nat) (lv : List (Option Value)) (st : List Value) (M : jx_M) (Q : jx_Po), jx_Ev d 1 45 lv st M Q ↔ jx_Ev d 1 46 lv (.int 1 :: st) M Q) ∧
  (∀ (d : Nat) (lv : List (Option Value)) (st : List Value) (M : jx_M) (Q : jx_Po) (x z : Int32), jx_Ev d 1 46 lv (.int z :: .int x :: st) M Q ↔ jx_Ev d 1 47 lv (.int (x + z) :: st) M Q) ∧
  (∀ (d : Nat) (st : List Value) (M : jx_M) (Q : jx_Po) (l0 l1 l3 l4 l5 : Option Value) (x : Int32), jx_Ev d 1 47 [l0, l1, some (.int x), l3, l4, l5] st M Q ↔ jx_Ev d 1 48 [l0, l1, some (.int x), l3, l4, l5] (.int x :: st) M Q) ∧
  (∀ (d : Nat) (lv : List (Option Value)) (M : jx_M) (Q : jx_Po) (a0 : Int32) (a1 : Int32) (a2 : Nat), jx_Ev (d + 1) 1 48 lv [.int a0, .int a1, .ref a2] M Q ↔ jx_V d 1 [.ref a2, .int a1, .int a0] M (fun M => jx_Ev (d + 1) 1 51 lv [] M Q)) ∧
  (∀ (d : Nat) (lv : List (Option Value)) (M : jx_M) (Q : jx_Po), jx_Ev d 1 51 lv [] M Q ↔ Q [] M) ∧
  (∀ (d : Nat) (lv : List (Option Value)) (st : List Value) (M : jx_M) (Q : jx_Po), jx_Ev d 1 52 lv st M Q ↔ jx_Ev d 1 53 lv (.int 0 :: st) M Q) ∧
  (∀ (d : Nat) (st : List Value) (M : jx_M) (Q : jx_Po) (l0 l1 l2 l3 l4 l5 : Option Value) (x : Int32), jx_Ev d 1 53 [l0, l1, l2, l3, l4, l5] (.int x :: st) M Q ↔ jx_Ev d 1 54 [l0, l1, l2, some (.int x), l4, l5] st M Q) ∧
  (∀ (d : Nat) (lv : List (Option Value)) (st : List Value) (M : jx_M) (Q : jx_Po), jx_Ev d 1 55 lv st M Q ↔ jx_Ev d 1 56 lv (.int 4 :: st) M Q) ∧
  (∀ (d : Nat) (lv : List (Option Value)) (st : List Value) (M : jx_M) (Q : jx_Po) (x z : Int32), jx_Ev d 1 56 lv (.int z :: .int x :: st) M Q ↔ (if z ≤ x then jx_Ev d 1 129 lv st M Q else jx_Ev d 1 59 lv st M Q)) ∧
  (∀ (d : Nat) (st : List Value) (M : jx_M) (Q : jx_Po) (l1 l2 l3 l4 l5 : Option Value) (x : Nat), jx_Ev d 1 59 [some (.ref x), l1, l2, l3, l4, l5] st M Q ↔ jx_Ev d 1 60 [some (.ref x), l1, l2, l3, l4, l5] (.ref x :: st) M Q) ∧
  (∀ (d : Nat) (lv : List (Option Value)) (st : List Value) (M : jx_M) (Q : jx_Po), jx_Ev d 1 60 lv (.ref 9 :: st) M Q ↔ jx_Ev d 1 63 lv (jx_rv (M 9 4) :: st) M Q) ∧
  (∀ (d : Nat) (st : List Value) (M : jx_M) (Q : jx_Po) (l0 l2 l3 l4 l5 : Option Value) (x : Int32), jx_Ev d 1 63 [l0, some (.int x), l2, l3, l4, l5] st M Q ↔ jx_Ev d 1 64 [l0, some (.int x), l2, l3, l4, l5] (.int x :: st) M Q) ∧
  (∀ (d : Nat) (st : List Value) (M : jx_M) (Q : jx_Po) (l0 l1 l2 l4 l5 : Option Value) (x : Int32), jx_Ev d 1 64 [l0, l1, l2, some (.int x), l4, l5] st M Q ↔ jx_Ev d 1 65 [l0, l1, l2, some (.int x), l4, l5] (.int x :: st) M Q) ∧
  (∀ (d : Nat) (lv : List (Option Value)) (M : jx_M) (Q : jx_Po) (a0 : Int32) (a1 : Int32) (a2 : Nat) (hk : jx_cl a2 = 1), jx_Ev (d + 1) 1 65 lv [.int a0, .int a1, .ref a2] M Q ↔ jx_I d 10 [.ref a2, .int a1, .int a0] M (fun x M => jx_Ev (d + 1) 1 68 lv (.int x :: []) M Q)) ∧
  (∀ (d : Nat) (st : List Value) (M : jx_M) (Q : jx_Po) (l0 l1 l2 l3 l4 l5 : Option Value) (x : Int32), jx_Ev d 1 68 [l0, l1, l2, l3, l4, l5] (.int x :: st) M Q ↔ jx_Ev d 1 70 [l0, l1, l2, l3, some (.int x), l5] st M Q) ∧
  (∀ (d : Nat) (st : List Value) (M : jx_M) (Q : jx_Po) (l1 l2 l3 l4 l5 : Option Value) (x : Nat), jx_Ev d 1 70 [some (.ref x), l1, l2, l3, l4, l5] st M Q ↔ jx_Ev d 1 71 [some (.ref x), l1, l2, l3, l4, l5] (.ref x :: st) M Q) ∧
  (∀ (d : Nat) (st : List Value) (M : jx_M) (Q : jx_Po) (l0 l1 l2 l4 l5 : Option Value) (x : Int32), jx_Ev d 1 71 [l0, l1, l2, some (.int x), l4, l5] st M Q ↔ jx_Ev d 1 72 [l0, l1, l2, some (.int x), l4, l5] (.int x :: st) M Q) ∧
  (∀ (d : Nat) (lv : List (Option Value)) (M : jx_M) (Q : jx_Po) (a0 : Int32), jx_Ev (d + 1) 1 72 lv [.int a0, .ref 9] M Q ↔ jx_I d 2 [.ref 9, .int a0] M (fun x M => jx_Ev (d + 1) 1 75 lv (.int x :: []) M Q)) ∧
  (∀ (d : Nat) (st : List Value) (M : jx_M) (Q : jx_Po) (l0 l1 l2 l3 l4 l5 : Option Value) (x : Int32), jx_Ev d 1 75 [l0, l1, l2, l3, l4, l5] (.int x :: st) M Q ↔ jx_Ev d 1 77 [l0, l1, l2, l3, l4, some (.int x)] st M Q) ∧
  (∀ (d : Nat) (st : List Value) (M : jx_M) (Q : jx_Po) (l1 l2 l3 l4 l5 : Option Value) (x : Nat), jx_Ev d 1 77 [some (.ref x), l1, l2, l3, l4, l5] st M Q ↔ jx_Ev d 1 78 [some (.ref x), l1, l2, l3, l4, l5] (.ref x :: st) M Q) ∧
  (∀ (d : Nat) (lv : List (Option Value)) (st : List Value) (M : jx_M) (Q : jx_Po), jx_Ev d 1 78 lv (.ref 9 :: st) M Q ↔ jx_Ev d 1 81 lv (.ref 11 :: st) M Q) ∧
  (∀ (d : Nat) (st : List Value) (M : jx_M) (Q : jx_Po) (l0 l2 l3 l4 l5 : Option Value) (x : Int32), jx_Ev d 1 81 [l0, some (.int x), l2, l3, l4, l5] st M Q ↔ jx_Ev d 1 82 [l0, some (.int x), l2, l3, l4, l5] (.int x :: st) M Q) ∧
  (∀ (d : Nat) (st : List Value) (M : jx_M) (Q : jx_Po) (l0 l1 l2 l4 l5 : Option Value) (x : Int32), jx_Ev d 1 82 [l0, l1, l2, some (.int x), l4, l5] st M Q ↔ jx_Ev d 1 83 [l0, l1, l2, some (.int x), l4, l5] (.int x :: st) M Q) ∧
  (∀ (d : Nat) (lv : List (Option Value)) (st : List Value) (M : jx_M) (Q : jx_Po) (x z : Int32) (a : Nat) (ha : jx_cl a = 9), jx_Ev d 1 83 lv (.int z :: .int x :: .ref a :: st) M Q ↔ (vp_in x (jx_sz a) ∧ jx_Ev d 1 84 lv st (jx_up M a x.toNatClampNeg z) Q)) ∧
  (∀ (d : Nat) (st : List Value) (M : jx_M) (Q : jx_Po) (l1 l2 l3 l4 l5 : Option Value) (x : Nat), jx_Ev d 1 84 [some (.ref x), l1, l2, l3, l4, l5] st M Q ↔ jx_Ev d 1 85 [some (.ref x), l1, l2, l3, l4, l5] (.ref x :: st) M Q) ∧
  (∀ (d : Nat) (lv : List (Option Value)) (st : List Value) (M : jx_M) (Q : jx_Po), jx_Ev d 1 85 lv (.ref 9 :: st) M Q ↔ jx_Ev d 1 88 lv (.ref 12 :: st) M Q) ∧
  (∀ (d : Nat) (st : List Value) (M : jx_M) (Q : jx_Po) (l0 l1 l2 l4 l5 : Option Value) (x : Int32), jx_Ev d 1 88 [l0, l1, l2, some (.int x), l4, l5] st M Q ↔ jx_Ev d 1 89 [l0, l1, l2, some (.int x), l4, l5] (.int x :: st) M Q) ∧
  (∀ (d : Nat) (lv : List (Option Value)) (st : List Value) (M : jx_M) (Q : jx_Po) (x : Int32) (z : Nat), jx_Ev d 1 89 lv (.int x :: .ref z :: st) M Q ↔ jx_Ev d 1 90 lv (.int x :: .ref z :: .int x :: .ref z :: st) M Q) ∧
  (∀ (d : Nat) (lv : List (Option Value)) (st : List Value) (M : jx_M) (Q : jx_Po) (x : Int32) (a : Nat) (ha : jx_cl a = 9), jx_Ev d 1 90 lv (.int x :: .ref a :: st) M Q ↔ (vp_in x (jx_sz a) ∧ jx_Ev d 1 91 lv (.int (M a x.toNatClampNeg) :: st) M Q)) ∧
  (∀ (d : Nat) (st : List Value) (M : jx_M) (Q : jx_Po) (l0 l1 l2 l3 l5 : Option Value) (x : Int32), jx_Ev d 1 91 [l0, l1, l2, l3, some (.int x), l5] st M Q ↔ jx_Ev d 1 93 [l0, l1, l2, l3, some (.int x), l5] (.int x :: st) M Q) ∧
  (∀ (d : Nat) (lv : List (Option Value)) (st : List Value) (M : jx_M) (Q : jx_Po) (x z : Int32), jx_Ev d 1 93 lv (.int z :: .int x :: st) M Q ↔ jx_Ev d 1 94 lv (.int (x + z) :: st) M Q) ∧
  (∀ (d : Nat) (lv : List (Option Value)) (st : List Value) (M : jx_M) (Q : jx_Po) (x z : Int32) (a : Nat) (ha : jx_cl a = 9), jx_Ev d 1 94 lv (.int z :: .int x :: .ref a :: st) M Q ↔ (vp_in x (jx_sz a) ∧ jx_Ev d 1 95 lv st (jx_up M a x.toNatClampNeg z) Q)) ∧
  (∀ (d : Nat) (st : List Value) (M : jx_M) (Q : jx_Po) (l1 l2 l3 l4 l5 : Option Value) (x : Nat), jx_Ev d 1 95 [some (.ref x), l1, l2, l3, l4, l5] st M Q ↔ jx_Ev d 1 96 [some (.ref x), l1, l2, l3, l4, l5] (.ref x :: st) M Q) ∧
  (∀ (d : Nat) (st : List Value) (M : jx_M) (Q : jx_Po) (l0 l2 l3 l4 l5 : Option Value) (x : Int32), jx_Ev d 1 96 [l0, some (.int x), l2, l3, l4, l5] st M Q ↔ jx_Ev d 1 97 [l0, some (.int x), l2, l3, l4, l5] (.int x :: st) M Q) ∧
  (∀ (d : Nat) (lv : List (Option Value)) (st : List Value) (M : jx_M) (Q : jx_Po), jx_Ev d 1 97 lv st M Q ↔ jx_Ev d 1 98 lv (.int 1 :: st) M Q) ∧
  (∀ (d : Nat) (lv : List (Option Value)) (st : List Value) (M : jx_M) (Q : jx_Po) (x z : Int32), jx_Ev d 1 98 lv (.int z :: .int x :: st) M Q ↔ jx_Ev d 1 99 lv (.int (x + z) :: st) M Q) ∧
  (∀ (d : Nat) (st : List Value) (M : jx_M) (Q : jx_Po) (l0 l1 l3 l4 l5 : Option Value) (x : Int32), jx_Ev d 1 99 [l0, l1, some (.int x), l3, l4, l5] st M Q ↔ jx_Ev d 1 100 [l0, l1, some (.int x), l3, l4, l5] (.int x :: st) M Q) ∧
  (∀ (d : Nat) (st : List Value) (M : jx_M) (Q : jx_Po) (l1 l2 l3 l4 l5 : Option Value) (x : Nat), jx_Ev d 1 100 [some (.ref x), l1, l2, l3, l4, l5] st M Q ↔ jx_Ev d 1 101 [some (.ref x), l1, l2, l3, l4, l5] (.ref x :: st) M Q) ∧
  (∀ (d : Nat) (st : List Value) (M : jx_M) (Q : jx_Po) (l0 l1 l2 l4 l5 : Option Value) (x : Int32), jx_Ev d 1 101 [l0, l1, l2, some (.int x), l4, l5] st M Q ↔ jx_Ev d 1 102 [l0, l1, l2, some (.int x), l4, l5] (.int x :: st) M Q) ∧
  (∀ (d : Nat) (lv : List (Option Value)) (M : jx_M) (Q : jx_Po) (a0 : Int32) (a2 : Int32) (a3 : Int32) (a4 : Nat), jx_Ev (d + 1) 1 102 lv [.int a0, .ref 9, .int a2, .int a3, .ref a4] M Q ↔ jx_I d 2 [.ref 9, .int a0] M (fun x M => jx_Ev (d + 1) 1 105 lv (.int x :: [.int a2, .int a3, .ref a4]) M Q)) ∧
  (∀ (d : Nat) (lv : List (Option Value)) (st : List Value) (M : jx_M) (Q : jx_Po) (x z : Int32), jx_Ev d 1 105 lv (.int z :: .int x :: st) M Q ↔ jx_Ev d 1 106 lv (.int (x + z) :: st) M Q) ∧
  (∀ (d : Nat) (st : List Value) (M : jx_M) (Q : jx_Po) (l0 l1 l2 l3 l4 : Option Value) (x : Int32), jx_Ev d 1 106 [l0, l1, l2, l3, l4, some (.int x)] st M Q ↔ jx_Ev d 1 108 [l0, l1, l2, l3, l4, some (.int x)] (.int x :: st) M Q) ∧
  (∀ (d : Nat) (lv : List (Option Value)) (st : List Value) (M : jx_M) (Q : jx_Po) (x z : Int32), jx_Ev d 1 108 lv (.int z :: .int x :: st) M Q ↔ jx_Ev d 1 109 lv (.int (x - z) :: st) M Q) ∧
  (∀ (d : Nat) (lv : List (Option Value)) (M : jx_M) (Q : jx_Po) (a0 : Int32) (a1 : Int32) (a2 : Nat), jx_Ev (d + 1) 1 109 lv [.int a0, .int a1, .ref a2] M Q ↔ jx_V d 1 [.ref a2, .int a1, .int a0] M (fun M => jx_Ev (d + 1) 1 112 lv [] M Q)) ∧
  (∀ (d : Nat) (st : List Value) (M : jx_M) (Q : jx_Po) (l1 l2 l3 l4 l5 : Option Value) (x : Nat), jx_Ev d 1 112 [some (.ref x), l1, l2, l3, l4, l5] st M Q ↔ jx_Ev d 1 113 [some (.ref x), l1, l2, l3, l4, l5] (.ref x :: st) M Q) ∧
  (∀ (d : Nat) (lv : List (Option Value)) (st : List Value) (M : jx_M) (Q : jx_Po), jx_Ev d 1 113 lv (.ref 9 :: st) M Q ↔ jx_Ev d 1 116 lv (.ref 12 :: st) M Q) ∧
  (∀ (d : Nat) (st : List Value) (M : jx_M) (Q : jx_Po) (l0 l1 l2 l4 l5 : Option Value) (x : Int32), jx_Ev d 1 116 [l0, l1, l2, some (.int x), l4, l5] st M Q ↔ jx_Ev d 1 117 [l0, l1, l2, some (.int x), l4, l5] (.int x :: st) M Q) ∧
  (∀ (d : Nat) (lv : List (Option Value)) (st : List Value) (M : jx_M) (Q : jx_Po) (x : Int32) (z : Nat), jx_Ev d 1 117 lv (.int x :: .ref z :: st) M Q ↔ jx_Ev d 1 118 lv (.int x :: .ref z :: .int x :: .ref z :: st) M Q) ∧
  (∀ (d : Nat) (lv : List (Option Value)) (st : List Value) (M : jx_M) (Q : jx_Po) (x : Int32) (a : Nat) (ha : jx_cl a = 9), jx_Ev d 1 118 lv (.int x :: .ref a :: st) M Q ↔ (vp_in x (jx_sz a) ∧ jx_Ev d 1 119 lv (.int (M a x.toNatClampNeg) :: st) M Q)) ∧
  (∀ (d : Nat) (st : List Value) (M : jx_M) (Q : jx_Po) (l0 l1 l2 l3 l5 : Option Value) (x : Int32), jx_Ev d 1 119 [l0, l1, l2, l3, some (.int x), l5] st M Q ↔ jx_Ev d 1 121 [l0, l1, l2, l3, some (.int x), l5] (.int x :: st) M Q) ∧
  (∀ (d : Nat) (lv : List (Option Value)) (st : List Value) (M : jx_M) (Q : jx_Po) (x z : Int32), jx_Ev d 1 121 lv (.int z :: .int x :: st) M Q ↔ jx_Ev d 1 122 lv (.int (x - z) :: st) M Q) ∧
  (∀ (d : Nat) (lv : List (Option Value)) (st : List Value) (M : jx_M) (Q : jx_Po) (x z : Int32) (a : Nat) (ha : jx_cl a = 9), jx_Ev d 1 122 lv (.int z :: .int x :: .ref a :: st) M Q ↔ (vp_in x (jx_sz a) ∧ jx_Ev d 1 123 lv st (jx_up M a x.toNatClampNeg z) Q)) ∧
  (∀ (d : Nat) (st : List Value) (M : jx_M) (Q : jx_Po) (l0 l1 l2 l4 l5 : Option Value) (x : Int32), jx_Ev d 1 123 [l0, l1, l2, some (.int x), l4, l5] st M Q ↔ jx_Ev d 1 126 [l0, l1, l2, some (.int (x + 1)), l4, l5] st M Q) ∧
  (∀ (d : Nat) (lv : List (Option Value)) (st : List Value) (M : jx_M) (Q : jx_Po), jx_Ev d 1 126 lv st M Q ↔ jx_Ev d 1 54 lv st M Q) ∧
  (∀ (d : Nat) (lv : List (Option Value)) (M : jx_M) (Q : jx_Po), jx_Ev d 1 129 lv [] M Q ↔ Q [] M) := by
  refine ⟨?_, ?_, ?_, ?_, ?_, ?_, ?_, ?_, ?_, ?_, ?_, ?_, ?_, ?_, ?_, ?_, ?_, ?_, ?_, ?_, ?_, ?_, ?_, ?_, ?_, ?_, ?_, ?_, ?_, ?_, ?_, ?_, ?_, ?_, ?_, ?_, ?_, ?_, ?_, ?_, ?_, ?_, ?_, ?_, ?_, ?_, ?_, ?_, ?_, ?_, ?_, ?_, ?_, ?_, ?_, ?_, ?_, ?_, ?_, ?_, ?_, ?_, ?_, ?_, ?_, ?_, ?_, ?_, ?_, ?_, ?_, ?_, ?_, ?_, ?_, ?_, ?_, ?_, ?_, ?_⟩
  · exact fun d st M Q l0 l1 l3 l4 l5 x => jx_ev_st (jx_fok (by decide +kernel : decode (jx_mb 1) 0 = .ok (.iload_n 2, 1))) rfl rfl rfl
  · exact fun d st M Q l1 l2 l3 l4 l5 x => jx_ev_st (jx_fok (by decide +kernel : decode (jx_mb 1) 1 = .ok (.aload_n 0, 1))) rfl rfl rfl
  · exact fun d lv st M Q => jx_k_gf (jx_fok (by decide +kernel : decode (jx_mb 1) 2 = .ok (.getfield 15, 3))) rfl rfl rfl
  · exact fun d lv st M Q x z => jx_k_b2 (jx_fok (by decide +kernel : decode (jx_mb 1) 5 = .ok (.if_icmp .lt 4, 3))) rfl jx_hLt
  · exact fun d lv M Q => jx_k_rv (jx_fok (by decide +kernel : decode (jx_mb 1) 8 = .ok (.return_, 1))) rfl
  · exact fun d st M Q l0 l2 l3 l4 l5 x => jx_ev_st (jx_fok (by decide +kernel : decode (jx_mb 1) 9 = .ok (.iload_n 1, 1))) rfl rfl rfl
  · exact fun d lv st M Q => jx_ev_st (jx_fok (by decide +kernel : decode (jx_mb 1) 10 = .ok (.bipush 6, 2))) rfl rfl rfl
  · exact fun d lv st M Q x z => jx_k_b2 (jx_fok (by decide +kernel : decode (jx_mb 1) 12 = .ok (.if_icmp .lt 9, 3))) rfl jx_hLt
  · exact fun d st M Q l1 l2 l3 l4 l5 x => jx_ev_st (jx_fok (by decide +kernel : decode (jx_mb 1) 15 = .ok (.aload_n 0, 1))) rfl rfl rfl
  · exact fun d st M Q l0 l1 l3 l4 l5 x => jx_ev_st (jx_fok (by decide +kernel : decode (jx_mb 1) 16 = .ok (.iload_n 2, 1))) rfl rfl rfl
  · exact fun d lv M Q a0 => jx_ev_cv (jx_fok (by decide +kernel : decode (jx_mb 1) 17 = .ok (.invokevirtual 39, 3))) rfl (jx_ccV (As := [.int a0]) (rest := []) rfl rfl rfl rfl rfl rfl) rfl
  · exact fun d lv M Q => jx_k_rv (jx_fok (by decide +kernel : decode (jx_mb 1) 20 = .ok (.return_, 1))) rfl
  · exact fun d st M Q l1 l2 l3 l4 l5 x => jx_ev_st (jx_fok (by decide +kernel : decode (jx_mb 1) 21 = .ok (.aload_n 0, 1))) rfl rfl rfl
  · exact fun d lv st M Q => jx_k_gf (jx_fok (by decide +kernel : decode (jx_mb 1) 22 = .ok (.getfield 25, 3))) rfl rfl rfl
  · exact fun d lv st M Q k => jx_k_nr (jx_fok (by decide +kernel : decode (jx_mb 1) 25 = .ok (.ifnull 18, 3)))
  · exact fun d lv st M Q => jx_k_nn (jx_fok (by decide +kernel : decode (jx_mb 1) 25 = .ok (.ifnull 18, 3))) rfl
  · exact fun d st M Q l1 l2 l3 l4 l5 x => jx_ev_st (jx_fok (by decide +kernel : decode (jx_mb 1) 28 = .ok (.aload_n 0, 1))) rfl rfl rfl
  · exact fun d lv st M Q => jx_k_gf (jx_fok (by decide +kernel : decode (jx_mb 1) 29 = .ok (.getfield 25, 3))) rfl rfl rfl
  · exact fun d st M Q l0 l2 l3 l4 l5 x => jx_ev_st (jx_fok (by decide +kernel : decode (jx_mb 1) 32 = .ok (.iload_n 1, 1))) rfl rfl rfl
  · exact fun d st M Q l1 l2 l3 l4 l5 x => jx_ev_st (jx_fok (by decide +kernel : decode (jx_mb 1) 33 = .ok (.aload_n 0, 1))) rfl rfl rfl
  · exact fun d lv st M Q => jx_k_gf (jx_fok (by decide +kernel : decode (jx_mb 1) 34 = .ok (.getfield 29, 3))) rfl rfl rfl
  · exact fun d lv M Q a0 a1 a2 hk => jx_ev_ci (jx_fok (by decide +kernel : decode (jx_mb 1) 37 = .ok (.invokevirtual 43, 3))) rfl (jx_ccV (As := [.int a1, .int a0]) (rest := []) rfl rfl rfl hk rfl rfl) (by decide)
  · exact fun d lv st M Q x => jx_k_b1n (jx_fok (by decide +kernel : decode (jx_mb 1) 40 = .ok (.ifCond .ne 12, 3))) rfl jx_hNe
  · exact fun d st M Q l1 l2 l3 l4 l5 x => jx_ev_st (jx_fok (by decide +kernel : decode (jx_mb 1) 43 = .ok (.aload_n 0, 1))) rfl rfl rfl
  · exact fun d st M Q l0 l2 l3 l4 l5 x => jx_ev_st (jx_fok (by decide +kernel : decode (jx_mb 1) 44 = .ok (.iload_n 1, 1))) rfl rfl rfl
  · exact fun d lv st M Q => jx_ev_st (jx_fok (by decide +kernel : decode (jx_mb 1) 45 = .ok (.iconst 1, 1))) rfl rfl rfl
  · exact fun d lv st M Q x z => jx_ev_st (jx_fok (by decide +kernel : decode (jx_mb 1) 46 = .ok (.iadd, 1))) rfl rfl rfl
  · exact fun d st M Q l0 l1 l3 l4 l5 x => jx_ev_st (jx_fok (by decide +kernel : decode (jx_mb 1) 47 = .ok (.iload_n 2, 1))) rfl rfl rfl
  · exact fun d lv M Q a0 a1 a2 => jx_ev_cv (jx_fok (by decide +kernel : decode (jx_mb 1) 48 = .ok (.invokestatic 35, 3))) rfl (jx_ccS (As := [.ref a2, .int a1, .int a0]) (rest := []) rfl rfl rfl rfl rfl) rfl
  · exact fun d lv M Q => jx_k_rv (jx_fok (by decide +kernel : decode (jx_mb 1) 51 = .ok (.return_, 1))) rfl
  · exact fun d lv st M Q => jx_ev_st (jx_fok (by decide +kernel : decode (jx_mb 1) 52 = .ok (.iconst 0, 1))) rfl rfl rfl
  · exact fun d st M Q l0 l1 l2 l3 l4 l5 x => jx_ev_st (jx_fok (by decide +kernel : decode (jx_mb 1) 53 = .ok (.istore_n 3, 1))) rfl rfl rfl
  · exact fun d lv st M Q => jx_ev_st (jx_fok (by decide +kernel : decode (jx_mb 1) 55 = .ok (.iconst 4, 1))) rfl rfl rfl
  · exact fun d lv st M Q x z => jx_k_b2 (jx_fok (by decide +kernel : decode (jx_mb 1) 56 = .ok (.if_icmp .ge 73, 3))) rfl jx_hGe
  · exact fun d st M Q l1 l2 l3 l4 l5 x => jx_ev_st (jx_fok (by decide +kernel : decode (jx_mb 1) 59 = .ok (.aload_n 0, 1))) rfl rfl rfl
  · exact fun d lv st M Q => jx_k_gf (jx_fok (by decide +kernel : decode (jx_mb 1) 60 = .ok (.getfield 25, 3))) rfl rfl rfl
  · exact fun d st M Q l0 l2 l3 l4 l5 x => jx_ev_st (jx_fok (by decide +kernel : decode (jx_mb 1) 63 = .ok (.iload_n 1, 1))) rfl rfl rfl
  · exact fun d st M Q l0 l1 l2 l4 l5 x => jx_ev_st (jx_fok (by decide +kernel : decode (jx_mb 1) 64 = .ok (.iload_n 3, 1))) rfl rfl rfl
  · exact fun d lv M Q a0 a1 a2 hk => jx_ev_ci (jx_fok (by decide +kernel : decode (jx_mb 1) 65 = .ok (.invokevirtual 49, 3))) rfl (jx_ccV (As := [.int a1, .int a0]) (rest := []) rfl rfl rfl hk rfl rfl) (by decide)
  · exact fun d st M Q l0 l1 l2 l3 l4 l5 x => jx_ev_st (jx_fok (by decide +kernel : decode (jx_mb 1) 68 = .ok (.istore 4, 2))) rfl rfl rfl
  · exact fun d st M Q l1 l2 l3 l4 l5 x => jx_ev_st (jx_fok (by decide +kernel : decode (jx_mb 1) 70 = .ok (.aload_n 0, 1))) rfl rfl rfl
  · exact fun d st M Q l0 l1 l2 l4 l5 x => jx_ev_st (jx_fok (by decide +kernel : decode (jx_mb 1) 71 = .ok (.iload_n 3, 1))) rfl rfl rfl
  · exact fun d lv M Q a0 => jx_ev_ci (jx_fok (by decide +kernel : decode (jx_mb 1) 72 = .ok (.invokevirtual 53, 3))) rfl (jx_ccV (As := [.int a0]) (rest := []) rfl rfl rfl rfl rfl rfl) (by decide)
  · exact fun d st M Q l0 l1 l2 l3 l4 l5 x => jx_ev_st (jx_fok (by decide +kernel : decode (jx_mb 1) 75 = .ok (.istore 5, 2))) rfl rfl rfl
  · exact fun d st M Q l1 l2 l3 l4 l5 x => jx_ev_st (jx_fok (by decide +kernel : decode (jx_mb 1) 77 = .ok (.aload_n 0, 1))) rfl rfl rfl
  · exact fun d lv st M Q => jx_k_gf (jx_fok (by decide +kernel : decode (jx_mb 1) 78 = .ok (.getfield 19, 3))) rfl rfl rfl
  · exact fun d st M Q l0 l2 l3 l4 l5 x => jx_ev_st (jx_fok (by decide +kernel : decode (jx_mb 1) 81 = .ok (.iload_n 1, 1))) rfl rfl rfl
  · exact fun d st M Q l0 l1 l2 l4 l5 x => jx_ev_st (jx_fok (by decide +kernel : decode (jx_mb 1) 82 = .ok (.iload_n 3, 1))) rfl rfl rfl
  · exact fun d lv st M Q x z a ha => jx_k_as (jx_fok (by decide +kernel : decode (jx_mb 1) 83 = .ok (.iastore, 1))) ha
  · exact fun d st M Q l1 l2 l3 l4 l5 x => jx_ev_st (jx_fok (by decide +kernel : decode (jx_mb 1) 84 = .ok (.aload_n 0, 1))) rfl rfl rfl
  · exact fun d lv st M Q => jx_k_gf (jx_fok (by decide +kernel : decode (jx_mb 1) 85 = .ok (.getfield 22, 3))) rfl rfl rfl
  · exact fun d st M Q l0 l1 l2 l4 l5 x => jx_ev_st (jx_fok (by decide +kernel : decode (jx_mb 1) 88 = .ok (.iload_n 3, 1))) rfl rfl rfl
  · exact fun d lv st M Q x z => jx_ev_st (jx_fok (by decide +kernel : decode (jx_mb 1) 89 = .ok (.dup2, 1))) rfl rfl rfl
  · exact fun d lv st M Q x a ha => jx_k_al (jx_fok (by decide +kernel : decode (jx_mb 1) 90 = .ok (.iaload, 1))) ha
  · exact fun d st M Q l0 l1 l2 l3 l5 x => jx_ev_st (jx_fok (by decide +kernel : decode (jx_mb 1) 91 = .ok (.iload 4, 2))) rfl rfl rfl
  · exact fun d lv st M Q x z => jx_ev_st (jx_fok (by decide +kernel : decode (jx_mb 1) 93 = .ok (.iadd, 1))) rfl rfl rfl
  · exact fun d lv st M Q x z a ha => jx_k_as (jx_fok (by decide +kernel : decode (jx_mb 1) 94 = .ok (.iastore, 1))) ha
  · exact fun d st M Q l1 l2 l3 l4 l5 x => jx_ev_st (jx_fok (by decide +kernel : decode (jx_mb 1) 95 = .ok (.aload_n 0, 1))) rfl rfl rfl
  · exact fun d st M Q l0 l2 l3 l4 l5 x => jx_ev_st (jx_fok (by decide +kernel : decode (jx_mb 1) 96 = .ok (.iload_n 1, 1))) rfl rfl rfl
  · exact fun d lv st M Q => jx_ev_st (jx_fok (by decide +kernel : decode (jx_mb 1) 97 = .ok (.iconst 1, 1))) rfl rfl rfl
  · exact fun d lv st M Q x z => jx_ev_st (jx_fok (by decide +kernel : decode (jx_mb 1) 98 = .ok (.iadd, 1))) rfl rfl rfl
  · exact fun d st M Q l0 l1 l3 l4 l5 x => jx_ev_st (jx_fok (by decide +kernel : decode (jx_mb 1) 99 = .ok (.iload_n 2, 1))) rfl rfl rfl
  · exact fun d st M Q l1 l2 l3 l4 l5 x => jx_ev_st (jx_fok (by decide +kernel : decode (jx_mb 1) 100 = .ok (.aload_n 0, 1))) rfl rfl rfl
  · exact fun d st M Q l0 l1 l2 l4 l5 x => jx_ev_st (jx_fok (by decide +kernel : decode (jx_mb 1) 101 = .ok (.iload_n 3, 1))) rfl rfl rfl
  · exact fun d lv M Q a0 a2 a3 a4 => jx_ev_ci (jx_fok (by decide +kernel : decode (jx_mb 1) 102 = .ok (.invokevirtual 53, 3))) rfl (jx_ccV (As := [.int a0]) (rest := [.int a2, .int a3, .ref a4]) rfl rfl rfl rfl rfl rfl) (by decide)
  · exact fun d lv st M Q x z => jx_ev_st (jx_fok (by decide +kernel : decode (jx_mb 1) 105 = .ok (.iadd, 1))) rfl rfl rfl
  · exact fun d st M Q l0 l1 l2 l3 l4 x => jx_ev_st (jx_fok (by decide +kernel : decode (jx_mb 1) 106 = .ok (.iload 5, 2))) rfl rfl rfl
  · exact fun d lv st M Q x z => jx_ev_st (jx_fok (by decide +kernel : decode (jx_mb 1) 108 = .ok (.isub, 1))) rfl rfl rfl
  · exact fun d lv M Q a0 a1 a2 => jx_ev_cv (jx_fok (by decide +kernel : decode (jx_mb 1) 109 = .ok (.invokestatic 35, 3))) rfl (jx_ccS (As := [.ref a2, .int a1, .int a0]) (rest := []) rfl rfl rfl rfl rfl) rfl
  · exact fun d st M Q l1 l2 l3 l4 l5 x => jx_ev_st (jx_fok (by decide +kernel : decode (jx_mb 1) 112 = .ok (.aload_n 0, 1))) rfl rfl rfl
  · exact fun d lv st M Q => jx_k_gf (jx_fok (by decide +kernel : decode (jx_mb 1) 113 = .ok (.getfield 22, 3))) rfl rfl rfl
  · exact fun d st M Q l0 l1 l2 l4 l5 x => jx_ev_st (jx_fok (by decide +kernel : decode (jx_mb 1) 116 = .ok (.iload_n 3, 1))) rfl rfl rfl
  · exact fun d lv st M Q x z => jx_ev_st (jx_fok (by decide +kernel : decode (jx_mb 1) 117 = .ok (.dup2, 1))) rfl rfl rfl
  · exact fun d lv st M Q x a ha => jx_k_al (jx_fok (by decide +kernel : decode (jx_mb 1) 118 = .ok (.iaload, 1))) ha
  · exact fun d st M Q l0 l1 l2 l3 l5 x => jx_ev_st (jx_fok (by decide +kernel : decode (jx_mb 1) 119 = .ok (.iload 4, 2))) rfl rfl rfl
  · exact fun d lv st M Q x z => jx_ev_st (jx_fok (by decide +kernel : decode (jx_mb 1) 121 = .ok (.isub, 1))) rfl rfl rfl
  · exact fun d lv st M Q x z a ha => jx_k_as (jx_fok (by decide +kernel : decode (jx_mb 1) 122 = .ok (.iastore, 1))) ha
  · exact fun d st M Q l0 l1 l2 l4 l5 x => jx_ev_st (jx_fok (by decide +kernel : decode (jx_mb 1) 123 = .ok (.iinc 3 1, 3))) rfl rfl rfl
  · exact fun d lv st M Q => jx_k_goto (jx_fok (by decide +kernel : decode (jx_mb 1) 126 = .ok (.goto (-72), 3))) rfl
  · exact fun d lv M Q => jx_k_rv (jx_fok (by decide +kernel : decode (jx_mb 1) 129 = .ok (.return_, 1))) rfl
theorem eX0_settleFrom_54 (d : Nat) (st : List Value) (M : jx_M) (Q : jx_Po) (l0 l1 l2 l4 l5 : Option Value) (x : Int32) : jx_Ev d 1 54 [l0, l1, l2, some (.int x), l4, l5] st M Q ↔ jx_Ev d 1 55 [l0, l1, l2, some (.int x), l4, l5] (.int x :: st) M Q := jx_ev_st (jx_fok (by decide +kernel : decode (jx_mb 1) 54 = .ok (.iload_n 3, 1))) rfl rfl rfl
theorem kX0_settleFrom (d : Nat) (M : jx_M) (q : jx_M → Prop) (a0 a1 a2 : Value) : jx_V d 1 [a0, a1, a2] M q ↔ jx_Ev d 1 0 [some a0, some a1, some a2, none, none, none] [] M (jx_qV q) := Iff.rfl
set_option maxRecDepth 100000 in
theorem eX0_harmIn :
  (∀ (d : Nat) (st : List Value) (M : jx_M) (Q : jx_Po) (l1 : Option Value) (x : Nat), jx_Ev d 2 0 [some (.ref x), l1] st M Q ↔ jx_Ev d 2 1 [some (.ref x), l1] (.ref x :: st) M Q) ∧
  (∀ (d : Nat) (lv : List (Option Value)) (st : List Value) (M : jx_M) (Q : jx_Po), jx_Ev d 2 1 lv (.ref 9 :: st) M Q ↔ jx_Ev d 2 4 lv (jx_rv (M 9 4) :: st) M Q) ∧
  (∀ (d : Nat) (lv : List (Option Value)) (st : List Value) (M : jx_M) (Q : jx_Po) (k : Nat), jx_Ev d 2 4 lv (.ref k :: st) M Q ↔ jx_Ev d 2 7 lv st M Q) ∧
  (∀ (d : Nat) (lv : List (Option Value)) (st : List Value) (M : jx_M) (Q : jx_Po), jx_Ev d 2 4 lv (.null :: st) M Q ↔ jx_Ev d 2 21 lv st M Q) ∧
  (∀ (d : Nat) (st : List Value) (M : jx_M) (Q : jx_Po) (l1 : Option Value) (x : Nat), jx_Ev d 2 7 [some (.ref x), l1] st M Q ↔ jx_Ev d 2 8 [some (.ref x), l1] (.ref x :: st) M Q) ∧
  (∀ (d : Nat) (lv : List (Option Value)) (st : List Value) (M : jx_M) (Q : jx_Po), jx_Ev d 2 8 lv (.ref 9 :: st) M Q ↔ jx_Ev d 2 11 lv (jx_rv (M 9 4) :: st) M Q) ∧
  (∀ (d : Nat) (st : List Value) (M : jx_M) (Q : jx_Po) (l1 : Option Value) (x : Nat), jx_Ev d 2 11 [some (.ref x), l1] st M Q ↔ jx_Ev d 2 12 [some (.ref x), l1] (.ref x :: st) M Q) ∧
  (∀ (d : Nat) (lv : List (Option Value)) (st : List Value) (M : jx_M) (Q : jx_Po), jx_Ev d 2 12 lv (.ref 9 :: st) M Q ↔ jx_Ev d 2 15 lv (.int (M 9 5) :: st) M Q) ∧
  (∀ (d : Nat) (lv : List (Option Value)) (M : jx_M) (Q : jx_Po) (a0 : Int32) (a1 : Nat) (hk : jx_cl a1 = 1), jx_Ev (d + 1) 2 15 lv [.int a0, .ref a1] M Q ↔ jx_I d 5 [.ref a1, .int a0] M (fun x M => jx_Ev (d + 1) 2 18 lv (.int x :: []) M Q)) ∧
  (∀ (d : Nat) (lv : List (Option Value)) (st : List Value) (M : jx_M) (Q : jx_Po) (x : Int32), jx_Ev d 2 18 lv (.int x :: st) M Q ↔ (if x = 0 then jx_Ev d 2 21 lv st M Q else jx_Ev d 2 23 lv st M Q)) ∧
  (∀ (d : Nat) (lv : List (Option Value)) (st : List Value) (M : jx_M) (Q : jx_Po), jx_Ev d 2 21 lv st M Q ↔ jx_Ev d 2 22 lv (.int 0 :: st) M Q) ∧
  (∀ (d : Nat) (lv : List (Option Value)) (M : jx_M) (Q : jx_Po) (x : Int32), jx_Ev d 2 22 lv [.int x] M Q ↔ Q [.int x] M) ∧
  (∀ (d : Nat) (lv : List (Option Value)) (st : List Value) (M : jx_M) (Q : jx_Po), jx_Ev d 2 23 lv st M Q ↔ jx_Ev d 2 24 lv (.int 0 :: st) M Q) ∧
  (∀ (d : Nat) (st : List Value) (M : jx_M) (Q : jx_Po) (l1 : Option Value) (x : Nat), jx_Ev d 2 24 [some (.ref x), l1] st M Q ↔ jx_Ev d 2 25 [some (.ref x), l1] (.ref x :: st) M Q) ∧
  (∀ (d : Nat) (lv : List (Option Value)) (st : List Value) (M : jx_M) (Q : jx_Po), jx_Ev d 2 25 lv (.ref 9 :: st) M Q ↔ jx_Ev d 2 28 lv (.ref 12 :: st) M Q) ∧
  (∀ (d : Nat) (st : List Value) (M : jx_M) (Q : jx_Po) (l0 : Option Value) (x : Int32), jx_Ev d 2 28 [l0, some (.int x)] st M Q ↔ jx_Ev d 2 29 [l0, some (.int x)] (.int x :: st) M Q) ∧
  (∀ (d : Nat) (lv : List (Option Value)) (st : List Value) (M : jx_M) (Q : jx_Po) (x : Int32) (a : Nat) (ha : jx_cl a = 9), jx_Ev d 2 29 lv (.int x :: .ref a :: st) M Q ↔ (vp_in x (jx_sz a) ∧ jx_Ev d 2 30 lv (.int (M a x.toNatClampNeg) :: st) M Q)) ∧
  (∀ (d : Nat) (st : List Value) (M : jx_M) (Q : jx_Po) (l1 : Option Value) (x : Nat), jx_Ev d 2 30 [some (.ref x), l1] st M Q ↔ jx_Ev d 2 31 [some (.ref x), l1] (.ref x :: st) M Q) ∧
  (∀ (d : Nat) (lv : List (Option Value)) (st : List Value) (M : jx_M) (Q : jx_Po), jx_Ev d 2 31 lv (.ref 9 :: st) M Q ↔ jx_Ev d 2 34 lv (jx_rv (M 9 4) :: st) M Q) ∧
  (∀ (d : Nat) (lv : List (Option Value)) (st : List Value) (M : jx_M) (Q : jx_Po) (k : Nat) (hk : jx_cl k = 1), jx_Ev d 2 34 lv (.ref k :: st) M Q ↔ jx_Ev d 2 37 lv (.ref (k + 1) :: st) M Q) ∧
  (∀ (d : Nat) (st : List Value) (M : jx_M) (Q : jx_Po) (l1 : Option Value) (x : Nat), jx_Ev d 2 37 [some (.ref x), l1] st M Q ↔ jx_Ev d 2 38 [some (.ref x), l1] (.ref x :: st) M Q) ∧
  (∀ (d : Nat) (lv : List (Option Value)) (st : List Value) (M : jx_M) (Q : jx_Po), jx_Ev d 2 38 lv (.ref 9 :: st) M Q ↔ jx_Ev d 2 41 lv (.int (M 9 5) :: st) M Q) ∧
  (∀ (d : Nat) (lv : List (Option Value)) (st : List Value) (M : jx_M) (Q : jx_Po) (x : Int32) (a : Nat) (ha : jx_cl a = 9), jx_Ev d 2 41 lv (.int x :: .ref a :: st) M Q ↔ (vp_in x (jx_sz a) ∧ jx_Ev d 2 42 lv (.int (M a x.toNatClampNeg) :: st) M Q)) ∧
  (∀ (d : Nat) (lv : List (Option Value)) (st : List Value) (M : jx_M) (Q : jx_Po) (x z : Int32), jx_Ev d 2 42 lv (.int z :: .int x :: st) M Q ↔ jx_Ev d 2 43 lv (.int (x - z) :: st) M Q) ∧
  (∀ (d : Nat) (lv : List (Option Value)) (M : jx_M) (Q : jx_Po) (a0 : Int32) (a1 : Int32), jx_Ev (d + 1) 2 43 lv [.int a0, .int a1] M Q ↔ jx_Ev (d + 1) 2 46 lv (.int (if a1 < a0 then a0 else a1) :: []) M Q) ∧
  (∀ (d : Nat) (lv : List (Option Value)) (M : jx_M) (Q : jx_Po) (x : Int32), jx_Ev d 2 46 lv [.int x] M Q ↔ Q [.int x] M) := by
  refine ⟨?_, ?_, ?_, ?_, ?_, ?_, ?_, ?_, ?_, ?_, ?_, ?_, ?_, ?_, ?_, ?_, ?_, ?_, ?_, ?_, ?_, ?_, ?_, ?_, ?_, ?_⟩
  · exact fun d st M Q l1 x => jx_ev_st (jx_fok (by decide +kernel : decode (jx_mb 2) 0 = .ok (.aload_n 0, 1))) rfl rfl rfl
  · exact fun d lv st M Q => jx_k_gf (jx_fok (by decide +kernel : decode (jx_mb 2) 1 = .ok (.getfield 25, 3))) rfl rfl rfl
  · exact fun d lv st M Q k => jx_k_nr (jx_fok (by decide +kernel : decode (jx_mb 2) 4 = .ok (.ifnull 17, 3)))
  · exact fun d lv st M Q => jx_k_nn (jx_fok (by decide +kernel : decode (jx_mb 2) 4 = .ok (.ifnull 17, 3))) rfl
  · exact fun d st M Q l1 x => jx_ev_st (jx_fok (by decide +kernel : decode (jx_mb 2) 7 = .ok (.aload_n 0, 1))) rfl rfl rfl
  · exact fun d lv st M Q => jx_k_gf (jx_fok (by decide +kernel : decode (jx_mb 2) 8 = .ok (.getfield 25, 3))) rfl rfl rfl
  · exact fun d st M Q l1 x => jx_ev_st (jx_fok (by decide +kernel : decode (jx_mb 2) 11 = .ok (.aload_n 0, 1))) rfl rfl rfl
  · exact fun d lv st M Q => jx_k_gf (jx_fok (by decide +kernel : decode (jx_mb 2) 12 = .ok (.getfield 29, 3))) rfl rfl rfl
  · exact fun d lv M Q a0 a1 hk => jx_ev_ci (jx_fok (by decide +kernel : decode (jx_mb 2) 15 = .ok (.invokevirtual 57, 3))) rfl (jx_ccV (As := [.int a0]) (rest := []) rfl rfl rfl hk rfl rfl) (by decide)
  · exact fun d lv st M Q x => jx_k_b1n (jx_fok (by decide +kernel : decode (jx_mb 2) 18 = .ok (.ifCond .ne 5, 3))) rfl jx_hNe
  · exact fun d lv st M Q => jx_ev_st (jx_fok (by decide +kernel : decode (jx_mb 2) 21 = .ok (.iconst 0, 1))) rfl rfl rfl
  · exact fun d lv M Q x => jx_k_ri (jx_fok (by decide +kernel : decode (jx_mb 2) 22 = .ok (.ireturn, 1))) rfl
  · exact fun d lv st M Q => jx_ev_st (jx_fok (by decide +kernel : decode (jx_mb 2) 23 = .ok (.iconst 0, 1))) rfl rfl rfl
  · exact fun d st M Q l1 x => jx_ev_st (jx_fok (by decide +kernel : decode (jx_mb 2) 24 = .ok (.aload_n 0, 1))) rfl rfl rfl
  · exact fun d lv st M Q => jx_k_gf (jx_fok (by decide +kernel : decode (jx_mb 2) 25 = .ok (.getfield 22, 3))) rfl rfl rfl
  · exact fun d st M Q l0 x => jx_ev_st (jx_fok (by decide +kernel : decode (jx_mb 2) 28 = .ok (.iload_n 1, 1))) rfl rfl rfl
  · exact fun d lv st M Q x a ha => jx_k_al (jx_fok (by decide +kernel : decode (jx_mb 2) 29 = .ok (.iaload, 1))) ha
  · exact fun d st M Q l1 x => jx_ev_st (jx_fok (by decide +kernel : decode (jx_mb 2) 30 = .ok (.aload_n 0, 1))) rfl rfl rfl
  · exact fun d lv st M Q => jx_k_gf (jx_fok (by decide +kernel : decode (jx_mb 2) 31 = .ok (.getfield 25, 3))) rfl rfl rfl
  · exact fun d lv st M Q k hk => jx_k_gf (jx_fok (by decide +kernel : decode (jx_mb 2) 34 = .ok (.getfield 61, 3))) rfl hk rfl
  · exact fun d st M Q l1 x => jx_ev_st (jx_fok (by decide +kernel : decode (jx_mb 2) 37 = .ok (.aload_n 0, 1))) rfl rfl rfl
  · exact fun d lv st M Q => jx_k_gf (jx_fok (by decide +kernel : decode (jx_mb 2) 38 = .ok (.getfield 29, 3))) rfl rfl rfl
  · exact fun d lv st M Q x a ha => jx_k_al (jx_fok (by decide +kernel : decode (jx_mb 2) 41 = .ok (.iaload, 1))) ha
  · exact fun d lv st M Q x z => jx_ev_st (jx_fok (by decide +kernel : decode (jx_mb 2) 42 = .ok (.isub, 1))) rfl rfl rfl
  · exact fun d lv M Q a0 a1 => jx_k_max (jx_fok (by decide +kernel : decode (jx_mb 2) 43 = .ok (.invokestatic 64, 3))) rfl rfl (Nat.le_of_ble_eq_true rfl)
  · exact fun d lv M Q x => jx_k_ri (jx_fok (by decide +kernel : decode (jx_mb 2) 46 = .ok (.ireturn, 1))) rfl
theorem kX0_harmIn (d : Nat) (M : jx_M) (q : Int32 → jx_M → Prop) (a0 a1 : Value) : jx_I d 2 [a0, a1] M q ↔ jx_Ev d 2 0 [some a0, some a1] [] M (jx_qI q) := Iff.rfl
set_option maxRecDepth 100000 in
theorem eX0_keepBest :
  (∀ (d : Nat) (st : List Value) (M : jx_M) (Q : jx_Po) (l1 l2 : Option Value) (x : Nat), jx_Ev d 3 0 [some (.ref x), l1, l2] st M Q ↔ jx_Ev d 3 1 [some (.ref x), l1, l2] (.ref x :: st) M Q) ∧
  (∀ (d : Nat) (st : List Value) (M : jx_M) (Q : jx_Po) (l0 l2 : Option Value) (x : Int32), jx_Ev d 3 1 [l0, some (.int x), l2] st M Q ↔ jx_Ev d 3 2 [l0, some (.int x), l2] (.int x :: st) M Q) ∧
  (∀ (d : Nat) (lv : List (Option Value)) (st : List Value) (M : jx_M) (Q : jx_Po) (x : Int32), jx_Ev d 3 2 lv (.int x :: .ref 9 :: st) M Q ↔ jx_Ev d 3 5 lv st (jx_up M 9 1 x) Q) ∧
  (∀ (d : Nat) (lv : List (Option Value)) (st : List Value) (M : jx_M) (Q : jx_Po), jx_Ev d 3 5 lv st M Q ↔ jx_Ev d 3 6 lv (.int 0 :: st) M Q) ∧
  (∀ (d : Nat) (st : List Value) (M : jx_M) (Q : jx_Po) (l0 l1 l2 : Option Value) (x : Int32), jx_Ev d 3 6 [l0, l1, l2] (.int x :: st) M Q ↔ jx_Ev d 3 7 [l0, l1, some (.int x)] st M Q) ∧
  (∀ (d : Nat) (lv : List (Option Value)) (st : List Value) (M : jx_M) (Q : jx_Po), jx_Ev d 3 8 lv st M Q ↔ jx_Ev d 3 10 lv (.int 6 :: st) M Q) ∧
  (∀ (d : Nat) (lv : List (Option Value)) (st : List Value) (M : jx_M) (Q : jx_Po) (x z : Int32), jx_Ev d 3 10 lv (.int z :: .int x :: st) M Q ↔ (if z ≤ x then jx_Ev d 3 31 lv st M Q else jx_Ev d 3 13 lv st M Q)) ∧
  (∀ (d : Nat) (st : List Value) (M : jx_M) (Q : jx_Po) (l1 l2 : Option Value) (x : Nat), jx_Ev d 3 13 [some (.ref x), l1, l2] st M Q ↔ jx_Ev d 3 14 [some (.ref x), l1, l2] (.ref x :: st) M Q) ∧
  (∀ (d : Nat) (lv : List (Option Value)) (st : List Value) (M : jx_M) (Q : jx_Po), jx_Ev d 3 14 lv (.ref 9 :: st) M Q ↔ jx_Ev d 3 17 lv (.ref 10 :: st) M Q) ∧
  (∀ (d : Nat) (st : List Value) (M : jx_M) (Q : jx_Po) (l0 l1 : Option Value) (x : Int32), jx_Ev d 3 17 [l0, l1, some (.int x)] st M Q ↔ jx_Ev d 3 18 [l0, l1, some (.int x)] (.int x :: st) M Q) ∧
  (∀ (d : Nat) (st : List Value) (M : jx_M) (Q : jx_Po) (l1 l2 : Option Value) (x : Nat), jx_Ev d 3 18 [some (.ref x), l1, l2] st M Q ↔ jx_Ev d 3 19 [some (.ref x), l1, l2] (.ref x :: st) M Q) ∧
  (∀ (d : Nat) (lv : List (Option Value)) (st : List Value) (M : jx_M) (Q : jx_Po), jx_Ev d 3 19 lv (.ref 9 :: st) M Q ↔ jx_Ev d 3 22 lv (.ref 11 :: st) M Q) ∧
  (∀ (d : Nat) (st : List Value) (M : jx_M) (Q : jx_Po) (l0 l1 : Option Value) (x : Int32), jx_Ev d 3 22 [l0, l1, some (.int x)] st M Q ↔ jx_Ev d 3 23 [l0, l1, some (.int x)] (.int x :: st) M Q) ∧
  (∀ (d : Nat) (lv : List (Option Value)) (st : List Value) (M : jx_M) (Q : jx_Po) (x : Int32) (a : Nat) (ha : jx_cl a = 9), jx_Ev d 3 23 lv (.int x :: .ref a :: st) M Q ↔ (vp_in x (jx_sz a) ∧ jx_Ev d 3 24 lv (.int (M a x.toNatClampNeg) :: st) M Q)) ∧
  (∀ (d : Nat) (lv : List (Option Value)) (st : List Value) (M : jx_M) (Q : jx_Po) (x z : Int32) (a : Nat) (ha : jx_cl a = 9), jx_Ev d 3 24 lv (.int z :: .int x :: .ref a :: st) M Q ↔ (vp_in x (jx_sz a) ∧ jx_Ev d 3 25 lv st (jx_up M a x.toNatClampNeg z) Q)) ∧
  (∀ (d : Nat) (st : List Value) (M : jx_M) (Q : jx_Po) (l0 l1 : Option Value) (x : Int32), jx_Ev d 3 25 [l0, l1, some (.int x)] st M Q ↔ jx_Ev d 3 28 [l0, l1, some (.int (x + 1))] st M Q) ∧
  (∀ (d : Nat) (lv : List (Option Value)) (st : List Value) (M : jx_M) (Q : jx_Po), jx_Ev d 3 28 lv st M Q ↔ jx_Ev d 3 7 lv st M Q) ∧
  (∀ (d : Nat) (lv : List (Option Value)) (M : jx_M) (Q : jx_Po), jx_Ev d 3 31 lv [] M Q ↔ Q [] M) := by
  refine ⟨?_, ?_, ?_, ?_, ?_, ?_, ?_, ?_, ?_, ?_, ?_, ?_, ?_, ?_, ?_, ?_, ?_, ?_⟩
  · exact fun d st M Q l1 l2 x => jx_ev_st (jx_fok (by decide +kernel : decode (jx_mb 3) 0 = .ok (.aload_n 0, 1))) rfl rfl rfl
  · exact fun d st M Q l0 l2 x => jx_ev_st (jx_fok (by decide +kernel : decode (jx_mb 3) 1 = .ok (.iload_n 1, 1))) rfl rfl rfl
  · exact fun d lv st M Q x => jx_k_pf0 (jx_fok (by decide +kernel : decode (jx_mb 3) 2 = .ok (.putfield 15, 3))) rfl rfl rfl
  · exact fun d lv st M Q => jx_ev_st (jx_fok (by decide +kernel : decode (jx_mb 3) 5 = .ok (.iconst 0, 1))) rfl rfl rfl
  · exact fun d st M Q l0 l1 l2 x => jx_ev_st (jx_fok (by decide +kernel : decode (jx_mb 3) 6 = .ok (.istore_n 2, 1))) rfl rfl rfl
  · exact fun d lv st M Q => jx_ev_st (jx_fok (by decide +kernel : decode (jx_mb 3) 8 = .ok (.bipush 6, 2))) rfl rfl rfl
  · exact fun d lv st M Q x z => jx_k_b2 (jx_fok (by decide +kernel : decode (jx_mb 3) 10 = .ok (.if_icmp .ge 21, 3))) rfl jx_hGe
  · exact fun d st M Q l1 l2 x => jx_ev_st (jx_fok (by decide +kernel : decode (jx_mb 3) 13 = .ok (.aload_n 0, 1))) rfl rfl rfl
  · exact fun d lv st M Q => jx_k_gf (jx_fok (by decide +kernel : decode (jx_mb 3) 14 = .ok (.getfield 9, 3))) rfl rfl rfl
  · exact fun d st M Q l0 l1 x => jx_ev_st (jx_fok (by decide +kernel : decode (jx_mb 3) 17 = .ok (.iload_n 2, 1))) rfl rfl rfl
  · exact fun d st M Q l1 l2 x => jx_ev_st (jx_fok (by decide +kernel : decode (jx_mb 3) 18 = .ok (.aload_n 0, 1))) rfl rfl rfl
  · exact fun d lv st M Q => jx_k_gf (jx_fok (by decide +kernel : decode (jx_mb 3) 19 = .ok (.getfield 19, 3))) rfl rfl rfl
  · exact fun d st M Q l0 l1 x => jx_ev_st (jx_fok (by decide +kernel : decode (jx_mb 3) 22 = .ok (.iload_n 2, 1))) rfl rfl rfl
  · exact fun d lv st M Q x a ha => jx_k_al (jx_fok (by decide +kernel : decode (jx_mb 3) 23 = .ok (.iaload, 1))) ha
  · exact fun d lv st M Q x z a ha => jx_k_as (jx_fok (by decide +kernel : decode (jx_mb 3) 24 = .ok (.iastore, 1))) ha
  · exact fun d st M Q l0 l1 x => jx_ev_st (jx_fok (by decide +kernel : decode (jx_mb 3) 25 = .ok (.iinc 2 1, 3))) rfl rfl rfl
  · exact fun d lv st M Q => jx_k_goto (jx_fok (by decide +kernel : decode (jx_mb 3) 28 = .ok (.goto (-21), 3))) rfl
  · exact fun d lv M Q => jx_k_rv (jx_fok (by decide +kernel : decode (jx_mb 3) 31 = .ok (.return_, 1))) rfl
theorem eX0_keepBest_7 (d : Nat) (st : List Value) (M : jx_M) (Q : jx_Po) (l0 l1 : Option Value) (x : Int32) : jx_Ev d 3 7 [l0, l1, some (.int x)] st M Q ↔ jx_Ev d 3 8 [l0, l1, some (.int x)] (.int x :: st) M Q := jx_ev_st (jx_fok (by decide +kernel : decode (jx_mb 3) 7 = .ok (.iload_n 2, 1))) rfl rfl rfl
theorem kX0_keepBest (d : Nat) (M : jx_M) (q : jx_M → Prop) (a0 a1 : Value) : jx_V d 3 [a0, a1] M q ↔ jx_Ev d 3 0 [some a0, some a1, none] [] M (jx_qV q) := Iff.rfl
set_option maxRecDepth 100000 in
theorem eX1_stands :
  (∀ (d : Nat) (st : List Value) (M : jx_M) (Q : jx_Po) (x : Nat), jx_Ev d 4 0 [some (.ref x)] st M Q ↔ jx_Ev d 4 1 [some (.ref x)] (.ref x :: st) M Q) ∧
  (∀ (d : Nat) (lv : List (Option Value)) (st : List Value) (M : jx_M) (Q : jx_Po) (k : Nat) (hk : jx_cl k = 1), jx_Ev d 4 1 lv (.ref k :: st) M Q ↔ jx_Ev d 4 4 lv (.int (M k 6) :: st) M Q) ∧
  (∀ (d : Nat) (lv : List (Option Value)) (st : List Value) (M : jx_M) (Q : jx_Po) (x : Int32), jx_Ev d 4 4 lv (.int x :: st) M Q ↔ (if x ≤ 0 then jx_Ev d 4 11 lv st M Q else jx_Ev d 4 7 lv st M Q)) ∧
  (∀ (d : Nat) (lv : List (Option Value)) (st : List Value) (M : jx_M) (Q : jx_Po), jx_Ev d 4 7 lv st M Q ↔ jx_Ev d 4 8 lv (.int 1 :: st) M Q) ∧
  (∀ (d : Nat) (lv : List (Option Value)) (st : List Value) (M : jx_M) (Q : jx_Po), jx_Ev d 4 8 lv st M Q ↔ jx_Ev d 4 12 lv st M Q) ∧
  (∀ (d : Nat) (lv : List (Option Value)) (st : List Value) (M : jx_M) (Q : jx_Po), jx_Ev d 4 11 lv st M Q ↔ jx_Ev d 4 12 lv (.int 0 :: st) M Q) ∧
  (∀ (d : Nat) (lv : List (Option Value)) (M : jx_M) (Q : jx_Po) (x : Int32), jx_Ev d 4 12 lv [.int x] M Q ↔ ((x = 0 ∨ x = 1) ∧ Q [.int x] M)) := by
  refine ⟨?_, ?_, ?_, ?_, ?_, ?_, ?_⟩
  · exact fun d st M Q x => jx_ev_st (jx_fok (by decide +kernel : decode (jx_mb 4) 0 = .ok (.aload_n 0, 1))) rfl rfl rfl
  · exact fun d lv st M Q k hk => jx_k_gf (jx_fok (by decide +kernel : decode (jx_mb 4) 1 = .ok (.getfield 31, 3))) rfl hk rfl
  · exact fun d lv st M Q x => jx_k_b1 (jx_fok (by decide +kernel : decode (jx_mb 4) 4 = .ok (.ifCond .le 7, 3))) rfl jx_hLe
  · exact fun d lv st M Q => jx_ev_st (jx_fok (by decide +kernel : decode (jx_mb 4) 7 = .ok (.iconst 1, 1))) rfl rfl rfl
  · exact fun d lv st M Q => jx_k_goto (jx_fok (by decide +kernel : decode (jx_mb 4) 8 = .ok (.goto 4, 3))) rfl
  · exact fun d lv st M Q => jx_ev_st (jx_fok (by decide +kernel : decode (jx_mb 4) 11 = .ok (.iconst 0, 1))) rfl rfl rfl
  · exact fun d lv M Q x => jx_k_rz (jx_fok (by decide +kernel : decode (jx_mb 4) 12 = .ok (.ireturn, 1))) rfl
theorem kX1_stands (d : Nat) (M : jx_M) (q : Int32 → jx_M → Prop) (a0 : Value) : jx_I d 4 [a0] M q ↔ jx_Ev d 4 0 [some a0] [] M (jx_qI q) := Iff.rfl
set_option maxRecDepth 100000 in
theorem eX1_hasPerson :
  (∀ (d : Nat) (st : List Value) (M : jx_M) (Q : jx_Po) (l0 : Option Value) (x : Int32), jx_Ev d 5 0 [l0, some (.int x)] st M Q ↔ jx_Ev d 5 1 [l0, some (.int x)] (.int x :: st) M Q) ∧
  (∀ (d : Nat) (lv : List (Option Value)) (st : List Value) (M : jx_M) (Q : jx_Po) (x : Int32), jx_Ev d 5 1 lv (.int x :: st) M Q ↔ (if x < 0 then jx_Ev d 5 21 lv st M Q else jx_Ev d 5 4 lv st M Q)) ∧
  (∀ (d : Nat) (st : List Value) (M : jx_M) (Q : jx_Po) (l0 : Option Value) (x : Int32), jx_Ev d 5 4 [l0, some (.int x)] st M Q ↔ jx_Ev d 5 5 [l0, some (.int x)] (.int x :: st) M Q) ∧
  (∀ (d : Nat) (st : List Value) (M : jx_M) (Q : jx_Po) (l1 : Option Value) (x : Nat), jx_Ev d 5 5 [some (.ref x), l1] st M Q ↔ jx_Ev d 5 6 [some (.ref x), l1] (.ref x :: st) M Q) ∧
  (∀ (d : Nat) (lv : List (Option Value)) (st : List Value) (M : jx_M) (Q : jx_Po) (k : Nat) (hk : jx_cl k = 1), jx_Ev d 5 6 lv (.ref k :: st) M Q ↔ jx_Ev d 5 9 lv (.int (M k 5) :: st) M Q) ∧
  (∀ (d : Nat) (lv : List (Option Value)) (st : List Value) (M : jx_M) (Q : jx_Po) (x z : Int32), jx_Ev d 5 9 lv (.int z :: .int x :: st) M Q ↔ (if z ≤ x then jx_Ev d 5 21 lv st M Q else jx_Ev d 5 12 lv st M Q)) ∧
  (∀ (d : Nat) (st : List Value) (M : jx_M) (Q : jx_Po) (l0 : Option Value) (x : Int32), jx_Ev d 5 12 [l0, some (.int x)] st M Q ↔ jx_Ev d 5 13 [l0, some (.int x)] (.int x :: st) M Q) ∧
  (∀ (d : Nat) (lv : List (Option Value)) (st : List Value) (M : jx_M) (Q : jx_Po), jx_Ev d 5 13 lv st M Q ↔ jx_Ev d 5 14 lv (.int 5 :: st) M Q) ∧
  (∀ (d : Nat) (lv : List (Option Value)) (st : List Value) (M : jx_M) (Q : jx_Po) (x z : Int32), jx_Ev d 5 14 lv (.int z :: .int x :: st) M Q ↔ (if z ≤ x then jx_Ev d 5 21 lv st M Q else jx_Ev d 5 17 lv st M Q)) ∧
  (∀ (d : Nat) (lv : List (Option Value)) (st : List Value) (M : jx_M) (Q : jx_Po), jx_Ev d 5 17 lv st M Q ↔ jx_Ev d 5 18 lv (.int 1 :: st) M Q) ∧
  (∀ (d : Nat) (lv : List (Option Value)) (st : List Value) (M : jx_M) (Q : jx_Po), jx_Ev d 5 18 lv st M Q ↔ jx_Ev d 5 22 lv st M Q) ∧
  (∀ (d : Nat) (lv : List (Option Value)) (st : List Value) (M : jx_M) (Q : jx_Po), jx_Ev d 5 21 lv st M Q ↔ jx_Ev d 5 22 lv (.int 0 :: st) M Q) ∧
  (∀ (d : Nat) (lv : List (Option Value)) (M : jx_M) (Q : jx_Po) (x : Int32), jx_Ev d 5 22 lv [.int x] M Q ↔ ((x = 0 ∨ x = 1) ∧ Q [.int x] M)) := by
  refine ⟨?_, ?_, ?_, ?_, ?_, ?_, ?_, ?_, ?_, ?_, ?_, ?_, ?_⟩
  · exact fun d st M Q l0 x => jx_ev_st (jx_fok (by decide +kernel : decode (jx_mb 5) 0 = .ok (.iload_n 1, 1))) rfl rfl rfl
  · exact fun d lv st M Q x => jx_k_b1 (jx_fok (by decide +kernel : decode (jx_mb 5) 1 = .ok (.ifCond .lt 20, 3))) rfl jx_hLt
  · exact fun d st M Q l0 x => jx_ev_st (jx_fok (by decide +kernel : decode (jx_mb 5) 4 = .ok (.iload_n 1, 1))) rfl rfl rfl
  · exact fun d st M Q l1 x => jx_ev_st (jx_fok (by decide +kernel : decode (jx_mb 5) 5 = .ok (.aload_n 0, 1))) rfl rfl rfl
  · exact fun d lv st M Q k hk => jx_k_gf (jx_fok (by decide +kernel : decode (jx_mb 5) 6 = .ok (.getfield 27, 3))) rfl hk rfl
  · exact fun d lv st M Q x z => jx_k_b2 (jx_fok (by decide +kernel : decode (jx_mb 5) 9 = .ok (.if_icmp .ge 12, 3))) rfl jx_hGe
  · exact fun d st M Q l0 x => jx_ev_st (jx_fok (by decide +kernel : decode (jx_mb 5) 12 = .ok (.iload_n 1, 1))) rfl rfl rfl
  · exact fun d lv st M Q => jx_ev_st (jx_fok (by decide +kernel : decode (jx_mb 5) 13 = .ok (.iconst 5, 1))) rfl rfl rfl
  · exact fun d lv st M Q x z => jx_k_b2 (jx_fok (by decide +kernel : decode (jx_mb 5) 14 = .ok (.if_icmp .ge 7, 3))) rfl jx_hGe
  · exact fun d lv st M Q => jx_ev_st (jx_fok (by decide +kernel : decode (jx_mb 5) 17 = .ok (.iconst 1, 1))) rfl rfl rfl
  · exact fun d lv st M Q => jx_k_goto (jx_fok (by decide +kernel : decode (jx_mb 5) 18 = .ok (.goto 4, 3))) rfl
  · exact fun d lv st M Q => jx_ev_st (jx_fok (by decide +kernel : decode (jx_mb 5) 21 = .ok (.iconst 0, 1))) rfl rfl rfl
  · exact fun d lv M Q x => jx_k_rz (jx_fok (by decide +kernel : decode (jx_mb 5) 22 = .ok (.ireturn, 1))) rfl
theorem kX1_hasPerson (d : Nat) (M : jx_M) (q : Int32 → jx_M → Prop) (a0 a1 : Value) : jx_I d 5 [a0, a1] M q ↔ jx_Ev d 5 0 [some a0, some a1] [] M (jx_qI q) := Iff.rfl
set_option maxRecDepth 100000 in
theorem eX1_hasClap :
  (∀ (d : Nat) (st : List Value) (M : jx_M) (Q : jx_Po) (l0 : Option Value) (x : Int32), jx_Ev d 6 0 [l0, some (.int x)] st M Q ↔ jx_Ev d 6 1 [l0, some (.int x)] (.int x :: st) M Q) ∧
  (∀ (d : Nat) (lv : List (Option Value)) (st : List Value) (M : jx_M) (Q : jx_Po) (x : Int32), jx_Ev d 6 1 lv (.int x :: st) M Q ↔ (if x < 0 then jx_Ev d 6 22 lv st M Q else jx_Ev d 6 4 lv st M Q)) ∧
  (∀ (d : Nat) (st : List Value) (M : jx_M) (Q : jx_Po) (l0 : Option Value) (x : Int32), jx_Ev d 6 4 [l0, some (.int x)] st M Q ↔ jx_Ev d 6 5 [l0, some (.int x)] (.int x :: st) M Q) ∧
  (∀ (d : Nat) (st : List Value) (M : jx_M) (Q : jx_Po) (l1 : Option Value) (x : Nat), jx_Ev d 6 5 [some (.ref x), l1] st M Q ↔ jx_Ev d 6 6 [some (.ref x), l1] (.ref x :: st) M Q) ∧
  (∀ (d : Nat) (lv : List (Option Value)) (st : List Value) (M : jx_M) (Q : jx_Po) (k : Nat) (hk : jx_cl k = 1), jx_Ev d 6 6 lv (.ref k :: st) M Q ↔ jx_Ev d 6 9 lv (.int (M k 6) :: st) M Q) ∧
  (∀ (d : Nat) (lv : List (Option Value)) (st : List Value) (M : jx_M) (Q : jx_Po) (x z : Int32), jx_Ev d 6 9 lv (.int z :: .int x :: st) M Q ↔ (if z ≤ x then jx_Ev d 6 22 lv st M Q else jx_Ev d 6 12 lv st M Q)) ∧
  (∀ (d : Nat) (st : List Value) (M : jx_M) (Q : jx_Po) (l0 : Option Value) (x : Int32), jx_Ev d 6 12 [l0, some (.int x)] st M Q ↔ jx_Ev d 6 13 [l0, some (.int x)] (.int x :: st) M Q) ∧
  (∀ (d : Nat) (lv : List (Option Value)) (st : List Value) (M : jx_M) (Q : jx_Po), jx_Ev d 6 13 lv st M Q ↔ jx_Ev d 6 15 lv (.int 6 :: st) M Q) ∧
  (∀ (d : Nat) (lv : List (Option Value)) (st : List Value) (M : jx_M) (Q : jx_Po) (x z : Int32), jx_Ev d 6 15 lv (.int z :: .int x :: st) M Q ↔ (if z ≤ x then jx_Ev d 6 22 lv st M Q else jx_Ev d 6 18 lv st M Q)) ∧
  (∀ (d : Nat) (lv : List (Option Value)) (st : List Value) (M : jx_M) (Q : jx_Po), jx_Ev d 6 18 lv st M Q ↔ jx_Ev d 6 19 lv (.int 1 :: st) M Q) ∧
  (∀ (d : Nat) (lv : List (Option Value)) (st : List Value) (M : jx_M) (Q : jx_Po), jx_Ev d 6 19 lv st M Q ↔ jx_Ev d 6 23 lv st M Q) ∧
  (∀ (d : Nat) (lv : List (Option Value)) (st : List Value) (M : jx_M) (Q : jx_Po), jx_Ev d 6 22 lv st M Q ↔ jx_Ev d 6 23 lv (.int 0 :: st) M Q) ∧
  (∀ (d : Nat) (lv : List (Option Value)) (M : jx_M) (Q : jx_Po) (x : Int32), jx_Ev d 6 23 lv [.int x] M Q ↔ ((x = 0 ∨ x = 1) ∧ Q [.int x] M)) := by
  refine ⟨?_, ?_, ?_, ?_, ?_, ?_, ?_, ?_, ?_, ?_, ?_, ?_, ?_⟩
  · exact fun d st M Q l0 x => jx_ev_st (jx_fok (by decide +kernel : decode (jx_mb 6) 0 = .ok (.iload_n 1, 1))) rfl rfl rfl
  · exact fun d lv st M Q x => jx_k_b1 (jx_fok (by decide +kernel : decode (jx_mb 6) 1 = .ok (.ifCond .lt 21, 3))) rfl jx_hLt
  · exact fun d st M Q l0 x => jx_ev_st (jx_fok (by decide +kernel : decode (jx_mb 6) 4 = .ok (.iload_n 1, 1))) rfl rfl rfl
  · exact fun d st M Q l1 x => jx_ev_st (jx_fok (by decide +kernel : decode (jx_mb 6) 5 = .ok (.aload_n 0, 1))) rfl rfl rfl
  · exact fun d lv st M Q k hk => jx_k_gf (jx_fok (by decide +kernel : decode (jx_mb 6) 6 = .ok (.getfield 31, 3))) rfl hk rfl
  · exact fun d lv st M Q x z => jx_k_b2 (jx_fok (by decide +kernel : decode (jx_mb 6) 9 = .ok (.if_icmp .ge 13, 3))) rfl jx_hGe
  · exact fun d st M Q l0 x => jx_ev_st (jx_fok (by decide +kernel : decode (jx_mb 6) 12 = .ok (.iload_n 1, 1))) rfl rfl rfl
  · exact fun d lv st M Q => jx_ev_st (jx_fok (by decide +kernel : decode (jx_mb 6) 13 = .ok (.bipush 6, 2))) rfl rfl rfl
  · exact fun d lv st M Q x z => jx_k_b2 (jx_fok (by decide +kernel : decode (jx_mb 6) 15 = .ok (.if_icmp .ge 7, 3))) rfl jx_hGe
  · exact fun d lv st M Q => jx_ev_st (jx_fok (by decide +kernel : decode (jx_mb 6) 18 = .ok (.iconst 1, 1))) rfl rfl rfl
  · exact fun d lv st M Q => jx_k_goto (jx_fok (by decide +kernel : decode (jx_mb 6) 19 = .ok (.goto 4, 3))) rfl
  · exact fun d lv st M Q => jx_ev_st (jx_fok (by decide +kernel : decode (jx_mb 6) 22 = .ok (.iconst 0, 1))) rfl rfl rfl
  · exact fun d lv M Q x => jx_k_rz (jx_fok (by decide +kernel : decode (jx_mb 6) 23 = .ok (.ireturn, 1))) rfl
theorem kX1_hasClap (d : Nat) (M : jx_M) (q : Int32 → jx_M → Prop) (a0 a1 : Value) : jx_I d 6 [a0, a1] M q ↔ jx_Ev d 6 0 [some a0, some a1] [] M (jx_qI q) := Iff.rfl
set_option maxRecDepth 100000 in
theorem eX1_isFor :
  (∀ (d : Nat) (st : List Value) (M : jx_M) (Q : jx_Po) (l1 l2 : Option Value) (x : Nat), jx_Ev d 7 0 [some (.ref x), l1, l2] st M Q ↔ jx_Ev d 7 1 [some (.ref x), l1, l2] (.ref x :: st) M Q) ∧
  (∀ (d : Nat) (st : List Value) (M : jx_M) (Q : jx_Po) (l0 l2 : Option Value) (x : Int32), jx_Ev d 7 1 [l0, some (.int x), l2] st M Q ↔ jx_Ev d 7 2 [l0, some (.int x), l2] (.int x :: st) M Q) ∧
  (∀ (d : Nat) (lv : List (Option Value)) (M : jx_M) (Q : jx_Po) (a0 : Int32) (a1 : Nat) (hk : jx_cl a1 = 1), jx_Ev (d + 1) 7 2 lv [.int a0, .ref a1] M Q ↔ jx_I d 6 [.ref a1, .int a0] M (fun x M => jx_Ev (d + 1) 7 5 lv (.int x :: []) M Q)) ∧
  (∀ (d : Nat) (lv : List (Option Value)) (st : List Value) (M : jx_M) (Q : jx_Po) (x : Int32), jx_Ev d 7 5 lv (.int x :: st) M Q ↔ (if x = 0 then jx_Ev d 7 22 lv st M Q else jx_Ev d 7 8 lv st M Q)) ∧
  (∀ (d : Nat) (st : List Value) (M : jx_M) (Q : jx_Po) (l1 l2 : Option Value) (x : Nat), jx_Ev d 7 8 [some (.ref x), l1, l2] st M Q ↔ jx_Ev d 7 9 [some (.ref x), l1, l2] (.ref x :: st) M Q) ∧
  (∀ (d : Nat) (lv : List (Option Value)) (st : List Value) (M : jx_M) (Q : jx_Po) (k : Nat) (hk : jx_cl k = 1), jx_Ev d 7 9 lv (.ref k :: st) M Q ↔ jx_Ev d 7 12 lv (.ref (k + 5) :: st) M Q) ∧
  (∀ (d : Nat) (st : List Value) (M : jx_M) (Q : jx_Po) (l0 l2 : Option Value) (x : Int32), jx_Ev d 7 12 [l0, some (.int x), l2] st M Q ↔ jx_Ev d 7 13 [l0, some (.int x), l2] (.int x :: st) M Q) ∧
  (∀ (d : Nat) (lv : List (Option Value)) (st : List Value) (M : jx_M) (Q : jx_Po) (x : Int32) (a : Nat) (ha : jx_cl a = 9), jx_Ev d 7 13 lv (.int x :: .ref a :: st) M Q ↔ (vp_in x (jx_sz a) ∧ jx_Ev d 7 14 lv (.int (M a x.toNatClampNeg) :: st) M Q)) ∧
  (∀ (d : Nat) (st : List Value) (M : jx_M) (Q : jx_Po) (l0 l1 : Option Value) (x : Int32), jx_Ev d 7 14 [l0, l1, some (.int x)] st M Q ↔ jx_Ev d 7 15 [l0, l1, some (.int x)] (.int x :: st) M Q) ∧
  (∀ (d : Nat) (lv : List (Option Value)) (st : List Value) (M : jx_M) (Q : jx_Po) (x z : Int32), jx_Ev d 7 15 lv (.int z :: .int x :: st) M Q ↔ (if x = z then jx_Ev d 7 18 lv st M Q else jx_Ev d 7 22 lv st M Q)) ∧
  (∀ (d : Nat) (lv : List (Option Value)) (st : List Value) (M : jx_M) (Q : jx_Po), jx_Ev d 7 18 lv st M Q ↔ jx_Ev d 7 19 lv (.int 1 :: st) M Q) ∧
  (∀ (d : Nat) (lv : List (Option Value)) (st : List Value) (M : jx_M) (Q : jx_Po), jx_Ev d 7 19 lv st M Q ↔ jx_Ev d 7 23 lv st M Q) ∧
  (∀ (d : Nat) (lv : List (Option Value)) (st : List Value) (M : jx_M) (Q : jx_Po), jx_Ev d 7 22 lv st M Q ↔ jx_Ev d 7 23 lv (.int 0 :: st) M Q) ∧
  (∀ (d : Nat) (lv : List (Option Value)) (M : jx_M) (Q : jx_Po) (x : Int32), jx_Ev d 7 23 lv [.int x] M Q ↔ ((x = 0 ∨ x = 1) ∧ Q [.int x] M)) := by
  refine ⟨?_, ?_, ?_, ?_, ?_, ?_, ?_, ?_, ?_, ?_, ?_, ?_, ?_, ?_⟩
  · exact fun d st M Q l1 l2 x => jx_ev_st (jx_fok (by decide +kernel : decode (jx_mb 7) 0 = .ok (.aload_n 0, 1))) rfl rfl rfl
  · exact fun d st M Q l0 l2 x => jx_ev_st (jx_fok (by decide +kernel : decode (jx_mb 7) 1 = .ok (.iload_n 1, 1))) rfl rfl rfl
  · exact fun d lv M Q a0 a1 hk => jx_ev_ci (jx_fok (by decide +kernel : decode (jx_mb 7) 2 = .ok (.invokevirtual 40, 3))) rfl (jx_ccV (As := [.int a0]) (rest := []) rfl rfl rfl hk rfl rfl) (by decide)
  · exact fun d lv st M Q x => jx_k_b1 (jx_fok (by decide +kernel : decode (jx_mb 7) 5 = .ok (.ifCond .eq 17, 3))) rfl jx_hEq
  · exact fun d st M Q l1 l2 x => jx_ev_st (jx_fok (by decide +kernel : decode (jx_mb 7) 8 = .ok (.aload_n 0, 1))) rfl rfl rfl
  · exact fun d lv st M Q k hk => jx_k_gf (jx_fok (by decide +kernel : decode (jx_mb 7) 9 = .ok (.getfield 24, 3))) rfl hk rfl
  · exact fun d st M Q l0 l2 x => jx_ev_st (jx_fok (by decide +kernel : decode (jx_mb 7) 12 = .ok (.iload_n 1, 1))) rfl rfl rfl
  · exact fun d lv st M Q x a ha => jx_k_al (jx_fok (by decide +kernel : decode (jx_mb 7) 13 = .ok (.iaload, 1))) ha
  · exact fun d st M Q l0 l1 x => jx_ev_st (jx_fok (by decide +kernel : decode (jx_mb 7) 14 = .ok (.iload_n 2, 1))) rfl rfl rfl
  · exact fun d lv st M Q x z => jx_k_b2n (jx_fok (by decide +kernel : decode (jx_mb 7) 15 = .ok (.if_icmp .ne 7, 3))) rfl jx_hNe
  · exact fun d lv st M Q => jx_ev_st (jx_fok (by decide +kernel : decode (jx_mb 7) 18 = .ok (.iconst 1, 1))) rfl rfl rfl
  · exact fun d lv st M Q => jx_k_goto (jx_fok (by decide +kernel : decode (jx_mb 7) 19 = .ok (.goto 4, 3))) rfl
  · exact fun d lv st M Q => jx_ev_st (jx_fok (by decide +kernel : decode (jx_mb 7) 22 = .ok (.iconst 0, 1))) rfl rfl rfl
  · exact fun d lv M Q x => jx_k_rz (jx_fok (by decide +kernel : decode (jx_mb 7) 23 = .ok (.ireturn, 1))) rfl
theorem kX1_isFor (d : Nat) (M : jx_M) (q : Int32 → jx_M → Prop) (a0 a1 a2 : Value) : jx_I d 7 [a0, a1, a2] M q ↔ jx_Ev d 7 0 [some a0, some a1, some a2] [] M (jx_qI q) := Iff.rfl
set_option maxRecDepth 100000 in
theorem eX1_clapsFor :
  (∀ (d : Nat) (lv : List (Option Value)) (st : List Value) (M : jx_M) (Q : jx_Po), jx_Ev d 8 0 lv st M Q ↔ jx_Ev d 8 1 lv (.int 0 :: st) M Q) ∧
  (∀ (d : Nat) (st : List Value) (M : jx_M) (Q : jx_Po) (l0 l1 l2 l3 : Option Value) (x : Int32), jx_Ev d 8 1 [l0, l1, l2, l3] (.int x :: st) M Q ↔ jx_Ev d 8 2 [l0, l1, some (.int x), l3] st M Q) ∧
  (∀ (d : Nat) (lv : List (Option Value)) (st : List Value) (M : jx_M) (Q : jx_Po), jx_Ev d 8 2 lv st M Q ↔ jx_Ev d 8 3 lv (.int 0 :: st) M Q) ∧
  (∀ (d : Nat) (st : List Value) (M : jx_M) (Q : jx_Po) (l0 l1 l2 l3 : Option Value) (x : Int32), jx_Ev d 8 3 [l0, l1, l2, l3] (.int x :: st) M Q ↔ jx_Ev d 8 4 [l0, l1, l2, some (.int x)] st M Q) ∧
  (∀ (d : Nat) (lv : List (Option Value)) (st : List Value) (M : jx_M) (Q : jx_Po), jx_Ev d 8 5 lv st M Q ↔ jx_Ev d 8 7 lv (.int 6 :: st) M Q) ∧
  (∀ (d : Nat) (lv : List (Option Value)) (st : List Value) (M : jx_M) (Q : jx_Po) (x z : Int32), jx_Ev d 8 7 lv (.int z :: .int x :: st) M Q ↔ (if z ≤ x then jx_Ev d 8 31 lv st M Q else jx_Ev d 8 10 lv st M Q)) ∧
  (∀ (d : Nat) (st : List Value) (M : jx_M) (Q : jx_Po) (l1 l2 l3 : Option Value) (x : Nat), jx_Ev d 8 10 [some (.ref x), l1, l2, l3] st M Q ↔ jx_Ev d 8 11 [some (.ref x), l1, l2, l3] (.ref x :: st) M Q) ∧
  (∀ (d : Nat) (st : List Value) (M : jx_M) (Q : jx_Po) (l0 l1 l2 : Option Value) (x : Int32), jx_Ev d 8 11 [l0, l1, l2, some (.int x)] st M Q ↔ jx_Ev d 8 12 [l0, l1, l2, some (.int x)] (.int x :: st) M Q) ∧
  (∀ (d : Nat) (st : List Value) (M : jx_M) (Q : jx_Po) (l0 l2 l3 : Option Value) (x : Int32), jx_Ev d 8 12 [l0, some (.int x), l2, l3] st M Q ↔ jx_Ev d 8 13 [l0, some (.int x), l2, l3] (.int x :: st) M Q) ∧
  (∀ (d : Nat) (lv : List (Option Value)) (M : jx_M) (Q : jx_Po) (a0 : Int32) (a1 : Int32) (a2 : Nat) (hk : jx_cl a2 = 1), jx_Ev (d + 1) 8 13 lv [.int a0, .int a1, .ref a2] M Q ↔ jx_I d 7 [.ref a2, .int a1, .int a0] M (fun x M => jx_Ev (d + 1) 8 16 lv (.int x :: []) M Q)) ∧
  (∀ (d : Nat) (lv : List (Option Value)) (st : List Value) (M : jx_M) (Q : jx_Po) (x : Int32), jx_Ev d 8 16 lv (.int x :: st) M Q ↔ (if x = 0 then jx_Ev d 8 25 lv st M Q else jx_Ev d 8 19 lv st M Q)) ∧
  (∀ (d : Nat) (st : List Value) (M : jx_M) (Q : jx_Po) (l0 l1 l3 : Option Value) (x : Int32), jx_Ev d 8 19 [l0, l1, some (.int x), l3] st M Q ↔ jx_Ev d 8 20 [l0, l1, some (.int x), l3] (.int x :: st) M Q) ∧
  (∀ (d : Nat) (lv : List (Option Value)) (st : List Value) (M : jx_M) (Q : jx_Po), jx_Ev d 8 20 lv st M Q ↔ jx_Ev d 8 21 lv (.int 1 :: st) M Q) ∧
  (∀ (d : Nat) (st : List Value) (M : jx_M) (Q : jx_Po) (l0 l1 l2 : Option Value) (x : Int32), jx_Ev d 8 21 [l0, l1, l2, some (.int x)] st M Q ↔ jx_Ev d 8 22 [l0, l1, l2, some (.int x)] (.int x :: st) M Q) ∧
  (∀ (d : Nat) (lv : List (Option Value)) (st : List Value) (M : jx_M) (Q : jx_Po) (x z : Int32), jx_Ev d 8 22 lv (.int z :: .int x :: st) M Q ↔ jx_Ev d 8 23 lv (.int (x <<< (z &&& 31)) :: st) M Q) ∧
  (∀ (d : Nat) (lv : List (Option Value)) (st : List Value) (M : jx_M) (Q : jx_Po) (x z : Int32), jx_Ev d 8 23 lv (.int z :: .int x :: st) M Q ↔ jx_Ev d 8 24 lv (.int (x ||| z) :: st) M Q) ∧
  (∀ (d : Nat) (st : List Value) (M : jx_M) (Q : jx_Po) (l0 l1 l2 l3 : Option Value) (x : Int32), jx_Ev d 8 24 [l0, l1, l2, l3] (.int x :: st) M Q ↔ jx_Ev d 8 25 [l0, l1, some (.int x), l3] st M Q) ∧
  (∀ (d : Nat) (st : List Value) (M : jx_M) (Q : jx_Po) (l0 l1 l2 : Option Value) (x : Int32), jx_Ev d 8 25 [l0, l1, l2, some (.int x)] st M Q ↔ jx_Ev d 8 28 [l0, l1, l2, some (.int (x + 1))] st M Q) ∧
  (∀ (d : Nat) (lv : List (Option Value)) (st : List Value) (M : jx_M) (Q : jx_Po), jx_Ev d 8 28 lv st M Q ↔ jx_Ev d 8 4 lv st M Q) ∧
  (∀ (d : Nat) (st : List Value) (M : jx_M) (Q : jx_Po) (l0 l1 l3 : Option Value) (x : Int32), jx_Ev d 8 31 [l0, l1, some (.int x), l3] st M Q ↔ jx_Ev d 8 32 [l0, l1, some (.int x), l3] (.int x :: st) M Q) ∧
  (∀ (d : Nat) (lv : List (Option Value)) (M : jx_M) (Q : jx_Po) (x : Int32), jx_Ev d 8 32 lv [.int x] M Q ↔ Q [.int x] M) := by
  refine ⟨?_, ?_, ?_, ?_, ?_, ?_, ?_, ?_, ?_, ?_, ?_, ?_, ?_, ?_, ?_, ?_, ?_, ?_, ?_, ?_, ?_⟩
  · exact fun d lv st M Q => jx_ev_st (jx_fok (by decide +kernel : decode (jx_mb 8) 0 = .ok (.iconst 0, 1))) rfl rfl rfl
  · exact fun d st M Q l0 l1 l2 l3 x => jx_ev_st (jx_fok (by decide +kernel : decode (jx_mb 8) 1 = .ok (.istore_n 2, 1))) rfl rfl rfl
  · exact fun d lv st M Q => jx_ev_st (jx_fok (by decide +kernel : decode (jx_mb 8) 2 = .ok (.iconst 0, 1))) rfl rfl rfl
  · exact fun d st M Q l0 l1 l2 l3 x => jx_ev_st (jx_fok (by decide +kernel : decode (jx_mb 8) 3 = .ok (.istore_n 3, 1))) rfl rfl rfl
  · exact fun d lv st M Q => jx_ev_st (jx_fok (by decide +kernel : decode (jx_mb 8) 5 = .ok (.bipush 6, 2))) rfl rfl rfl
  · exact fun d lv st M Q x z => jx_k_b2 (jx_fok (by decide +kernel : decode (jx_mb 8) 7 = .ok (.if_icmp .ge 24, 3))) rfl jx_hGe
  · exact fun d st M Q l1 l2 l3 x => jx_ev_st (jx_fok (by decide +kernel : decode (jx_mb 8) 10 = .ok (.aload_n 0, 1))) rfl rfl rfl
  · exact fun d st M Q l0 l1 l2 x => jx_ev_st (jx_fok (by decide +kernel : decode (jx_mb 8) 11 = .ok (.iload_n 3, 1))) rfl rfl rfl
  · exact fun d st M Q l0 l2 l3 x => jx_ev_st (jx_fok (by decide +kernel : decode (jx_mb 8) 12 = .ok (.iload_n 1, 1))) rfl rfl rfl
  · exact fun d lv M Q a0 a1 a2 hk => jx_ev_ci (jx_fok (by decide +kernel : decode (jx_mb 8) 13 = .ok (.invokevirtual 44, 3))) rfl (jx_ccV (As := [.int a1, .int a0]) (rest := []) rfl rfl rfl hk rfl rfl) (by decide)
  · exact fun d lv st M Q x => jx_k_b1 (jx_fok (by decide +kernel : decode (jx_mb 8) 16 = .ok (.ifCond .eq 9, 3))) rfl jx_hEq
  · exact fun d st M Q l0 l1 l3 x => jx_ev_st (jx_fok (by decide +kernel : decode (jx_mb 8) 19 = .ok (.iload_n 2, 1))) rfl rfl rfl
  · exact fun d lv st M Q => jx_ev_st (jx_fok (by decide +kernel : decode (jx_mb 8) 20 = .ok (.iconst 1, 1))) rfl rfl rfl
  · exact fun d st M Q l0 l1 l2 x => jx_ev_st (jx_fok (by decide +kernel : decode (jx_mb 8) 21 = .ok (.iload_n 3, 1))) rfl rfl rfl
  · exact fun d lv st M Q x z => jx_ev_st (jx_fok (by decide +kernel : decode (jx_mb 8) 22 = .ok (.ishl, 1))) rfl rfl rfl
  · exact fun d lv st M Q x z => jx_ev_st (jx_fok (by decide +kernel : decode (jx_mb 8) 23 = .ok (.ior, 1))) rfl rfl rfl
  · exact fun d st M Q l0 l1 l2 l3 x => jx_ev_st (jx_fok (by decide +kernel : decode (jx_mb 8) 24 = .ok (.istore_n 2, 1))) rfl rfl rfl
  · exact fun d st M Q l0 l1 l2 x => jx_ev_st (jx_fok (by decide +kernel : decode (jx_mb 8) 25 = .ok (.iinc 3 1, 3))) rfl rfl rfl
  · exact fun d lv st M Q => jx_k_goto (jx_fok (by decide +kernel : decode (jx_mb 8) 28 = .ok (.goto (-24), 3))) rfl
  · exact fun d st M Q l0 l1 l3 x => jx_ev_st (jx_fok (by decide +kernel : decode (jx_mb 8) 31 = .ok (.iload_n 2, 1))) rfl rfl rfl
  · exact fun d lv M Q x => jx_k_ri (jx_fok (by decide +kernel : decode (jx_mb 8) 32 = .ok (.ireturn, 1))) rfl
theorem eX1_clapsFor_4 (d : Nat) (st : List Value) (M : jx_M) (Q : jx_Po) (l0 l1 l2 : Option Value) (x : Int32) : jx_Ev d 8 4 [l0, l1, l2, some (.int x)] st M Q ↔ jx_Ev d 8 5 [l0, l1, l2, some (.int x)] (.int x :: st) M Q := jx_ev_st (jx_fok (by decide +kernel : decode (jx_mb 8) 4 = .ok (.iload_n 3, 1))) rfl rfl rfl
theorem kX1_clapsFor (d : Nat) (M : jx_M) (q : Int32 → jx_M → Prop) (a0 a1 : Value) : jx_I d 8 [a0, a1] M q ↔ jx_Ev d 8 0 [some a0, some a1, none, none] [] M (jx_qI q) := Iff.rfl
set_option maxRecDepth 100000 in
theorem eX1_everybody :
  (∀ (d : Nat) (lv : List (Option Value)) (st : List Value) (M : jx_M) (Q : jx_Po), jx_Ev d 9 0 lv st M Q ↔ jx_Ev d 9 1 lv (.int 1 :: st) M Q) ∧
  (∀ (d : Nat) (st : List Value) (M : jx_M) (Q : jx_Po) (x : Nat), jx_Ev d 9 1 [some (.ref x)] st M Q ↔ jx_Ev d 9 2 [some (.ref x)] (.ref x :: st) M Q) ∧
  (∀ (d : Nat) (lv : List (Option Value)) (st : List Value) (M : jx_M) (Q : jx_Po) (k : Nat) (hk : jx_cl k = 1), jx_Ev d 9 2 lv (.ref k :: st) M Q ↔ jx_Ev d 9 5 lv (.int (M k 5) :: st) M Q) ∧
  (∀ (d : Nat) (lv : List (Option Value)) (st : List Value) (M : jx_M) (Q : jx_Po) (x z : Int32), jx_Ev d 9 5 lv (.int z :: .int x :: st) M Q ↔ jx_Ev d 9 6 lv (.int (x <<< (z &&& 31)) :: st) M Q) ∧
  (∀ (d : Nat) (lv : List (Option Value)) (st : List Value) (M : jx_M) (Q : jx_Po), jx_Ev d 9 6 lv st M Q ↔ jx_Ev d 9 7 lv (.int 1 :: st) M Q) ∧
  (∀ (d : Nat) (lv : List (Option Value)) (st : List Value) (M : jx_M) (Q : jx_Po) (x z : Int32), jx_Ev d 9 7 lv (.int z :: .int x :: st) M Q ↔ jx_Ev d 9 8 lv (.int (x - z) :: st) M Q) ∧
  (∀ (d : Nat) (lv : List (Option Value)) (M : jx_M) (Q : jx_Po) (x : Int32), jx_Ev d 9 8 lv [.int x] M Q ↔ Q [.int x] M) := by
  refine ⟨?_, ?_, ?_, ?_, ?_, ?_, ?_⟩
  · exact fun d lv st M Q => jx_ev_st (jx_fok (by decide +kernel : decode (jx_mb 9) 0 = .ok (.iconst 1, 1))) rfl rfl rfl
  · exact fun d st M Q x => jx_ev_st (jx_fok (by decide +kernel : decode (jx_mb 9) 1 = .ok (.aload_n 0, 1))) rfl rfl rfl
  · exact fun d lv st M Q k hk => jx_k_gf (jx_fok (by decide +kernel : decode (jx_mb 9) 2 = .ok (.getfield 27, 3))) rfl hk rfl
  · exact fun d lv st M Q x z => jx_ev_st (jx_fok (by decide +kernel : decode (jx_mb 9) 5 = .ok (.ishl, 1))) rfl rfl rfl
  · exact fun d lv st M Q => jx_ev_st (jx_fok (by decide +kernel : decode (jx_mb 9) 6 = .ok (.iconst 1, 1))) rfl rfl rfl
  · exact fun d lv st M Q x z => jx_ev_st (jx_fok (by decide +kernel : decode (jx_mb 9) 7 = .ok (.isub, 1))) rfl rfl rfl
  · exact fun d lv M Q x => jx_k_ri (jx_fok (by decide +kernel : decode (jx_mb 9) 8 = .ok (.ireturn, 1))) rfl
theorem kX1_everybody (d : Nat) (M : jx_M) (q : Int32 → jx_M → Prop) (a0 : Value) : jx_I d 9 [a0] M q ↔ jx_Ev d 9 0 [some a0] [] M (jx_qI q) := Iff.rfl
set_option maxRecDepth 100000 in
theorem eX1_loudness :
  (∀ (d : Nat) (st : List Value) (M : jx_M) (Q : jx_Po) (l1 l2 l3 : Option Value) (x : Nat), jx_Ev d 10 0 [some (.ref x), l1, l2, l3] st M Q ↔ jx_Ev d 10 1 [some (.ref x), l1, l2, l3] (.ref x :: st) M Q) ∧
  (∀ (d : Nat) (st : List Value) (M : jx_M) (Q : jx_Po) (l0 l2 l3 : Option Value) (x : Int32), jx_Ev d 10 1 [l0, some (.int x), l2, l3] st M Q ↔ jx_Ev d 10 2 [l0, some (.int x), l2, l3] (.int x :: st) M Q) ∧
  (∀ (d : Nat) (lv : List (Option Value)) (M : jx_M) (Q : jx_Po) (a0 : Int32) (a1 : Nat) (hk : jx_cl a1 = 1), jx_Ev (d + 1) 10 2 lv [.int a0, .ref a1] M Q ↔ jx_I d 6 [.ref a1, .int a0] M (fun x M => jx_Ev (d + 1) 10 5 lv (.int x :: []) M Q)) ∧
  (∀ (d : Nat) (lv : List (Option Value)) (st : List Value) (M : jx_M) (Q : jx_Po) (x : Int32), jx_Ev d 10 5 lv (.int x :: st) M Q ↔ (if x = 0 then jx_Ev d 10 8 lv st M Q else jx_Ev d 10 10 lv st M Q)) ∧
  (∀ (d : Nat) (lv : List (Option Value)) (st : List Value) (M : jx_M) (Q : jx_Po), jx_Ev d 10 8 lv st M Q ↔ jx_Ev d 10 9 lv (.int 0 :: st) M Q) ∧
  (∀ (d : Nat) (lv : List (Option Value)) (M : jx_M) (Q : jx_Po) (x : Int32), jx_Ev d 10 9 lv [.int x] M Q ↔ Q [.int x] M) ∧
  (∀ (d : Nat) (st : List Value) (M : jx_M) (Q : jx_Po) (l1 l2 l3 : Option Value) (x : Nat), jx_Ev d 10 10 [some (.ref x), l1, l2, l3] st M Q ↔ jx_Ev d 10 11 [some (.ref x), l1, l2, l3] (.ref x :: st) M Q) ∧
  (∀ (d : Nat) (lv : List (Option Value)) (st : List Value) (M : jx_M) (Q : jx_Po) (k : Nat) (hk : jx_cl k = 1), jx_Ev d 10 11 lv (.ref k :: st) M Q ↔ jx_Ev d 10 14 lv (.ref (k + 4) :: st) M Q) ∧
  (∀ (d : Nat) (st : List Value) (M : jx_M) (Q : jx_Po) (l0 l2 l3 : Option Value) (x : Int32), jx_Ev d 10 14 [l0, some (.int x), l2, l3] st M Q ↔ jx_Ev d 10 15 [l0, some (.int x), l2, l3] (.int x :: st) M Q) ∧
  (∀ (d : Nat) (lv : List (Option Value)) (st : List Value) (M : jx_M) (Q : jx_Po) (x : Int32) (a : Nat) (ha : jx_cl a = 9), jx_Ev d 10 15 lv (.int x :: .ref a :: st) M Q ↔ (vp_in x (jx_sz a) ∧ jx_Ev d 10 16 lv (.int (M a x.toNatClampNeg) :: st) M Q)) ∧
  (∀ (d : Nat) (st : List Value) (M : jx_M) (Q : jx_Po) (l1 l2 l3 : Option Value) (x : Nat), jx_Ev d 10 16 [some (.ref x), l1, l2, l3] st M Q ↔ jx_Ev d 10 17 [some (.ref x), l1, l2, l3] (.ref x :: st) M Q) ∧
  (∀ (d : Nat) (lv : List (Option Value)) (st : List Value) (M : jx_M) (Q : jx_Po) (k : Nat) (hk : jx_cl k = 1), jx_Ev d 10 17 lv (.ref k :: st) M Q ↔ jx_Ev d 10 20 lv (.int (M k 7) :: st) M Q) ∧
  (∀ (d : Nat) (st : List Value) (M : jx_M) (Q : jx_Po) (l0 l1 l3 : Option Value) (x : Int32), jx_Ev d 10 20 [l0, l1, some (.int x), l3] st M Q ↔ jx_Ev d 10 21 [l0, l1, some (.int x), l3] (.int x :: st) M Q) ∧
  (∀ (d : Nat) (lv : List (Option Value)) (st : List Value) (M : jx_M) (Q : jx_Po) (x z : Int32), jx_Ev d 10 21 lv (.int z :: .int x :: st) M Q ↔ jx_Ev d 10 22 lv (.int (x * z) :: st) M Q) ∧
  (∀ (d : Nat) (lv : List (Option Value)) (st : List Value) (M : jx_M) (Q : jx_Po) (x z : Int32), jx_Ev d 10 22 lv (.int z :: .int x :: st) M Q ↔ jx_Ev d 10 23 lv (.int (x + z) :: st) M Q) ∧
  (∀ (d : Nat) (st : List Value) (M : jx_M) (Q : jx_Po) (l0 l1 l2 l3 : Option Value) (x : Int32), jx_Ev d 10 23 [l0, l1, l2, l3] (.int x :: st) M Q ↔ jx_Ev d 10 24 [l0, l1, l2, some (.int x)] st M Q) ∧
  (∀ (d : Nat) (st : List Value) (M : jx_M) (Q : jx_Po) (l1 l2 l3 : Option Value) (x : Nat), jx_Ev d 10 24 [some (.ref x), l1, l2, l3] st M Q ↔ jx_Ev d 10 25 [some (.ref x), l1, l2, l3] (.ref x :: st) M Q) ∧
  (∀ (d : Nat) (lv : List (Option Value)) (st : List Value) (M : jx_M) (Q : jx_Po) (k : Nat) (hk : jx_cl k = 1), jx_Ev d 10 25 lv (.ref k :: st) M Q ↔ jx_Ev d 10 28 lv (.ref (k + 3) :: st) M Q) ∧
  (∀ (d : Nat) (st : List Value) (M : jx_M) (Q : jx_Po) (l0 l2 l3 : Option Value) (x : Int32), jx_Ev d 10 28 [l0, some (.int x), l2, l3] st M Q ↔ jx_Ev d 10 29 [l0, some (.int x), l2, l3] (.int x :: st) M Q) ∧
  (∀ (d : Nat) (lv : List (Option Value)) (st : List Value) (M : jx_M) (Q : jx_Po) (x : Int32) (a : Nat) (ha : jx_cl a = 9), jx_Ev d 10 29 lv (.int x :: .ref a :: st) M Q ↔ (vp_in x (jx_sz a) ∧ jx_Ev d 10 30 lv (.int (M a x.toNatClampNeg) :: st) M Q)) ∧
  (∀ (d : Nat) (lv : List (Option Value)) (st : List Value) (M : jx_M) (Q : jx_Po), jx_Ev d 10 30 lv st M Q ↔ jx_Ev d 10 31 lv (.int 2 :: st) M Q) ∧
  (∀ (d : Nat) (lv : List (Option Value)) (st : List Value) (M : jx_M) (Q : jx_Po) (x z : Int32), jx_Ev d 10 31 lv (.int z :: .int x :: st) M Q ↔ (if x = z then jx_Ev d 10 34 lv st M Q else jx_Ev d 10 38 lv st M Q)) ∧
  (∀ (d : Nat) (lv : List (Option Value)) (st : List Value) (M : jx_M) (Q : jx_Po), jx_Ev d 10 34 lv st M Q ↔ jx_Ev d 10 35 lv (.int 2 :: st) M Q) ∧
  (∀ (d : Nat) (st : List Value) (M : jx_M) (Q : jx_Po) (l0 l1 l2 : Option Value) (x : Int32), jx_Ev d 10 35 [l0, l1, l2, some (.int x)] st M Q ↔ jx_Ev d 10 36 [l0, l1, l2, some (.int x)] (.int x :: st) M Q) ∧
  (∀ (d : Nat) (lv : List (Option Value)) (st : List Value) (M : jx_M) (Q : jx_Po) (x z : Int32), jx_Ev d 10 36 lv (.int z :: .int x :: st) M Q ↔ jx_Ev d 10 37 lv (.int (x * z) :: st) M Q) ∧
  (∀ (d : Nat) (lv : List (Option Value)) (M : jx_M) (Q : jx_Po) (x : Int32), jx_Ev d 10 37 lv [.int x] M Q ↔ Q [.int x] M) ∧
  (∀ (d : Nat) (st : List Value) (M : jx_M) (Q : jx_Po) (l1 l2 l3 : Option Value) (x : Nat), jx_Ev d 10 38 [some (.ref x), l1, l2, l3] st M Q ↔ jx_Ev d 10 39 [some (.ref x), l1, l2, l3] (.ref x :: st) M Q) ∧
  (∀ (d : Nat) (lv : List (Option Value)) (st : List Value) (M : jx_M) (Q : jx_Po) (k : Nat) (hk : jx_cl k = 1), jx_Ev d 10 39 lv (.ref k :: st) M Q ↔ jx_Ev d 10 42 lv (.ref (k + 3) :: st) M Q) ∧
  (∀ (d : Nat) (st : List Value) (M : jx_M) (Q : jx_Po) (l0 l2 l3 : Option Value) (x : Int32), jx_Ev d 10 42 [l0, some (.int x), l2, l3] st M Q ↔ jx_Ev d 10 43 [l0, some (.int x), l2, l3] (.int x :: st) M Q) ∧
  (∀ (d : Nat) (lv : List (Option Value)) (st : List Value) (M : jx_M) (Q : jx_Po) (x : Int32) (a : Nat) (ha : jx_cl a = 9), jx_Ev d 10 43 lv (.int x :: .ref a :: st) M Q ↔ (vp_in x (jx_sz a) ∧ jx_Ev d 10 44 lv (.int (M a x.toNatClampNeg) :: st) M Q)) ∧
  (∀ (d : Nat) (lv : List (Option Value)) (st : List Value) (M : jx_M) (Q : jx_Po), jx_Ev d 10 44 lv st M Q ↔ jx_Ev d 10 45 lv (.int 1 :: st) M Q) ∧
  (∀ (d : Nat) (lv : List (Option Value)) (st : List Value) (M : jx_M) (Q : jx_Po) (x z : Int32), jx_Ev d 10 45 lv (.int z :: .int x :: st) M Q ↔ (if x = z then jx_Ev d 10 48 lv st M Q else jx_Ev d 10 54 lv st M Q)) ∧
  (∀ (d : Nat) (st : List Value) (M : jx_M) (Q : jx_Po) (l0 l1 l2 : Option Value) (x : Int32), jx_Ev d 10 48 [l0, l1, l2, some (.int x)] st M Q ↔ jx_Ev d 10 49 [l0, l1, l2, some (.int x)] (.int x :: st) M Q) ∧
  (∀ (d : Nat) (lv : List (Option Value)) (st : List Value) (M : jx_M) (Q : jx_Po), jx_Ev d 10 49 lv st M Q ↔ jx_Ev d 10 50 lv (.int 1 :: st) M Q) ∧
  (∀ (d : Nat) (lv : List (Option Value)) (st : List Value) (M : jx_M) (Q : jx_Po) (x z : Int32), jx_Ev d 10 50 lv (.int z :: .int x :: st) M Q ↔ jx_Ev d 10 51 lv (.int (x - z) :: st) M Q) ∧
  (∀ (d : Nat) (lv : List (Option Value)) (st : List Value) (M : jx_M) (Q : jx_Po), jx_Ev d 10 51 lv st M Q ↔ jx_Ev d 10 55 lv st M Q) ∧
  (∀ (d : Nat) (st : List Value) (M : jx_M) (Q : jx_Po) (l0 l1 l2 : Option Value) (x : Int32), jx_Ev d 10 54 [l0, l1, l2, some (.int x)] st M Q ↔ jx_Ev d 10 55 [l0, l1, l2, some (.int x)] (.int x :: st) M Q) ∧
  (∀ (d : Nat) (lv : List (Option Value)) (M : jx_M) (Q : jx_Po) (x : Int32), jx_Ev d 10 55 lv [.int x] M Q ↔ Q [.int x] M) := by
  refine ⟨?_, ?_, ?_, ?_, ?_, ?_, ?_, ?_, ?_, ?_, ?_, ?_, ?_, ?_, ?_, ?_, ?_, ?_, ?_, ?_, ?_, ?_, ?_, ?_, ?_, ?_, ?_, ?_, ?_, ?_, ?_, ?_, ?_, ?_, ?_, ?_, ?_, ?_⟩
  · exact fun d st M Q l1 l2 l3 x => jx_ev_st (jx_fok (by decide +kernel : decode (jx_mb 10) 0 = .ok (.aload_n 0, 1))) rfl rfl rfl
  · exact fun d st M Q l0 l2 l3 x => jx_ev_st (jx_fok (by decide +kernel : decode (jx_mb 10) 1 = .ok (.iload_n 1, 1))) rfl rfl rfl
  · exact fun d lv M Q a0 a1 hk => jx_ev_ci (jx_fok (by decide +kernel : decode (jx_mb 10) 2 = .ok (.invokevirtual 40, 3))) rfl (jx_ccV (As := [.int a0]) (rest := []) rfl rfl rfl hk rfl rfl) (by decide)
  · exact fun d lv st M Q x => jx_k_b1n (jx_fok (by decide +kernel : decode (jx_mb 10) 5 = .ok (.ifCond .ne 5, 3))) rfl jx_hNe
  · exact fun d lv st M Q => jx_ev_st (jx_fok (by decide +kernel : decode (jx_mb 10) 8 = .ok (.iconst 0, 1))) rfl rfl rfl
  · exact fun d lv M Q x => jx_k_ri (jx_fok (by decide +kernel : decode (jx_mb 10) 9 = .ok (.ireturn, 1))) rfl
  · exact fun d st M Q l1 l2 l3 x => jx_ev_st (jx_fok (by decide +kernel : decode (jx_mb 10) 10 = .ok (.aload_n 0, 1))) rfl rfl rfl
  · exact fun d lv st M Q k hk => jx_k_gf (jx_fok (by decide +kernel : decode (jx_mb 10) 11 = .ok (.getfield 21, 3))) rfl hk rfl
  · exact fun d st M Q l0 l2 l3 x => jx_ev_st (jx_fok (by decide +kernel : decode (jx_mb 10) 14 = .ok (.iload_n 1, 1))) rfl rfl rfl
  · exact fun d lv st M Q x a ha => jx_k_al (jx_fok (by decide +kernel : decode (jx_mb 10) 15 = .ok (.iaload, 1))) ha
  · exact fun d st M Q l1 l2 l3 x => jx_ev_st (jx_fok (by decide +kernel : decode (jx_mb 10) 16 = .ok (.aload_n 0, 1))) rfl rfl rfl
  · exact fun d lv st M Q k hk => jx_k_gf (jx_fok (by decide +kernel : decode (jx_mb 10) 17 = .ok (.getfield 34, 3))) rfl hk rfl
  · exact fun d st M Q l0 l1 l3 x => jx_ev_st (jx_fok (by decide +kernel : decode (jx_mb 10) 20 = .ok (.iload_n 2, 1))) rfl rfl rfl
  · exact fun d lv st M Q x z => jx_ev_st (jx_fok (by decide +kernel : decode (jx_mb 10) 21 = .ok (.imul, 1))) rfl rfl rfl
  · exact fun d lv st M Q x z => jx_ev_st (jx_fok (by decide +kernel : decode (jx_mb 10) 22 = .ok (.iadd, 1))) rfl rfl rfl
  · exact fun d st M Q l0 l1 l2 l3 x => jx_ev_st (jx_fok (by decide +kernel : decode (jx_mb 10) 23 = .ok (.istore_n 3, 1))) rfl rfl rfl
  · exact fun d st M Q l1 l2 l3 x => jx_ev_st (jx_fok (by decide +kernel : decode (jx_mb 10) 24 = .ok (.aload_n 0, 1))) rfl rfl rfl
  · exact fun d lv st M Q k hk => jx_k_gf (jx_fok (by decide +kernel : decode (jx_mb 10) 25 = .ok (.getfield 18, 3))) rfl hk rfl
  · exact fun d st M Q l0 l2 l3 x => jx_ev_st (jx_fok (by decide +kernel : decode (jx_mb 10) 28 = .ok (.iload_n 1, 1))) rfl rfl rfl
  · exact fun d lv st M Q x a ha => jx_k_al (jx_fok (by decide +kernel : decode (jx_mb 10) 29 = .ok (.iaload, 1))) ha
  · exact fun d lv st M Q => jx_ev_st (jx_fok (by decide +kernel : decode (jx_mb 10) 30 = .ok (.iconst 2, 1))) rfl rfl rfl
  · exact fun d lv st M Q x z => jx_k_b2n (jx_fok (by decide +kernel : decode (jx_mb 10) 31 = .ok (.if_icmp .ne 7, 3))) rfl jx_hNe
  · exact fun d lv st M Q => jx_ev_st (jx_fok (by decide +kernel : decode (jx_mb 10) 34 = .ok (.iconst 2, 1))) rfl rfl rfl
  · exact fun d st M Q l0 l1 l2 x => jx_ev_st (jx_fok (by decide +kernel : decode (jx_mb 10) 35 = .ok (.iload_n 3, 1))) rfl rfl rfl
  · exact fun d lv st M Q x z => jx_ev_st (jx_fok (by decide +kernel : decode (jx_mb 10) 36 = .ok (.imul, 1))) rfl rfl rfl
  · exact fun d lv M Q x => jx_k_ri (jx_fok (by decide +kernel : decode (jx_mb 10) 37 = .ok (.ireturn, 1))) rfl
  · exact fun d st M Q l1 l2 l3 x => jx_ev_st (jx_fok (by decide +kernel : decode (jx_mb 10) 38 = .ok (.aload_n 0, 1))) rfl rfl rfl
  · exact fun d lv st M Q k hk => jx_k_gf (jx_fok (by decide +kernel : decode (jx_mb 10) 39 = .ok (.getfield 18, 3))) rfl hk rfl
  · exact fun d st M Q l0 l2 l3 x => jx_ev_st (jx_fok (by decide +kernel : decode (jx_mb 10) 42 = .ok (.iload_n 1, 1))) rfl rfl rfl
  · exact fun d lv st M Q x a ha => jx_k_al (jx_fok (by decide +kernel : decode (jx_mb 10) 43 = .ok (.iaload, 1))) ha
  · exact fun d lv st M Q => jx_ev_st (jx_fok (by decide +kernel : decode (jx_mb 10) 44 = .ok (.iconst 1, 1))) rfl rfl rfl
  · exact fun d lv st M Q x z => jx_k_b2n (jx_fok (by decide +kernel : decode (jx_mb 10) 45 = .ok (.if_icmp .ne 9, 3))) rfl jx_hNe
  · exact fun d st M Q l0 l1 l2 x => jx_ev_st (jx_fok (by decide +kernel : decode (jx_mb 10) 48 = .ok (.iload_n 3, 1))) rfl rfl rfl
  · exact fun d lv st M Q => jx_ev_st (jx_fok (by decide +kernel : decode (jx_mb 10) 49 = .ok (.iconst 1, 1))) rfl rfl rfl
  · exact fun d lv st M Q x z => jx_ev_st (jx_fok (by decide +kernel : decode (jx_mb 10) 50 = .ok (.isub, 1))) rfl rfl rfl
  · exact fun d lv st M Q => jx_k_goto (jx_fok (by decide +kernel : decode (jx_mb 10) 51 = .ok (.goto 4, 3))) rfl
  · exact fun d st M Q l0 l1 l2 x => jx_ev_st (jx_fok (by decide +kernel : decode (jx_mb 10) 54 = .ok (.iload_n 3, 1))) rfl rfl rfl
  · exact fun d lv M Q x => jx_k_ri (jx_fok (by decide +kernel : decode (jx_mb 10) 55 = .ok (.ireturn, 1))) rfl
theorem kX1_loudness (d : Nat) (M : jx_M) (q : Int32 → jx_M → Prop) (a0 a1 a2 : Value) : jx_I d 10 [a0, a1, a2] M q ↔ jx_Ev d 10 0 [some a0, some a1, some a2, none] [] M (jx_qI q) := Iff.rfl
set_option maxRecDepth 100000 in
theorem eX1_takerOf :
  (∀ (d : Nat) (st : List Value) (M : jx_M) (Q : jx_Po) (l1 l2 l3 l4 l5 l6 : Option Value) (x : Nat), jx_Ev d 11 0 [some (.ref x), l1, l2, l3, l4, l5, l6] st M Q ↔ jx_Ev d 11 1 [some (.ref x), l1, l2, l3, l4, l5, l6] (.ref x :: st) M Q) ∧
  (∀ (d : Nat) (st : List Value) (M : jx_M) (Q : jx_Po) (l0 l2 l3 l4 l5 l6 : Option Value) (x : Int32), jx_Ev d 11 1 [l0, some (.int x), l2, l3, l4, l5, l6] st M Q ↔ jx_Ev d 11 2 [l0, some (.int x), l2, l3, l4, l5, l6] (.int x :: st) M Q) ∧
  (∀ (d : Nat) (lv : List (Option Value)) (M : jx_M) (Q : jx_Po) (a0 : Int32) (a1 : Nat) (hk : jx_cl a1 = 1), jx_Ev (d + 1) 11 2 lv [.int a0, .ref a1] M Q ↔ jx_I d 6 [.ref a1, .int a0] M (fun x M => jx_Ev (d + 1) 11 5 lv (.int x :: []) M Q)) ∧
  (∀ (d : Nat) (lv : List (Option Value)) (st : List Value) (M : jx_M) (Q : jx_Po) (x : Int32), jx_Ev d 11 5 lv (.int x :: st) M Q ↔ (if x = 0 then jx_Ev d 11 8 lv st M Q else jx_Ev d 11 11 lv st M Q)) ∧
  (∀ (d : Nat) (lv : List (Option Value)) (st : List Value) (M : jx_M) (Q : jx_Po), jx_Ev d 11 8 lv st M Q ↔ jx_Ev d 11 10 lv (.int (-9) :: st) M Q) ∧
  (∀ (d : Nat) (lv : List (Option Value)) (M : jx_M) (Q : jx_Po) (x : Int32), jx_Ev d 11 10 lv [.int x] M Q ↔ Q [.int x] M) ∧
  (∀ (d : Nat) (st : List Value) (M : jx_M) (Q : jx_Po) (l1 l2 l3 l4 l5 l6 : Option Value) (x : Nat), jx_Ev d 11 11 [some (.ref x), l1, l2, l3, l4, l5, l6] st M Q ↔ jx_Ev d 11 12 [some (.ref x), l1, l2, l3, l4, l5, l6] (.ref x :: st) M Q) ∧
  (∀ (d : Nat) (st : List Value) (M : jx_M) (Q : jx_Po) (l0 l2 l3 l4 l5 l6 : Option Value) (x : Int32), jx_Ev d 11 12 [l0, some (.int x), l2, l3, l4, l5, l6] st M Q ↔ jx_Ev d 11 13 [l0, some (.int x), l2, l3, l4, l5, l6] (.int x :: st) M Q) ∧
  (∀ (d : Nat) (st : List Value) (M : jx_M) (Q : jx_Po) (l0 l1 l3 l4 l5 l6 : Option Value) (x : Int32), jx_Ev d 11 13 [l0, l1, some (.int x), l3, l4, l5, l6] st M Q ↔ jx_Ev d 11 14 [l0, l1, some (.int x), l3, l4, l5, l6] (.int x :: st) M Q) ∧
  (∀ (d : Nat) (lv : List (Option Value)) (M : jx_M) (Q : jx_Po) (a0 : Int32) (a1 : Int32) (a2 : Nat) (hk : jx_cl a2 = 1), jx_Ev (d + 1) 11 14 lv [.int a0, .int a1, .ref a2] M Q ↔ jx_I d 10 [.ref a2, .int a1, .int a0] M (fun x M => jx_Ev (d + 1) 11 17 lv (.int x :: []) M Q)) ∧
  (∀ (d : Nat) (st : List Value) (M : jx_M) (Q : jx_Po) (l0 l1 l2 l3 l4 l5 l6 : Option Value) (x : Int32), jx_Ev d 11 17 [l0, l1, l2, l3, l4, l5, l6] (.int x :: st) M Q ↔ jx_Ev d 11 19 [l0, l1, l2, l3, some (.int x), l5, l6] st M Q) ∧
  (∀ (d : Nat) (st : List Value) (M : jx_M) (Q : jx_Po) (l1 l2 l3 l4 l5 l6 : Option Value) (x : Nat), jx_Ev d 11 19 [some (.ref x), l1, l2, l3, l4, l5, l6] st M Q ↔ jx_Ev d 11 20 [some (.ref x), l1, l2, l3, l4, l5, l6] (.ref x :: st) M Q) ∧
  (∀ (d : Nat) (lv : List (Option Value)) (st : List Value) (M : jx_M) (Q : jx_Po) (k : Nat) (hk : jx_cl k = 1), jx_Ev d 11 20 lv (.ref k :: st) M Q ↔ jx_Ev d 11 23 lv (.ref (k + 5) :: st) M Q) ∧
  (∀ (d : Nat) (st : List Value) (M : jx_M) (Q : jx_Po) (l0 l2 l3 l4 l5 l6 : Option Value) (x : Int32), jx_Ev d 11 23 [l0, some (.int x), l2, l3, l4, l5, l6] st M Q ↔ jx_Ev d 11 24 [l0, some (.int x), l2, l3, l4, l5, l6] (.int x :: st) M Q) ∧
  (∀ (d : Nat) (lv : List (Option Value)) (st : List Value) (M : jx_M) (Q : jx_Po) (x : Int32) (a : Nat) (ha : jx_cl a = 9), jx_Ev d 11 24 lv (.int x :: .ref a :: st) M Q ↔ (vp_in x (jx_sz a) ∧ jx_Ev d 11 25 lv (.int (M a x.toNatClampNeg) :: st) M Q)) ∧
  (∀ (d : Nat) (st : List Value) (M : jx_M) (Q : jx_Po) (l0 l1 l2 l3 l4 l5 l6 : Option Value) (x : Int32), jx_Ev d 11 25 [l0, l1, l2, l3, l4, l5, l6] (.int x :: st) M Q ↔ jx_Ev d 11 27 [l0, l1, l2, l3, l4, some (.int x), l6] st M Q) ∧
  (∀ (d : Nat) (lv : List (Option Value)) (st : List Value) (M : jx_M) (Q : jx_Po), jx_Ev d 11 27 lv st M Q ↔ jx_Ev d 11 28 lv (.int 0 :: st) M Q) ∧
  (∀ (d : Nat) (st : List Value) (M : jx_M) (Q : jx_Po) (l0 l1 l2 l3 l4 l5 l6 : Option Value) (x : Int32), jx_Ev d 11 28 [l0, l1, l2, l3, l4, l5, l6] (.int x :: st) M Q ↔ jx_Ev d 11 30 [l0, l1, l2, l3, l4, l5, some (.int x)] st M Q) ∧
  (∀ (d : Nat) (lv : List (Option Value)) (st : List Value) (M : jx_M) (Q : jx_Po), jx_Ev d 11 32 lv st M Q ↔ jx_Ev d 11 33 lv (.int 5 :: st) M Q) ∧
  (∀ (d : Nat) (lv : List (Option Value)) (st : List Value) (M : jx_M) (Q : jx_Po) (x z : Int32), jx_Ev d 11 33 lv (.int z :: .int x :: st) M Q ↔ (if z ≤ x then jx_Ev d 11 84 lv st M Q else jx_Ev d 11 36 lv st M Q)) ∧
  (∀ (d : Nat) (st : List Value) (M : jx_M) (Q : jx_Po) (l1 l2 l3 l4 l5 l6 : Option Value) (x : Nat), jx_Ev d 11 36 [some (.ref x), l1, l2, l3, l4, l5, l6] st M Q ↔ jx_Ev d 11 37 [some (.ref x), l1, l2, l3, l4, l5, l6] (.ref x :: st) M Q) ∧
  (∀ (d : Nat) (st : List Value) (M : jx_M) (Q : jx_Po) (l0 l1 l2 l3 l4 l6 : Option Value) (x : Int32), jx_Ev d 11 37 [l0, l1, l2, l3, l4, some (.int x), l6] st M Q ↔ jx_Ev d 11 39 [l0, l1, l2, l3, l4, some (.int x), l6] (.int x :: st) M Q) ∧
  (∀ (d : Nat) (lv : List (Option Value)) (M : jx_M) (Q : jx_Po) (a0 : Int32) (a1 : Nat) (hk : jx_cl a1 = 1), jx_Ev (d + 1) 11 39 lv [.int a0, .ref a1] M Q ↔ jx_I d 5 [.ref a1, .int a0] M (fun x M => jx_Ev (d + 1) 11 42 lv (.int x :: []) M Q)) ∧
  (∀ (d : Nat) (lv : List (Option Value)) (st : List Value) (M : jx_M) (Q : jx_Po) (x : Int32), jx_Ev d 11 42 lv (.int x :: st) M Q ↔ (if x = 0 then jx_Ev d 11 84 lv st M Q else jx_Ev d 11 45 lv st M Q)) ∧
  (∀ (d : Nat) (st : List Value) (M : jx_M) (Q : jx_Po) (l0 l1 l2 l4 l5 l6 : Option Value) (x : Int32), jx_Ev d 11 45 [l0, l1, l2, some (.int x), l4, l5, l6] st M Q ↔ jx_Ev d 11 46 [l0, l1, l2, some (.int x), l4, l5, l6] (.int x :: st) M Q) ∧
  (∀ (d : Nat) (st : List Value) (M : jx_M) (Q : jx_Po) (l0 l1 l2 l3 l4 l6 : Option Value) (x : Int32), jx_Ev d 11 46 [l0, l1, l2, l3, l4, some (.int x), l6] st M Q ↔ jx_Ev d 11 48 [l0, l1, l2, l3, l4, some (.int x), l6] (.int x :: st) M Q) ∧
  (∀ (d : Nat) (lv : List (Option Value)) (st : List Value) (M : jx_M) (Q : jx_Po) (x z : Int32), jx_Ev d 11 48 lv (.int z :: .int x :: st) M Q ↔ jx_Ev d 11 49 lv (.int (x >>> (z &&& 31)) :: st) M Q) ∧
  (∀ (d : Nat) (lv : List (Option Value)) (st : List Value) (M : jx_M) (Q : jx_Po), jx_Ev d 11 49 lv st M Q ↔ jx_Ev d 11 50 lv (.int 1 :: st) M Q) ∧
  (∀ (d : Nat) (lv : List (Option Value)) (st : List Value) (M : jx_M) (Q : jx_Po) (x z : Int32), jx_Ev d 11 50 lv (.int z :: .int x :: st) M Q ↔ jx_Ev d 11 51 lv (.int (x &&& z) :: st) M Q) ∧
  (∀ (d : Nat) (lv : List (Option Value)) (st : List Value) (M : jx_M) (Q : jx_Po) (x : Int32), jx_Ev d 11 51 lv (.int x :: st) M Q ↔ (if x = 0 then jx_Ev d 11 69 lv st M Q else jx_Ev d 11 54 lv st M Q)) ∧
  (∀ (d : Nat) (st : List Value) (M : jx_M) (Q : jx_Po) (l0 l1 l2 l3 l5 l6 : Option Value) (x : Int32), jx_Ev d 11 54 [l0, l1, l2, l3, some (.int x), l5, l6] st M Q ↔ jx_Ev d 11 56 [l0, l1, l2, l3, some (.int x), l5, l6] (.int x :: st) M Q) ∧
  (∀ (d : Nat) (st : List Value) (M : jx_M) (Q : jx_Po) (l1 l2 l3 l4 l5 l6 : Option Value) (x : Nat), jx_Ev d 11 56 [some (.ref x), l1, l2, l3, l4, l5, l6] st M Q ↔ jx_Ev d 11 57 [some (.ref x), l1, l2, l3, l4, l5, l6] (.ref x :: st) M Q) ∧
  (∀ (d : Nat) (lv : List (Option Value)) (st : List Value) (M : jx_M) (Q : jx_Po) (k : Nat) (hk : jx_cl k = 1), jx_Ev d 11 57 lv (.ref k :: st) M Q ↔ jx_Ev d 11 60 lv (.ref (k + 1) :: st) M Q) ∧
  (∀ (d : Nat) (st : List Value) (M : jx_M) (Q : jx_Po) (l0 l1 l2 l3 l4 l6 : Option Value) (x : Int32), jx_Ev d 11 60 [l0, l1, l2, l3, l4, some (.int x), l6] st M Q ↔ jx_Ev d 11 62 [l0, l1, l2, l3, l4, some (.int x), l6] (.int x :: st) M Q) ∧
  (∀ (d : Nat) (lv : List (Option Value)) (st : List Value) (M : jx_M) (Q : jx_Po) (x : Int32) (a : Nat) (ha : jx_cl a = 9), jx_Ev d 11 62 lv (.int x :: .ref a :: st) M Q ↔ (vp_in x (jx_sz a) ∧ jx_Ev d 11 63 lv (.int (M a x.toNatClampNeg) :: st) M Q)) ∧
  (∀ (d : Nat) (lv : List (Option Value)) (st : List Value) (M : jx_M) (Q : jx_Po) (x z : Int32), jx_Ev d 11 63 lv (.int z :: .int x :: st) M Q ↔ (if z < x then jx_Ev d 11 69 lv st M Q else jx_Ev d 11 66 lv st M Q)) ∧
  (∀ (d : Nat) (st : List Value) (M : jx_M) (Q : jx_Po) (l0 l1 l2 l3 l4 l6 : Option Value) (x : Int32), jx_Ev d 11 66 [l0, l1, l2, l3, l4, some (.int x), l6] st M Q ↔ jx_Ev d 11 68 [l0, l1, l2, l3, l4, some (.int x), l6] (.int x :: st) M Q) ∧
  (∀ (d : Nat) (lv : List (Option Value)) (M : jx_M) (Q : jx_Po) (x : Int32), jx_Ev d 11 68 lv [.int x] M Q ↔ Q [.int x] M) ∧
  (∀ (d : Nat) (st : List Value) (M : jx_M) (Q : jx_Po) (l1 l2 l3 l4 l5 l6 : Option Value) (x : Nat), jx_Ev d 11 69 [some (.ref x), l1, l2, l3, l4, l5, l6] st M Q ↔ jx_Ev d 11 70 [some (.ref x), l1, l2, l3, l4, l5, l6] (.ref x :: st) M Q) ∧
  (∀ (d : Nat) (lv : List (Option Value)) (st : List Value) (M : jx_M) (Q : jx_Po) (k : Nat) (hk : jx_cl k = 1), jx_Ev d 11 70 lv (.ref k :: st) M Q ↔ jx_Ev d 11 73 lv (.ref (k + 2) :: st) M Q) ∧
  (∀ (d : Nat) (st : List Value) (M : jx_M) (Q : jx_Po) (l0 l1 l2 l3 l4 l6 : Option Value) (x : Int32), jx_Ev d 11 73 [l0, l1, l2, l3, l4, some (.int x), l6] st M Q ↔ jx_Ev d 11 75 [l0, l1, l2, l3, l4, some (.int x), l6] (.int x :: st) M Q) ∧
  (∀ (d : Nat) (lv : List (Option Value)) (st : List Value) (M : jx_M) (Q : jx_Po) (x : Int32) (a : Nat) (ha : jx_cl a = 9), jx_Ev d 11 75 lv (.int x :: .ref a :: st) M Q ↔ (vp_in x (jx_sz a) ∧ jx_Ev d 11 76 lv (.int (M a x.toNatClampNeg) :: st) M Q)) ∧
  (∀ (d : Nat) (st : List Value) (M : jx_M) (Q : jx_Po) (l0 l1 l2 l3 l4 l5 l6 : Option Value) (x : Int32), jx_Ev d 11 76 [l0, l1, l2, l3, l4, l5, l6] (.int x :: st) M Q ↔ jx_Ev d 11 78 [l0, l1, l2, l3, l4, some (.int x), l6] st M Q) ∧
  (∀ (d : Nat) (st : List Value) (M : jx_M) (Q : jx_Po) (l0 l1 l2 l3 l4 l5 : Option Value) (x : Int32), jx_Ev d 11 78 [l0, l1, l2, l3, l4, l5, some (.int x)] st M Q ↔ jx_Ev d 11 81 [l0, l1, l2, l3, l4, l5, some (.int (x + 1))] st M Q) ∧
  (∀ (d : Nat) (lv : List (Option Value)) (st : List Value) (M : jx_M) (Q : jx_Po), jx_Ev d 11 81 lv st M Q ↔ jx_Ev d 11 30 lv st M Q) ∧
  (∀ (d : Nat) (lv : List (Option Value)) (st : List Value) (M : jx_M) (Q : jx_Po), jx_Ev d 11 84 lv st M Q ↔ jx_Ev d 11 86 lv (.int (-9) :: st) M Q) ∧
  (∀ (d : Nat) (lv : List (Option Value)) (M : jx_M) (Q : jx_Po) (x : Int32), jx_Ev d 11 86 lv [.int x] M Q ↔ Q [.int x] M) := by
  refine ⟨?_, ?_, ?_, ?_, ?_, ?_, ?_, ?_, ?_, ?_, ?_, ?_, ?_, ?_, ?_, ?_, ?_, ?_, ?_, ?_, ?_, ?_, ?_, ?_, ?_, ?_, ?_, ?_, ?_, ?_, ?_, ?_, ?_, ?_, ?_, ?_, ?_, ?_, ?_, ?_, ?_, ?_, ?_, ?_, ?_, ?_, ?_⟩
  · exact fun d st M Q l1 l2 l3 l4 l5 l6 x => jx_ev_st (jx_fok (by decide +kernel : decode (jx_mb 11) 0 = .ok (.aload_n 0, 1))) rfl rfl rfl
  · exact fun d st M Q l0 l2 l3 l4 l5 l6 x => jx_ev_st (jx_fok (by decide +kernel : decode (jx_mb 11) 1 = .ok (.iload_n 1, 1))) rfl rfl rfl
  · exact fun d lv M Q a0 a1 hk => jx_ev_ci (jx_fok (by decide +kernel : decode (jx_mb 11) 2 = .ok (.invokevirtual 40, 3))) rfl (jx_ccV (As := [.int a0]) (rest := []) rfl rfl rfl hk rfl rfl) (by decide)
  · exact fun d lv st M Q x => jx_k_b1n (jx_fok (by decide +kernel : decode (jx_mb 11) 5 = .ok (.ifCond .ne 6, 3))) rfl jx_hNe
  · exact fun d lv st M Q => jx_ev_st (jx_fok (by decide +kernel : decode (jx_mb 11) 8 = .ok (.bipush (-9), 2))) rfl rfl rfl
  · exact fun d lv M Q x => jx_k_ri (jx_fok (by decide +kernel : decode (jx_mb 11) 10 = .ok (.ireturn, 1))) rfl
  · exact fun d st M Q l1 l2 l3 l4 l5 l6 x => jx_ev_st (jx_fok (by decide +kernel : decode (jx_mb 11) 11 = .ok (.aload_n 0, 1))) rfl rfl rfl
  · exact fun d st M Q l0 l2 l3 l4 l5 l6 x => jx_ev_st (jx_fok (by decide +kernel : decode (jx_mb 11) 12 = .ok (.iload_n 1, 1))) rfl rfl rfl
  · exact fun d st M Q l0 l1 l3 l4 l5 l6 x => jx_ev_st (jx_fok (by decide +kernel : decode (jx_mb 11) 13 = .ok (.iload_n 2, 1))) rfl rfl rfl
  · exact fun d lv M Q a0 a1 a2 hk => jx_ev_ci (jx_fok (by decide +kernel : decode (jx_mb 11) 14 = .ok (.invokevirtual 48, 3))) rfl (jx_ccV (As := [.int a1, .int a0]) (rest := []) rfl rfl rfl hk rfl rfl) (by decide)
  · exact fun d st M Q l0 l1 l2 l3 l4 l5 l6 x => jx_ev_st (jx_fok (by decide +kernel : decode (jx_mb 11) 17 = .ok (.istore 4, 2))) rfl rfl rfl
  · exact fun d st M Q l1 l2 l3 l4 l5 l6 x => jx_ev_st (jx_fok (by decide +kernel : decode (jx_mb 11) 19 = .ok (.aload_n 0, 1))) rfl rfl rfl
  · exact fun d lv st M Q k hk => jx_k_gf (jx_fok (by decide +kernel : decode (jx_mb 11) 20 = .ok (.getfield 24, 3))) rfl hk rfl
  · exact fun d st M Q l0 l2 l3 l4 l5 l6 x => jx_ev_st (jx_fok (by decide +kernel : decode (jx_mb 11) 23 = .ok (.iload_n 1, 1))) rfl rfl rfl
  · exact fun d lv st M Q x a ha => jx_k_al (jx_fok (by decide +kernel : decode (jx_mb 11) 24 = .ok (.iaload, 1))) ha
  · exact fun d st M Q l0 l1 l2 l3 l4 l5 l6 x => jx_ev_st (jx_fok (by decide +kernel : decode (jx_mb 11) 25 = .ok (.istore 5, 2))) rfl rfl rfl
  · exact fun d lv st M Q => jx_ev_st (jx_fok (by decide +kernel : decode (jx_mb 11) 27 = .ok (.iconst 0, 1))) rfl rfl rfl
  · exact fun d st M Q l0 l1 l2 l3 l4 l5 l6 x => jx_ev_st (jx_fok (by decide +kernel : decode (jx_mb 11) 28 = .ok (.istore 6, 2))) rfl rfl rfl
  · exact fun d lv st M Q => jx_ev_st (jx_fok (by decide +kernel : decode (jx_mb 11) 32 = .ok (.iconst 5, 1))) rfl rfl rfl
  · exact fun d lv st M Q x z => jx_k_b2 (jx_fok (by decide +kernel : decode (jx_mb 11) 33 = .ok (.if_icmp .ge 51, 3))) rfl jx_hGe
  · exact fun d st M Q l1 l2 l3 l4 l5 l6 x => jx_ev_st (jx_fok (by decide +kernel : decode (jx_mb 11) 36 = .ok (.aload_n 0, 1))) rfl rfl rfl
  · exact fun d st M Q l0 l1 l2 l3 l4 l6 x => jx_ev_st (jx_fok (by decide +kernel : decode (jx_mb 11) 37 = .ok (.iload 5, 2))) rfl rfl rfl
  · exact fun d lv M Q a0 a1 hk => jx_ev_ci (jx_fok (by decide +kernel : decode (jx_mb 11) 39 = .ok (.invokevirtual 52, 3))) rfl (jx_ccV (As := [.int a0]) (rest := []) rfl rfl rfl hk rfl rfl) (by decide)
  · exact fun d lv st M Q x => jx_k_b1 (jx_fok (by decide +kernel : decode (jx_mb 11) 42 = .ok (.ifCond .eq 42, 3))) rfl jx_hEq
  · exact fun d st M Q l0 l1 l2 l4 l5 l6 x => jx_ev_st (jx_fok (by decide +kernel : decode (jx_mb 11) 45 = .ok (.iload_n 3, 1))) rfl rfl rfl
  · exact fun d st M Q l0 l1 l2 l3 l4 l6 x => jx_ev_st (jx_fok (by decide +kernel : decode (jx_mb 11) 46 = .ok (.iload 5, 2))) rfl rfl rfl
  · exact fun d lv st M Q x z => jx_ev_st (jx_fok (by decide +kernel : decode (jx_mb 11) 48 = .ok (.ishr, 1))) rfl rfl rfl
  · exact fun d lv st M Q => jx_ev_st (jx_fok (by decide +kernel : decode (jx_mb 11) 49 = .ok (.iconst 1, 1))) rfl rfl rfl
  · exact fun d lv st M Q x z => jx_ev_st (jx_fok (by decide +kernel : decode (jx_mb 11) 50 = .ok (.iand, 1))) rfl rfl rfl
  · exact fun d lv st M Q x => jx_k_b1 (jx_fok (by decide +kernel : decode (jx_mb 11) 51 = .ok (.ifCond .eq 18, 3))) rfl jx_hEq
  · exact fun d st M Q l0 l1 l2 l3 l5 l6 x => jx_ev_st (jx_fok (by decide +kernel : decode (jx_mb 11) 54 = .ok (.iload 4, 2))) rfl rfl rfl
  · exact fun d st M Q l1 l2 l3 l4 l5 l6 x => jx_ev_st (jx_fok (by decide +kernel : decode (jx_mb 11) 56 = .ok (.aload_n 0, 1))) rfl rfl rfl
  · exact fun d lv st M Q k hk => jx_k_gf (jx_fok (by decide +kernel : decode (jx_mb 11) 57 = .ok (.getfield 9, 3))) rfl hk rfl
  · exact fun d st M Q l0 l1 l2 l3 l4 l6 x => jx_ev_st (jx_fok (by decide +kernel : decode (jx_mb 11) 60 = .ok (.iload 5, 2))) rfl rfl rfl
  · exact fun d lv st M Q x a ha => jx_k_al (jx_fok (by decide +kernel : decode (jx_mb 11) 62 = .ok (.iaload, 1))) ha
  · exact fun d lv st M Q x z => jx_k_b2 (jx_fok (by decide +kernel : decode (jx_mb 11) 63 = .ok (.if_icmp .gt 6, 3))) rfl jx_hGt
  · exact fun d st M Q l0 l1 l2 l3 l4 l6 x => jx_ev_st (jx_fok (by decide +kernel : decode (jx_mb 11) 66 = .ok (.iload 5, 2))) rfl rfl rfl
  · exact fun d lv M Q x => jx_k_ri (jx_fok (by decide +kernel : decode (jx_mb 11) 68 = .ok (.ireturn, 1))) rfl
  · exact fun d st M Q l1 l2 l3 l4 l5 l6 x => jx_ev_st (jx_fok (by decide +kernel : decode (jx_mb 11) 69 = .ok (.aload_n 0, 1))) rfl rfl rfl
  · exact fun d lv st M Q k hk => jx_k_gf (jx_fok (by decide +kernel : decode (jx_mb 11) 70 = .ok (.getfield 15, 3))) rfl hk rfl
  · exact fun d st M Q l0 l1 l2 l3 l4 l6 x => jx_ev_st (jx_fok (by decide +kernel : decode (jx_mb 11) 73 = .ok (.iload 5, 2))) rfl rfl rfl
  · exact fun d lv st M Q x a ha => jx_k_al (jx_fok (by decide +kernel : decode (jx_mb 11) 75 = .ok (.iaload, 1))) ha
  · exact fun d st M Q l0 l1 l2 l3 l4 l5 l6 x => jx_ev_st (jx_fok (by decide +kernel : decode (jx_mb 11) 76 = .ok (.istore 5, 2))) rfl rfl rfl
  · exact fun d st M Q l0 l1 l2 l3 l4 l5 x => jx_ev_st (jx_fok (by decide +kernel : decode (jx_mb 11) 78 = .ok (.iinc 6 1, 3))) rfl rfl rfl
  · exact fun d lv st M Q => jx_k_goto (jx_fok (by decide +kernel : decode (jx_mb 11) 81 = .ok (.goto (-51), 3))) rfl
  · exact fun d lv st M Q => jx_ev_st (jx_fok (by decide +kernel : decode (jx_mb 11) 84 = .ok (.bipush (-9), 2))) rfl rfl rfl
  · exact fun d lv M Q x => jx_k_ri (jx_fok (by decide +kernel : decode (jx_mb 11) 86 = .ok (.ireturn, 1))) rfl
theorem eX1_takerOf_30 (d : Nat) (st : List Value) (M : jx_M) (Q : jx_Po) (l0 l1 l2 l3 l4 l5 : Option Value) (x : Int32) : jx_Ev d 11 30 [l0, l1, l2, l3, l4, l5, some (.int x)] st M Q ↔ jx_Ev d 11 32 [l0, l1, l2, l3, l4, l5, some (.int x)] (.int x :: st) M Q := jx_ev_st (jx_fok (by decide +kernel : decode (jx_mb 11) 30 = .ok (.iload 6, 2))) rfl rfl rfl
theorem kX1_takerOf (d : Nat) (M : jx_M) (q : Int32 → jx_M → Prop) (a0 a1 a2 a3 : Value) : jx_I d 11 [a0, a1, a2, a3] M q ↔ jx_Ev d 11 0 [some a0, some a1, some a2, some a3, none, none, none] [] M (jx_qI q) := Iff.rfl
set_option maxRecDepth 100000 in
theorem eX2_takeMonths :
  (∀ (d : Nat) (lv : List (Option Value)) (st : List Value) (M : jx_M) (Q : jx_Po), jx_Ev d 12 0 lv st M Q ↔ jx_Ev d 12 1 lv (.int 0 :: st) M Q) ∧
  (∀ (d : Nat) (st : List Value) (M : jx_M) (Q : jx_Po) (l0 l1 l2 l3 l4 : Option Value) (x : Int32), jx_Ev d 12 1 [l0, l1, l2, l3, l4] (.int x :: st) M Q ↔ jx_Ev d 12 3 [l0, l1, l2, l3, some (.int x)] st M Q) ∧
  (∀ (d : Nat) (st : List Value) (M : jx_M) (Q : jx_Po) (l0 l1 l2 l4 : Option Value) (x : Int32), jx_Ev d 12 5 [l0, l1, l2, some (.int x), l4] st M Q ↔ jx_Ev d 12 6 [l0, l1, l2, some (.int x), l4] (.int x :: st) M Q) ∧
  (∀ (d : Nat) (lv : List (Option Value)) (st : List Value) (M : jx_M) (Q : jx_Po) (x z : Int32), jx_Ev d 12 6 lv (.int z :: .int x :: st) M Q ↔ (if z ≤ x then jx_Ev d 12 60 lv st M Q else jx_Ev d 12 9 lv st M Q)) ∧
  (∀ (d : Nat) (st : List Value) (M : jx_M) (Q : jx_Po) (l0 l1 l2 l3 : Option Value) (x : Int32), jx_Ev d 12 9 [l0, l1, l2, l3, some (.int x)] st M Q ↔ jx_Ev d 12 11 [l0, l1, l2, l3, some (.int x)] (.int x :: st) M Q) ∧
  (∀ (d : Nat) (lv : List (Option Value)) (st : List Value) (M : jx_M) (Q : jx_Po), jx_Ev d 12 11 lv st M Q ↔ jx_Ev d 12 13 lv (.int 6 :: st) M Q) ∧
  (∀ (d : Nat) (lv : List (Option Value)) (st : List Value) (M : jx_M) (Q : jx_Po) (x z : Int32), jx_Ev d 12 13 lv (.int z :: .int x :: st) M Q ↔ (if z ≤ x then jx_Ev d 12 60 lv st M Q else jx_Ev d 12 16 lv st M Q)) ∧
  (∀ (d : Nat) (st : List Value) (M : jx_M) (Q : jx_Po) (l1 l2 l3 l4 : Option Value) (x : Nat), jx_Ev d 12 16 [some (.ref x), l1, l2, l3, l4] st M Q ↔ jx_Ev d 12 17 [some (.ref x), l1, l2, l3, l4] (.ref x :: st) M Q) ∧
  (∀ (d : Nat) (lv : List (Option Value)) (st : List Value) (M : jx_M) (Q : jx_Po), jx_Ev d 12 17 lv (.ref 7 :: st) M Q ↔ jx_Ev d 12 20 lv (.ref 8 :: st) M Q) ∧
  (∀ (d : Nat) (st : List Value) (M : jx_M) (Q : jx_Po) (l0 l1 l2 l3 : Option Value) (x : Int32), jx_Ev d 12 20 [l0, l1, l2, l3, some (.int x)] st M Q ↔ jx_Ev d 12 22 [l0, l1, l2, l3, some (.int x)] (.int x :: st) M Q) ∧
  (∀ (d : Nat) (st : List Value) (M : jx_M) (Q : jx_Po) (l0 l2 l3 l4 : Option Value) (x : Nat), jx_Ev d 12 22 [l0, some (.ref x), l2, l3, l4] st M Q ↔ jx_Ev d 12 23 [l0, some (.ref x), l2, l3, l4] (.ref x :: st) M Q) ∧
  (∀ (d : Nat) (st : List Value) (M : jx_M) (Q : jx_Po) (l0 l1 l3 l4 : Option Value) (x : Int32), jx_Ev d 12 23 [l0, l1, some (.int x), l3, l4] st M Q ↔ jx_Ev d 12 24 [l0, l1, some (.int x), l3, l4] (.int x :: st) M Q) ∧
  (∀ (d : Nat) (st : List Value) (M : jx_M) (Q : jx_Po) (l0 l1 l2 l3 : Option Value) (x : Int32), jx_Ev d 12 24 [l0, l1, l2, l3, some (.int x)] st M Q ↔ jx_Ev d 12 26 [l0, l1, l2, l3, some (.int x)] (.int x :: st) M Q) ∧
  (∀ (d : Nat) (lv : List (Option Value)) (st : List Value) (M : jx_M) (Q : jx_Po) (x z : Int32), jx_Ev d 12 26 lv (.int z :: .int x :: st) M Q ↔ jx_Ev d 12 27 lv (.int (x + z) :: st) M Q) ∧
  (∀ (d : Nat) (lv : List (Option Value)) (M : jx_M) (Q : jx_Po) (a0 : Int32) (a1 : Nat) (a2 : Int32) (a3 : Nat) (hk : jx_cl a1 = 4), jx_Ev (d + 1) 12 27 lv [.int a0, .ref a1, .int a2, .ref a3] M Q ↔ jx_I d 23 [.ref a1, .int a0] M (fun x M => jx_Ev (d + 1) 12 30 lv (.int x :: [.int a2, .ref a3]) M Q)) ∧
  (∀ (d : Nat) (lv : List (Option Value)) (st : List Value) (M : jx_M) (Q : jx_Po) (x z : Int32) (a : Nat) (ha : jx_cl a = 9), jx_Ev d 12 30 lv (.int z :: .int x :: .ref a :: st) M Q ↔ (vp_in x (jx_sz a) ∧ jx_Ev d 12 31 lv st (jx_up M a x.toNatClampNeg z) Q)) ∧
  (∀ (d : Nat) (st : List Value) (M : jx_M) (Q : jx_Po) (l1 l2 l3 l4 : Option Value) (x : Nat), jx_Ev d 12 31 [some (.ref x), l1, l2, l3, l4] st M Q ↔ jx_Ev d 12 32 [some (.ref x), l1, l2, l3, l4] (.ref x :: st) M Q) ∧
  (∀ (d : Nat) (lv : List (Option Value)) (st : List Value) (M : jx_M) (Q : jx_Po), jx_Ev d 12 32 lv (.ref 7 :: st) M Q ↔ jx_Ev d 12 35 lv (.ref 8 :: st) M Q) ∧
  (∀ (d : Nat) (st : List Value) (M : jx_M) (Q : jx_Po) (l0 l1 l2 l3 : Option Value) (x : Int32), jx_Ev d 12 35 [l0, l1, l2, l3, some (.int x)] st M Q ↔ jx_Ev d 12 37 [l0, l1, l2, l3, some (.int x)] (.int x :: st) M Q) ∧
  (∀ (d : Nat) (lv : List (Option Value)) (st : List Value) (M : jx_M) (Q : jx_Po) (x : Int32) (a : Nat) (ha : jx_cl a = 9), jx_Ev d 12 37 lv (.int x :: .ref a :: st) M Q ↔ (vp_in x (jx_sz a) ∧ jx_Ev d 12 38 lv (.int (M a x.toNatClampNeg) :: st) M Q)) ∧
  (∀ (d : Nat) (lv : List (Option Value)) (st : List Value) (M : jx_M) (Q : jx_Po) (x : Int32), jx_Ev d 12 38 lv (.int x :: st) M Q ↔ (if x < 0 then jx_Ev d 12 52 lv st M Q else jx_Ev d 12 41 lv st M Q)) ∧
  (∀ (d : Nat) (st : List Value) (M : jx_M) (Q : jx_Po) (l1 l2 l3 l4 : Option Value) (x : Nat), jx_Ev d 12 41 [some (.ref x), l1, l2, l3, l4] st M Q ↔ jx_Ev d 12 42 [some (.ref x), l1, l2, l3, l4] (.ref x :: st) M Q) ∧
  (∀ (d : Nat) (lv : List (Option Value)) (st : List Value) (M : jx_M) (Q : jx_Po), jx_Ev d 12 42 lv (.ref 7 :: st) M Q ↔ jx_Ev d 12 45 lv (.ref 8 :: st) M Q) ∧
  (∀ (d : Nat) (st : List Value) (M : jx_M) (Q : jx_Po) (l0 l1 l2 l3 : Option Value) (x : Int32), jx_Ev d 12 45 [l0, l1, l2, l3, some (.int x)] st M Q ↔ jx_Ev d 12 47 [l0, l1, l2, l3, some (.int x)] (.int x :: st) M Q) ∧
  (∀ (d : Nat) (lv : List (Option Value)) (st : List Value) (M : jx_M) (Q : jx_Po) (x : Int32) (a : Nat) (ha : jx_cl a = 9), jx_Ev d 12 47 lv (.int x :: .ref a :: st) M Q ↔ (vp_in x (jx_sz a) ∧ jx_Ev d 12 48 lv (.int (M a x.toNatClampNeg) :: st) M Q)) ∧
  (∀ (d : Nat) (lv : List (Option Value)) (st : List Value) (M : jx_M) (Q : jx_Po), jx_Ev d 12 48 lv st M Q ↔ jx_Ev d 12 49 lv (.int 4 :: st) M Q) ∧
  (∀ (d : Nat) (lv : List (Option Value)) (st : List Value) (M : jx_M) (Q : jx_Po) (x z : Int32), jx_Ev d 12 49 lv (.int z :: .int x :: st) M Q ↔ (if x < z then jx_Ev d 12 54 lv st M Q else jx_Ev d 12 52 lv st M Q)) ∧
  (∀ (d : Nat) (lv : List (Option Value)) (st : List Value) (M : jx_M) (Q : jx_Po), jx_Ev d 12 52 lv st M Q ↔ jx_Ev d 12 53 lv (.int 0 :: st) M Q) ∧
  (∀ (d : Nat) (lv : List (Option Value)) (M : jx_M) (Q : jx_Po) (x : Int32), jx_Ev d 12 53 lv [.int x] M Q ↔ ((x = 0 ∨ x = 1) ∧ Q [.int x] M)) ∧
  (∀ (d : Nat) (st : List Value) (M : jx_M) (Q : jx_Po) (l0 l1 l2 l3 : Option Value) (x : Int32), jx_Ev d 12 54 [l0, l1, l2, l3, some (.int x)] st M Q ↔ jx_Ev d 12 57 [l0, l1, l2, l3, some (.int (x + 1))] st M Q) ∧
  (∀ (d : Nat) (lv : List (Option Value)) (st : List Value) (M : jx_M) (Q : jx_Po), jx_Ev d 12 57 lv st M Q ↔ jx_Ev d 12 3 lv st M Q) ∧
  (∀ (d : Nat) (lv : List (Option Value)) (st : List Value) (M : jx_M) (Q : jx_Po), jx_Ev d 12 60 lv st M Q ↔ jx_Ev d 12 61 lv (.int 1 :: st) M Q) ∧
  (∀ (d : Nat) (lv : List (Option Value)) (M : jx_M) (Q : jx_Po) (x : Int32), jx_Ev d 12 61 lv [.int x] M Q ↔ ((x = 0 ∨ x = 1) ∧ Q [.int x] M)) := by
  refine ⟨?_, ?_, ?_, ?_, ?_, ?_, ?_, ?_, ?_, ?_, ?_, ?_, ?_, ?_, ?_, ?_, ?_, ?_, ?_, ?_, ?_, ?_, ?_, ?_, ?_, ?_, ?_, ?_, ?_, ?_, ?_, ?_, ?_⟩
  · exact fun d lv st M Q => jx_ev_st (jx_fok (by decide +kernel : decode (jx_mb 12) 0 = .ok (.iconst 0, 1))) rfl rfl rfl
  · exact fun d st M Q l0 l1 l2 l3 l4 x => jx_ev_st (jx_fok (by decide +kernel : decode (jx_mb 12) 1 = .ok (.istore 4, 2))) rfl rfl rfl
  · exact fun d st M Q l0 l1 l2 l4 x => jx_ev_st (jx_fok (by decide +kernel : decode (jx_mb 12) 5 = .ok (.iload_n 3, 1))) rfl rfl rfl
  · exact fun d lv st M Q x z => jx_k_b2 (jx_fok (by decide +kernel : decode (jx_mb 12) 6 = .ok (.if_icmp .ge 54, 3))) rfl jx_hGe
  · exact fun d st M Q l0 l1 l2 l3 x => jx_ev_st (jx_fok (by decide +kernel : decode (jx_mb 12) 9 = .ok (.iload 4, 2))) rfl rfl rfl
  · exact fun d lv st M Q => jx_ev_st (jx_fok (by decide +kernel : decode (jx_mb 12) 11 = .ok (.bipush 6, 2))) rfl rfl rfl
  · exact fun d lv st M Q x z => jx_k_b2 (jx_fok (by decide +kernel : decode (jx_mb 12) 13 = .ok (.if_icmp .ge 47, 3))) rfl jx_hGe
  · exact fun d st M Q l1 l2 l3 l4 x => jx_ev_st (jx_fok (by decide +kernel : decode (jx_mb 12) 16 = .ok (.aload_n 0, 1))) rfl rfl rfl
  · exact fun d lv st M Q => jx_k_gf (jx_fok (by decide +kernel : decode (jx_mb 12) 17 = .ok (.getfield 9, 3))) rfl rfl rfl
  · exact fun d st M Q l0 l1 l2 l3 x => jx_ev_st (jx_fok (by decide +kernel : decode (jx_mb 12) 20 = .ok (.iload 4, 2))) rfl rfl rfl
  · exact fun d st M Q l0 l2 l3 l4 x => jx_ev_st (jx_fok (by decide +kernel : decode (jx_mb 12) 22 = .ok (.aload_n 1, 1))) rfl rfl rfl
  · exact fun d st M Q l0 l1 l3 l4 x => jx_ev_st (jx_fok (by decide +kernel : decode (jx_mb 12) 23 = .ok (.iload_n 2, 1))) rfl rfl rfl
  · exact fun d st M Q l0 l1 l2 l3 x => jx_ev_st (jx_fok (by decide +kernel : decode (jx_mb 12) 24 = .ok (.iload 4, 2))) rfl rfl rfl
  · exact fun d lv st M Q x z => jx_ev_st (jx_fok (by decide +kernel : decode (jx_mb 12) 26 = .ok (.iadd, 1))) rfl rfl rfl
  · exact fun d lv M Q a0 a1 a2 a3 hk => jx_ev_ci (jx_fok (by decide +kernel : decode (jx_mb 12) 27 = .ok (.invokevirtual 15, 3))) rfl (jx_ccV (As := [.int a0]) (rest := [.int a2, .ref a3]) rfl rfl rfl hk rfl rfl) (by decide)
  · exact fun d lv st M Q x z a ha => jx_k_as (jx_fok (by decide +kernel : decode (jx_mb 12) 30 = .ok (.iastore, 1))) ha
  · exact fun d st M Q l1 l2 l3 l4 x => jx_ev_st (jx_fok (by decide +kernel : decode (jx_mb 12) 31 = .ok (.aload_n 0, 1))) rfl rfl rfl
  · exact fun d lv st M Q => jx_k_gf (jx_fok (by decide +kernel : decode (jx_mb 12) 32 = .ok (.getfield 9, 3))) rfl rfl rfl
  · exact fun d st M Q l0 l1 l2 l3 x => jx_ev_st (jx_fok (by decide +kernel : decode (jx_mb 12) 35 = .ok (.iload 4, 2))) rfl rfl rfl
  · exact fun d lv st M Q x a ha => jx_k_al (jx_fok (by decide +kernel : decode (jx_mb 12) 37 = .ok (.iaload, 1))) ha
  · exact fun d lv st M Q x => jx_k_b1 (jx_fok (by decide +kernel : decode (jx_mb 12) 38 = .ok (.ifCond .lt 14, 3))) rfl jx_hLt
  · exact fun d st M Q l1 l2 l3 l4 x => jx_ev_st (jx_fok (by decide +kernel : decode (jx_mb 12) 41 = .ok (.aload_n 0, 1))) rfl rfl rfl
  · exact fun d lv st M Q => jx_k_gf (jx_fok (by decide +kernel : decode (jx_mb 12) 42 = .ok (.getfield 9, 3))) rfl rfl rfl
  · exact fun d st M Q l0 l1 l2 l3 x => jx_ev_st (jx_fok (by decide +kernel : decode (jx_mb 12) 45 = .ok (.iload 4, 2))) rfl rfl rfl
  · exact fun d lv st M Q x a ha => jx_k_al (jx_fok (by decide +kernel : decode (jx_mb 12) 47 = .ok (.iaload, 1))) ha
  · exact fun d lv st M Q => jx_ev_st (jx_fok (by decide +kernel : decode (jx_mb 12) 48 = .ok (.iconst 4, 1))) rfl rfl rfl
  · exact fun d lv st M Q x z => jx_k_b2 (jx_fok (by decide +kernel : decode (jx_mb 12) 49 = .ok (.if_icmp .lt 5, 3))) rfl jx_hLt
  · exact fun d lv st M Q => jx_ev_st (jx_fok (by decide +kernel : decode (jx_mb 12) 52 = .ok (.iconst 0, 1))) rfl rfl rfl
  · exact fun d lv M Q x => jx_k_rz (jx_fok (by decide +kernel : decode (jx_mb 12) 53 = .ok (.ireturn, 1))) rfl
  · exact fun d st M Q l0 l1 l2 l3 x => jx_ev_st (jx_fok (by decide +kernel : decode (jx_mb 12) 54 = .ok (.iinc 4 1, 3))) rfl rfl rfl
  · exact fun d lv st M Q => jx_k_goto (jx_fok (by decide +kernel : decode (jx_mb 12) 57 = .ok (.goto (-54), 3))) rfl
  · exact fun d lv st M Q => jx_ev_st (jx_fok (by decide +kernel : decode (jx_mb 12) 60 = .ok (.iconst 1, 1))) rfl rfl rfl
  · exact fun d lv M Q x => jx_k_rz (jx_fok (by decide +kernel : decode (jx_mb 12) 61 = .ok (.ireturn, 1))) rfl
theorem eX2_takeMonths_3 (d : Nat) (st : List Value) (M : jx_M) (Q : jx_Po) (l0 l1 l2 l3 : Option Value) (x : Int32) : jx_Ev d 12 3 [l0, l1, l2, l3, some (.int x)] st M Q ↔ jx_Ev d 12 5 [l0, l1, l2, l3, some (.int x)] (.int x :: st) M Q := jx_ev_st (jx_fok (by decide +kernel : decode (jx_mb 12) 3 = .ok (.iload 4, 2))) rfl rfl rfl
theorem kX2_takeMonths (d : Nat) (M : jx_M) (q : Int32 → jx_M → Prop) (a0 a1 a2 a3 : Value) : jx_I d 12 [a0, a1, a2, a3] M q ↔ jx_Ev d 12 0 [some a0, some a1, some a2, some a3, none] [] M (jx_qI q) := Iff.rfl
set_option maxRecDepth 100000 in
theorem eX2_monthsTaken :
  (∀ (d : Nat) (lv : List (Option Value)) (st : List Value) (M : jx_M) (Q : jx_Po), jx_Ev d 13 0 lv st M Q ↔ jx_Ev d 13 1 lv (.int 0 :: st) M Q) ∧
  (∀ (d : Nat) (st : List Value) (M : jx_M) (Q : jx_Po) (l0 l1 l2 l3 : Option Value) (x : Int32), jx_Ev d 13 1 [l0, l1, l2, l3] (.int x :: st) M Q ↔ jx_Ev d 13 2 [l0, l1, some (.int x), l3] st M Q) ∧
  (∀ (d : Nat) (lv : List (Option Value)) (st : List Value) (M : jx_M) (Q : jx_Po), jx_Ev d 13 2 lv st M Q ↔ jx_Ev d 13 3 lv (.int 0 :: st) M Q) ∧
  (∀ (d : Nat) (st : List Value) (M : jx_M) (Q : jx_Po) (l0 l1 l2 l3 : Option Value) (x : Int32), jx_Ev d 13 3 [l0, l1, l2, l3] (.int x :: st) M Q ↔ jx_Ev d 13 4 [l0, l1, l2, some (.int x)] st M Q) ∧
  (∀ (d : Nat) (st : List Value) (M : jx_M) (Q : jx_Po) (l0 l2 l3 : Option Value) (x : Nat), jx_Ev d 13 5 [l0, some (.ref x), l2, l3] st M Q ↔ jx_Ev d 13 6 [l0, some (.ref x), l2, l3] (.ref x :: st) M Q) ∧
  (∀ (d : Nat) (lv : List (Option Value)) (st : List Value) (M : jx_M) (Q : jx_Po) (k : Nat) (hk : jx_cl k = 1), jx_Ev d 13 6 lv (.ref k :: st) M Q ↔ jx_Ev d 13 9 lv (.int (M k 6) :: st) M Q) ∧
  (∀ (d : Nat) (lv : List (Option Value)) (st : List Value) (M : jx_M) (Q : jx_Po) (x z : Int32), jx_Ev d 13 9 lv (.int z :: .int x :: st) M Q ↔ (if z ≤ x then jx_Ev d 13 35 lv st M Q else jx_Ev d 13 12 lv st M Q)) ∧
  (∀ (d : Nat) (st : List Value) (M : jx_M) (Q : jx_Po) (l0 l1 l2 : Option Value) (x : Int32), jx_Ev d 13 12 [l0, l1, l2, some (.int x)] st M Q ↔ jx_Ev d 13 13 [l0, l1, l2, some (.int x)] (.int x :: st) M Q) ∧
  (∀ (d : Nat) (lv : List (Option Value)) (st : List Value) (M : jx_M) (Q : jx_Po), jx_Ev d 13 13 lv st M Q ↔ jx_Ev d 13 15 lv (.int 6 :: st) M Q) ∧
  (∀ (d : Nat) (lv : List (Option Value)) (st : List Value) (M : jx_M) (Q : jx_Po) (x z : Int32), jx_Ev d 13 15 lv (.int z :: .int x :: st) M Q ↔ (if z ≤ x then jx_Ev d 13 35 lv st M Q else jx_Ev d 13 18 lv st M Q)) ∧
  (∀ (d : Nat) (st : List Value) (M : jx_M) (Q : jx_Po) (l0 l1 l3 : Option Value) (x : Int32), jx_Ev d 13 18 [l0, l1, some (.int x), l3] st M Q ↔ jx_Ev d 13 19 [l0, l1, some (.int x), l3] (.int x :: st) M Q) ∧
  (∀ (d : Nat) (lv : List (Option Value)) (st : List Value) (M : jx_M) (Q : jx_Po), jx_Ev d 13 19 lv st M Q ↔ jx_Ev d 13 20 lv (.int 1 :: st) M Q) ∧
  (∀ (d : Nat) (st : List Value) (M : jx_M) (Q : jx_Po) (l1 l2 l3 : Option Value) (x : Nat), jx_Ev d 13 20 [some (.ref x), l1, l2, l3] st M Q ↔ jx_Ev d 13 21 [some (.ref x), l1, l2, l3] (.ref x :: st) M Q) ∧
  (∀ (d : Nat) (lv : List (Option Value)) (st : List Value) (M : jx_M) (Q : jx_Po), jx_Ev d 13 21 lv (.ref 7 :: st) M Q ↔ jx_Ev d 13 24 lv (.ref 8 :: st) M Q) ∧
  (∀ (d : Nat) (st : List Value) (M : jx_M) (Q : jx_Po) (l0 l1 l2 : Option Value) (x : Int32), jx_Ev d 13 24 [l0, l1, l2, some (.int x)] st M Q ↔ jx_Ev d 13 25 [l0, l1, l2, some (.int x)] (.int x :: st) M Q) ∧
  (∀ (d : Nat) (lv : List (Option Value)) (st : List Value) (M : jx_M) (Q : jx_Po) (x : Int32) (a : Nat) (ha : jx_cl a = 9), jx_Ev d 13 25 lv (.int x :: .ref a :: st) M Q ↔ (vp_in x (jx_sz a) ∧ jx_Ev d 13 26 lv (.int (M a x.toNatClampNeg) :: st) M Q)) ∧
  (∀ (d : Nat) (lv : List (Option Value)) (st : List Value) (M : jx_M) (Q : jx_Po) (x z : Int32), jx_Ev d 13 26 lv (.int z :: .int x :: st) M Q ↔ jx_Ev d 13 27 lv (.int (x <<< (z &&& 31)) :: st) M Q) ∧
  (∀ (d : Nat) (lv : List (Option Value)) (st : List Value) (M : jx_M) (Q : jx_Po) (x z : Int32), jx_Ev d 13 27 lv (.int z :: .int x :: st) M Q ↔ jx_Ev d 13 28 lv (.int (x ||| z) :: st) M Q) ∧
  (∀ (d : Nat) (st : List Value) (M : jx_M) (Q : jx_Po) (l0 l1 l2 l3 : Option Value) (x : Int32), jx_Ev d 13 28 [l0, l1, l2, l3] (.int x :: st) M Q ↔ jx_Ev d 13 29 [l0, l1, some (.int x), l3] st M Q) ∧
  (∀ (d : Nat) (st : List Value) (M : jx_M) (Q : jx_Po) (l0 l1 l2 : Option Value) (x : Int32), jx_Ev d 13 29 [l0, l1, l2, some (.int x)] st M Q ↔ jx_Ev d 13 32 [l0, l1, l2, some (.int (x + 1))] st M Q) ∧
  (∀ (d : Nat) (lv : List (Option Value)) (st : List Value) (M : jx_M) (Q : jx_Po), jx_Ev d 13 32 lv st M Q ↔ jx_Ev d 13 4 lv st M Q) ∧
  (∀ (d : Nat) (st : List Value) (M : jx_M) (Q : jx_Po) (l0 l1 l3 : Option Value) (x : Int32), jx_Ev d 13 35 [l0, l1, some (.int x), l3] st M Q ↔ jx_Ev d 13 36 [l0, l1, some (.int x), l3] (.int x :: st) M Q) ∧
  (∀ (d : Nat) (lv : List (Option Value)) (M : jx_M) (Q : jx_Po) (x : Int32), jx_Ev d 13 36 lv [.int x] M Q ↔ Q [.int x] M) := by
  refine ⟨?_, ?_, ?_, ?_, ?_, ?_, ?_, ?_, ?_, ?_, ?_, ?_, ?_, ?_, ?_, ?_, ?_, ?_, ?_, ?_, ?_, ?_, ?_⟩
  · exact fun d lv st M Q => jx_ev_st (jx_fok (by decide +kernel : decode (jx_mb 13) 0 = .ok (.iconst 0, 1))) rfl rfl rfl
  · exact fun d st M Q l0 l1 l2 l3 x => jx_ev_st (jx_fok (by decide +kernel : decode (jx_mb 13) 1 = .ok (.istore_n 2, 1))) rfl rfl rfl
  · exact fun d lv st M Q => jx_ev_st (jx_fok (by decide +kernel : decode (jx_mb 13) 2 = .ok (.iconst 0, 1))) rfl rfl rfl
  · exact fun d st M Q l0 l1 l2 l3 x => jx_ev_st (jx_fok (by decide +kernel : decode (jx_mb 13) 3 = .ok (.istore_n 3, 1))) rfl rfl rfl
  · exact fun d st M Q l0 l2 l3 x => jx_ev_st (jx_fok (by decide +kernel : decode (jx_mb 13) 5 = .ok (.aload_n 1, 1))) rfl rfl rfl
  · exact fun d lv st M Q k hk => jx_k_gf (jx_fok (by decide +kernel : decode (jx_mb 13) 6 = .ok (.getfield 21, 3))) rfl hk rfl
  · exact fun d lv st M Q x z => jx_k_b2 (jx_fok (by decide +kernel : decode (jx_mb 13) 9 = .ok (.if_icmp .ge 26, 3))) rfl jx_hGe
  · exact fun d st M Q l0 l1 l2 x => jx_ev_st (jx_fok (by decide +kernel : decode (jx_mb 13) 12 = .ok (.iload_n 3, 1))) rfl rfl rfl
  · exact fun d lv st M Q => jx_ev_st (jx_fok (by decide +kernel : decode (jx_mb 13) 13 = .ok (.bipush 6, 2))) rfl rfl rfl
  · exact fun d lv st M Q x z => jx_k_b2 (jx_fok (by decide +kernel : decode (jx_mb 13) 15 = .ok (.if_icmp .ge 20, 3))) rfl jx_hGe
  · exact fun d st M Q l0 l1 l3 x => jx_ev_st (jx_fok (by decide +kernel : decode (jx_mb 13) 18 = .ok (.iload_n 2, 1))) rfl rfl rfl
  · exact fun d lv st M Q => jx_ev_st (jx_fok (by decide +kernel : decode (jx_mb 13) 19 = .ok (.iconst 1, 1))) rfl rfl rfl
  · exact fun d st M Q l1 l2 l3 x => jx_ev_st (jx_fok (by decide +kernel : decode (jx_mb 13) 20 = .ok (.aload_n 0, 1))) rfl rfl rfl
  · exact fun d lv st M Q => jx_k_gf (jx_fok (by decide +kernel : decode (jx_mb 13) 21 = .ok (.getfield 9, 3))) rfl rfl rfl
  · exact fun d st M Q l0 l1 l2 x => jx_ev_st (jx_fok (by decide +kernel : decode (jx_mb 13) 24 = .ok (.iload_n 3, 1))) rfl rfl rfl
  · exact fun d lv st M Q x a ha => jx_k_al (jx_fok (by decide +kernel : decode (jx_mb 13) 25 = .ok (.iaload, 1))) ha
  · exact fun d lv st M Q x z => jx_ev_st (jx_fok (by decide +kernel : decode (jx_mb 13) 26 = .ok (.ishl, 1))) rfl rfl rfl
  · exact fun d lv st M Q x z => jx_ev_st (jx_fok (by decide +kernel : decode (jx_mb 13) 27 = .ok (.ior, 1))) rfl rfl rfl
  · exact fun d st M Q l0 l1 l2 l3 x => jx_ev_st (jx_fok (by decide +kernel : decode (jx_mb 13) 28 = .ok (.istore_n 2, 1))) rfl rfl rfl
  · exact fun d st M Q l0 l1 l2 x => jx_ev_st (jx_fok (by decide +kernel : decode (jx_mb 13) 29 = .ok (.iinc 3 1, 3))) rfl rfl rfl
  · exact fun d lv st M Q => jx_k_goto (jx_fok (by decide +kernel : decode (jx_mb 13) 32 = .ok (.goto (-28), 3))) rfl
  · exact fun d st M Q l0 l1 l3 x => jx_ev_st (jx_fok (by decide +kernel : decode (jx_mb 13) 35 = .ok (.iload_n 2, 1))) rfl rfl rfl
  · exact fun d lv M Q x => jx_k_ri (jx_fok (by decide +kernel : decode (jx_mb 13) 36 = .ok (.ireturn, 1))) rfl
theorem eX2_monthsTaken_4 (d : Nat) (st : List Value) (M : jx_M) (Q : jx_Po) (l0 l1 l2 : Option Value) (x : Int32) : jx_Ev d 13 4 [l0, l1, l2, some (.int x)] st M Q ↔ jx_Ev d 13 5 [l0, l1, l2, some (.int x)] (.int x :: st) M Q := jx_ev_st (jx_fok (by decide +kernel : decode (jx_mb 13) 4 = .ok (.iload_n 3, 1))) rfl rfl rfl
theorem kX2_monthsTaken (d : Nat) (M : jx_M) (q : Int32 → jx_M → Prop) (a0 a1 : Value) : jx_I d 13 [a0, a1] M q ↔ jx_Ev d 13 0 [some a0, some a1, none, none] [] M (jx_qI q) := Iff.rfl
set_option maxRecDepth 100000 in
theorem eX2_harmTo :
  (∀ (d : Nat) (lv : List (Option Value)) (st : List Value) (M : jx_M) (Q : jx_Po), jx_Ev d 14 0 lv st M Q ↔ jx_Ev d 14 1 lv (.int 0 :: st) M Q) ∧
  (∀ (d : Nat) (st : List Value) (M : jx_M) (Q : jx_Po) (l0 l1 l2 l3 l4 : Option Value) (x : Int32), jx_Ev d 14 1 [l0, l1, l2, l3, l4] (.int x :: st) M Q ↔ jx_Ev d 14 2 [l0, l1, l2, some (.int x), l4] st M Q) ∧
  (∀ (d : Nat) (lv : List (Option Value)) (st : List Value) (M : jx_M) (Q : jx_Po), jx_Ev d 14 2 lv st M Q ↔ jx_Ev d 14 3 lv (.int 0 :: st) M Q) ∧
  (∀ (d : Nat) (st : List Value) (M : jx_M) (Q : jx_Po) (l0 l1 l2 l3 l4 : Option Value) (x : Int32), jx_Ev d 14 3 [l0, l1, l2, l3, l4] (.int x :: st) M Q ↔ jx_Ev d 14 5 [l0, l1, l2, l3, some (.int x)] st M Q) ∧
  (∀ (d : Nat) (lv : List (Option Value)) (st : List Value) (M : jx_M) (Q : jx_Po), jx_Ev d 14 7 lv st M Q ↔ jx_Ev d 14 8 lv (.int 4 :: st) M Q) ∧
  (∀ (d : Nat) (lv : List (Option Value)) (st : List Value) (M : jx_M) (Q : jx_Po) (x z : Int32), jx_Ev d 14 8 lv (.int z :: .int x :: st) M Q ↔ (if z ≤ x then jx_Ev d 14 28 lv st M Q else jx_Ev d 14 11 lv st M Q)) ∧
  (∀ (d : Nat) (st : List Value) (M : jx_M) (Q : jx_Po) (l0 l1 l2 l4 : Option Value) (x : Int32), jx_Ev d 14 11 [l0, l1, l2, some (.int x), l4] st M Q ↔ jx_Ev d 14 12 [l0, l1, l2, some (.int x), l4] (.int x :: st) M Q) ∧
  (∀ (d : Nat) (st : List Value) (M : jx_M) (Q : jx_Po) (l1 l2 l3 l4 : Option Value) (x : Nat), jx_Ev d 14 12 [some (.ref x), l1, l2, l3, l4] st M Q ↔ jx_Ev d 14 13 [some (.ref x), l1, l2, l3, l4] (.ref x :: st) M Q) ∧
  (∀ (d : Nat) (st : List Value) (M : jx_M) (Q : jx_Po) (l0 l2 l3 l4 : Option Value) (x : Nat), jx_Ev d 14 13 [l0, some (.ref x), l2, l3, l4] st M Q ↔ jx_Ev d 14 14 [l0, some (.ref x), l2, l3, l4] (.ref x :: st) M Q) ∧
  (∀ (d : Nat) (st : List Value) (M : jx_M) (Q : jx_Po) (l0 l1 l3 l4 : Option Value) (x : Int32), jx_Ev d 14 14 [l0, l1, some (.int x), l3, l4] st M Q ↔ jx_Ev d 14 15 [l0, l1, some (.int x), l3, l4] (.int x :: st) M Q) ∧
  (∀ (d : Nat) (st : List Value) (M : jx_M) (Q : jx_Po) (l0 l1 l2 l3 : Option Value) (x : Int32), jx_Ev d 14 15 [l0, l1, l2, l3, some (.int x)] st M Q ↔ jx_Ev d 14 17 [l0, l1, l2, l3, some (.int x)] (.int x :: st) M Q) ∧
  (∀ (d : Nat) (lv : List (Option Value)) (M : jx_M) (Q : jx_Po) (a0 : Int32) (a1 : Int32) (a2 : Nat) (a4 : Int32), jx_Ev (d + 1) 14 17 lv [.int a0, .int a1, .ref a2, .ref 7, .int a4] M Q ↔ jx_I d 15 [.ref 7, .ref a2, .int a1, .int a0] M (fun x M => jx_Ev (d + 1) 14 20 lv (.int x :: [.int a4]) M Q)) ∧
  (∀ (d : Nat) (lv : List (Option Value)) (st : List Value) (M : jx_M) (Q : jx_Po) (x z : Int32), jx_Ev d 14 20 lv (.int z :: .int x :: st) M Q ↔ jx_Ev d 14 21 lv (.int (x + z) :: st) M Q) ∧
  (∀ (d : Nat) (st : List Value) (M : jx_M) (Q : jx_Po) (l0 l1 l2 l3 l4 : Option Value) (x : Int32), jx_Ev d 14 21 [l0, l1, l2, l3, l4] (.int x :: st) M Q ↔ jx_Ev d 14 22 [l0, l1, l2, some (.int x), l4] st M Q) ∧
  (∀ (d : Nat) (st : List Value) (M : jx_M) (Q : jx_Po) (l0 l1 l2 l3 : Option Value) (x : Int32), jx_Ev d 14 22 [l0, l1, l2, l3, some (.int x)] st M Q ↔ jx_Ev d 14 25 [l0, l1, l2, l3, some (.int (x + 1))] st M Q) ∧
  (∀ (d : Nat) (lv : List (Option Value)) (st : List Value) (M : jx_M) (Q : jx_Po), jx_Ev d 14 25 lv st M Q ↔ jx_Ev d 14 5 lv st M Q) ∧
  (∀ (d : Nat) (st : List Value) (M : jx_M) (Q : jx_Po) (l0 l1 l2 l4 : Option Value) (x : Int32), jx_Ev d 14 28 [l0, l1, l2, some (.int x), l4] st M Q ↔ jx_Ev d 14 29 [l0, l1, l2, some (.int x), l4] (.int x :: st) M Q) ∧
  (∀ (d : Nat) (lv : List (Option Value)) (M : jx_M) (Q : jx_Po) (x : Int32), jx_Ev d 14 29 lv [.int x] M Q ↔ Q [.int x] M) := by
  refine ⟨?_, ?_, ?_, ?_, ?_, ?_, ?_, ?_, ?_, ?_, ?_, ?_, ?_, ?_, ?_, ?_, ?_, ?_⟩
  · exact fun d lv st M Q => jx_ev_st (jx_fok (by decide +kernel : decode (jx_mb 14) 0 = .ok (.iconst 0, 1))) rfl rfl rfl
  · exact fun d st M Q l0 l1 l2 l3 l4 x => jx_ev_st (jx_fok (by decide +kernel : decode (jx_mb 14) 1 = .ok (.istore_n 3, 1))) rfl rfl rfl
  · exact fun d lv st M Q => jx_ev_st (jx_fok (by decide +kernel : decode (jx_mb 14) 2 = .ok (.iconst 0, 1))) rfl rfl rfl
  · exact fun d st M Q l0 l1 l2 l3 l4 x => jx_ev_st (jx_fok (by decide +kernel : decode (jx_mb 14) 3 = .ok (.istore 4, 2))) rfl rfl rfl
  · exact fun d lv st M Q => jx_ev_st (jx_fok (by decide +kernel : decode (jx_mb 14) 7 = .ok (.iconst 4, 1))) rfl rfl rfl
  · exact fun d lv st M Q x z => jx_k_b2 (jx_fok (by decide +kernel : decode (jx_mb 14) 8 = .ok (.if_icmp .ge 20, 3))) rfl jx_hGe
  · exact fun d st M Q l0 l1 l2 l4 x => jx_ev_st (jx_fok (by decide +kernel : decode (jx_mb 14) 11 = .ok (.iload_n 3, 1))) rfl rfl rfl
  · exact fun d st M Q l1 l2 l3 l4 x => jx_ev_st (jx_fok (by decide +kernel : decode (jx_mb 14) 12 = .ok (.aload_n 0, 1))) rfl rfl rfl
  · exact fun d st M Q l0 l2 l3 l4 x => jx_ev_st (jx_fok (by decide +kernel : decode (jx_mb 14) 13 = .ok (.aload_n 1, 1))) rfl rfl rfl
  · exact fun d st M Q l0 l1 l3 l4 x => jx_ev_st (jx_fok (by decide +kernel : decode (jx_mb 14) 14 = .ok (.iload_n 2, 1))) rfl rfl rfl
  · exact fun d st M Q l0 l1 l2 l3 x => jx_ev_st (jx_fok (by decide +kernel : decode (jx_mb 14) 15 = .ok (.iload 4, 2))) rfl rfl rfl
  · exact fun d lv M Q a0 a1 a2 a4 => jx_ev_ci (jx_fok (by decide +kernel : decode (jx_mb 14) 17 = .ok (.invokevirtual 27, 3))) rfl (jx_ccV (As := [.ref a2, .int a1, .int a0]) (rest := [.int a4]) rfl rfl rfl rfl rfl rfl) (by decide)
  · exact fun d lv st M Q x z => jx_ev_st (jx_fok (by decide +kernel : decode (jx_mb 14) 20 = .ok (.iadd, 1))) rfl rfl rfl
  · exact fun d st M Q l0 l1 l2 l3 l4 x => jx_ev_st (jx_fok (by decide +kernel : decode (jx_mb 14) 21 = .ok (.istore_n 3, 1))) rfl rfl rfl
  · exact fun d st M Q l0 l1 l2 l3 x => jx_ev_st (jx_fok (by decide +kernel : decode (jx_mb 14) 22 = .ok (.iinc 4 1, 3))) rfl rfl rfl
  · exact fun d lv st M Q => jx_k_goto (jx_fok (by decide +kernel : decode (jx_mb 14) 25 = .ok (.goto (-20), 3))) rfl
  · exact fun d st M Q l0 l1 l2 l4 x => jx_ev_st (jx_fok (by decide +kernel : decode (jx_mb 14) 28 = .ok (.iload_n 3, 1))) rfl rfl rfl
  · exact fun d lv M Q x => jx_k_ri (jx_fok (by decide +kernel : decode (jx_mb 14) 29 = .ok (.ireturn, 1))) rfl
theorem eX2_harmTo_5 (d : Nat) (st : List Value) (M : jx_M) (Q : jx_Po) (l0 l1 l2 l3 : Option Value) (x : Int32) : jx_Ev d 14 5 [l0, l1, l2, l3, some (.int x)] st M Q ↔ jx_Ev d 14 7 [l0, l1, l2, l3, some (.int x)] (.int x :: st) M Q := jx_ev_st (jx_fok (by decide +kernel : decode (jx_mb 14) 5 = .ok (.iload 4, 2))) rfl rfl rfl
theorem kX2_harmTo (d : Nat) (M : jx_M) (q : Int32 → jx_M → Prop) (a0 a1 a2 : Value) : jx_I d 14 [a0, a1, a2] M q ↔ jx_Ev d 14 0 [some a0, some a1, some a2, none, none] [] M (jx_qI q) := Iff.rfl
set_option maxRecDepth 100000 in
theorem eX2_harmIn :
  (∀ (d : Nat) (lv : List (Option Value)) (st : List Value) (M : jx_M) (Q : jx_Po), jx_Ev d 15 0 lv st M Q ↔ jx_Ev d 15 1 lv (.int 0 :: st) M Q) ∧
  (∀ (d : Nat) (st : List Value) (M : jx_M) (Q : jx_Po) (l0 l1 l2 l3 l4 l5 : Option Value) (x : Int32), jx_Ev d 15 1 [l0, l1, l2, l3, l4, l5] (.int x :: st) M Q ↔ jx_Ev d 15 3 [l0, l1, l2, l3, some (.int x), l5] st M Q) ∧
  (∀ (d : Nat) (lv : List (Option Value)) (st : List Value) (M : jx_M) (Q : jx_Po), jx_Ev d 15 3 lv st M Q ↔ jx_Ev d 15 4 lv (.int 0 :: st) M Q) ∧
  (∀ (d : Nat) (st : List Value) (M : jx_M) (Q : jx_Po) (l0 l1 l2 l3 l4 l5 : Option Value) (x : Int32), jx_Ev d 15 4 [l0, l1, l2, l3, l4, l5] (.int x :: st) M Q ↔ jx_Ev d 15 6 [l0, l1, l2, l3, l4, some (.int x)] st M Q) ∧
  (∀ (d : Nat) (lv : List (Option Value)) (st : List Value) (M : jx_M) (Q : jx_Po), jx_Ev d 15 8 lv st M Q ↔ jx_Ev d 15 10 lv (.int 6 :: st) M Q) ∧
  (∀ (d : Nat) (lv : List (Option Value)) (st : List Value) (M : jx_M) (Q : jx_Po) (x z : Int32), jx_Ev d 15 10 lv (.int z :: .int x :: st) M Q ↔ (if z ≤ x then jx_Ev d 15 52 lv st M Q else jx_Ev d 15 13 lv st M Q)) ∧
  (∀ (d : Nat) (st : List Value) (M : jx_M) (Q : jx_Po) (l0 l2 l3 l4 l5 : Option Value) (x : Nat), jx_Ev d 15 13 [l0, some (.ref x), l2, l3, l4, l5] st M Q ↔ jx_Ev d 15 14 [l0, some (.ref x), l2, l3, l4, l5] (.ref x :: st) M Q) ∧
  (∀ (d : Nat) (st : List Value) (M : jx_M) (Q : jx_Po) (l0 l1 l2 l3 l4 : Option Value) (x : Int32), jx_Ev d 15 14 [l0, l1, l2, l3, l4, some (.int x)] st M Q ↔ jx_Ev d 15 16 [l0, l1, l2, l3, l4, some (.int x)] (.int x :: st) M Q) ∧
  (∀ (d : Nat) (st : List Value) (M : jx_M) (Q : jx_Po) (l0 l1 l3 l4 l5 : Option Value) (x : Int32), jx_Ev d 15 16 [l0, l1, some (.int x), l3, l4, l5] st M Q ↔ jx_Ev d 15 17 [l0, l1, some (.int x), l3, l4, l5] (.int x :: st) M Q) ∧
  (∀ (d : Nat) (lv : List (Option Value)) (M : jx_M) (Q : jx_Po) (a0 : Int32) (a1 : Int32) (a2 : Nat) (hk : jx_cl a2 = 1), jx_Ev (d + 1) 15 17 lv [.int a0, .int a1, .ref a2] M Q ↔ jx_I d 7 [.ref a2, .int a1, .int a0] M (fun x M => jx_Ev (d + 1) 15 20 lv (.int x :: []) M Q)) ∧
  (∀ (d : Nat) (lv : List (Option Value)) (st : List Value) (M : jx_M) (Q : jx_Po) (x : Int32), jx_Ev d 15 20 lv (.int x :: st) M Q ↔ (if x = 0 then jx_Ev d 15 46 lv st M Q else jx_Ev d 15 23 lv st M Q)) ∧
  (∀ (d : Nat) (st : List Value) (M : jx_M) (Q : jx_Po) (l1 l2 l3 l4 l5 : Option Value) (x : Nat), jx_Ev d 15 23 [some (.ref x), l1, l2, l3, l4, l5] st M Q ↔ jx_Ev d 15 24 [some (.ref x), l1, l2, l3, l4, l5] (.ref x :: st) M Q) ∧
  (∀ (d : Nat) (lv : List (Option Value)) (st : List Value) (M : jx_M) (Q : jx_Po), jx_Ev d 15 24 lv (.ref 7 :: st) M Q ↔ jx_Ev d 15 27 lv (.ref 8 :: st) M Q) ∧
  (∀ (d : Nat) (st : List Value) (M : jx_M) (Q : jx_Po) (l0 l1 l2 l3 l4 : Option Value) (x : Int32), jx_Ev d 15 27 [l0, l1, l2, l3, l4, some (.int x)] st M Q ↔ jx_Ev d 15 29 [l0, l1, l2, l3, l4, some (.int x)] (.int x :: st) M Q) ∧
  (∀ (d : Nat) (lv : List (Option Value)) (st : List Value) (M : jx_M) (Q : jx_Po) (x : Int32) (a : Nat) (ha : jx_cl a = 9), jx_Ev d 15 29 lv (.int x :: .ref a :: st) M Q ↔ (vp_in x (jx_sz a) ∧ jx_Ev d 15 30 lv (.int (M a x.toNatClampNeg) :: st) M Q)) ∧
  (∀ (d : Nat) (st : List Value) (M : jx_M) (Q : jx_Po) (l0 l1 l2 l4 l5 : Option Value) (x : Int32), jx_Ev d 15 30 [l0, l1, l2, some (.int x), l4, l5] st M Q ↔ jx_Ev d 15 31 [l0, l1, l2, some (.int x), l4, l5] (.int x :: st) M Q) ∧
  (∀ (d : Nat) (lv : List (Option Value)) (st : List Value) (M : jx_M) (Q : jx_Po) (x z : Int32), jx_Ev d 15 31 lv (.int z :: .int x :: st) M Q ↔ (if x = z then jx_Ev d 15 34 lv st M Q else jx_Ev d 15 46 lv st M Q)) ∧
  (∀ (d : Nat) (st : List Value) (M : jx_M) (Q : jx_Po) (l0 l1 l2 l3 l5 : Option Value) (x : Int32), jx_Ev d 15 34 [l0, l1, l2, l3, some (.int x), l5] st M Q ↔ jx_Ev d 15 36 [l0, l1, l2, l3, some (.int x), l5] (.int x :: st) M Q) ∧
  (∀ (d : Nat) (st : List Value) (M : jx_M) (Q : jx_Po) (l0 l2 l3 l4 l5 : Option Value) (x : Nat), jx_Ev d 15 36 [l0, some (.ref x), l2, l3, l4, l5] st M Q ↔ jx_Ev d 15 37 [l0, some (.ref x), l2, l3, l4, l5] (.ref x :: st) M Q) ∧
  (∀ (d : Nat) (st : List Value) (M : jx_M) (Q : jx_Po) (l0 l1 l2 l3 l4 : Option Value) (x : Int32), jx_Ev d 15 37 [l0, l1, l2, l3, l4, some (.int x)] st M Q ↔ jx_Ev d 15 39 [l0, l1, l2, l3, l4, some (.int x)] (.int x :: st) M Q) ∧
  (∀ (d : Nat) (st : List Value) (M : jx_M) (Q : jx_Po) (l0 l1 l2 l4 l5 : Option Value) (x : Int32), jx_Ev d 15 39 [l0, l1, l2, some (.int x), l4, l5] st M Q ↔ jx_Ev d 15 40 [l0, l1, l2, some (.int x), l4, l5] (.int x :: st) M Q) ∧
  (∀ (d : Nat) (lv : List (Option Value)) (M : jx_M) (Q : jx_Po) (a0 : Int32) (a1 : Int32) (a2 : Nat) (a3 : Int32) (hk : jx_cl a2 = 1), jx_Ev (d + 1) 15 40 lv [.int a0, .int a1, .ref a2, .int a3] M Q ↔ jx_I d 10 [.ref a2, .int a1, .int a0] M (fun x M => jx_Ev (d + 1) 15 43 lv (.int x :: [.int a3]) M Q)) ∧
  (∀ (d : Nat) (lv : List (Option Value)) (st : List Value) (M : jx_M) (Q : jx_Po) (x z : Int32), jx_Ev d 15 43 lv (.int z :: .int x :: st) M Q ↔ jx_Ev d 15 44 lv (.int (x + z) :: st) M Q) ∧
  (∀ (d : Nat) (st : List Value) (M : jx_M) (Q : jx_Po) (l0 l1 l2 l3 l4 l5 : Option Value) (x : Int32), jx_Ev d 15 44 [l0, l1, l2, l3, l4, l5] (.int x :: st) M Q ↔ jx_Ev d 15 46 [l0, l1, l2, l3, some (.int x), l5] st M Q) ∧
  (∀ (d : Nat) (st : List Value) (M : jx_M) (Q : jx_Po) (l0 l1 l2 l3 l4 : Option Value) (x : Int32), jx_Ev d 15 46 [l0, l1, l2, l3, l4, some (.int x)] st M Q ↔ jx_Ev d 15 49 [l0, l1, l2, l3, l4, some (.int (x + 1))] st M Q) ∧
  (∀ (d : Nat) (lv : List (Option Value)) (st : List Value) (M : jx_M) (Q : jx_Po), jx_Ev d 15 49 lv st M Q ↔ jx_Ev d 15 6 lv st M Q) ∧
  (∀ (d : Nat) (st : List Value) (M : jx_M) (Q : jx_Po) (l0 l2 l3 l4 l5 : Option Value) (x : Nat), jx_Ev d 15 52 [l0, some (.ref x), l2, l3, l4, l5] st M Q ↔ jx_Ev d 15 53 [l0, some (.ref x), l2, l3, l4, l5] (.ref x :: st) M Q) ∧
  (∀ (d : Nat) (st : List Value) (M : jx_M) (Q : jx_Po) (l0 l1 l3 l4 l5 : Option Value) (x : Int32), jx_Ev d 15 53 [l0, l1, some (.int x), l3, l4, l5] st M Q ↔ jx_Ev d 15 54 [l0, l1, some (.int x), l3, l4, l5] (.int x :: st) M Q) ∧
  (∀ (d : Nat) (lv : List (Option Value)) (M : jx_M) (Q : jx_Po) (a0 : Int32) (a1 : Nat) (hk : jx_cl a1 = 1), jx_Ev (d + 1) 15 54 lv [.int a0, .ref a1] M Q ↔ jx_I d 5 [.ref a1, .int a0] M (fun x M => jx_Ev (d + 1) 15 57 lv (.int x :: []) M Q)) ∧
  (∀ (d : Nat) (lv : List (Option Value)) (st : List Value) (M : jx_M) (Q : jx_Po) (x : Int32), jx_Ev d 15 57 lv (.int x :: st) M Q ↔ (if x = 0 then jx_Ev d 15 76 lv st M Q else jx_Ev d 15 60 lv st M Q)) ∧
  (∀ (d : Nat) (lv : List (Option Value)) (st : List Value) (M : jx_M) (Q : jx_Po), jx_Ev d 15 60 lv st M Q ↔ jx_Ev d 15 61 lv (.int 0 :: st) M Q) ∧
  (∀ (d : Nat) (st : List Value) (M : jx_M) (Q : jx_Po) (l0 l1 l2 l3 l5 : Option Value) (x : Int32), jx_Ev d 15 61 [l0, l1, l2, l3, some (.int x), l5] st M Q ↔ jx_Ev d 15 63 [l0, l1, l2, l3, some (.int x), l5] (.int x :: st) M Q) ∧
  (∀ (d : Nat) (st : List Value) (M : jx_M) (Q : jx_Po) (l0 l2 l3 l4 l5 : Option Value) (x : Nat), jx_Ev d 15 63 [l0, some (.ref x), l2, l3, l4, l5] st M Q ↔ jx_Ev d 15 64 [l0, some (.ref x), l2, l3, l4, l5] (.ref x :: st) M Q) ∧
  (∀ (d : Nat) (lv : List (Option Value)) (st : List Value) (M : jx_M) (Q : jx_Po) (k : Nat) (hk : jx_cl k = 1), jx_Ev d 15 64 lv (.ref k :: st) M Q ↔ jx_Ev d 15 67 lv (.ref (k + 1) :: st) M Q) ∧
  (∀ (d : Nat) (st : List Value) (M : jx_M) (Q : jx_Po) (l0 l1 l3 l4 l5 : Option Value) (x : Int32), jx_Ev d 15 67 [l0, l1, some (.int x), l3, l4, l5] st M Q ↔ jx_Ev d 15 68 [l0, l1, some (.int x), l3, l4, l5] (.int x :: st) M Q) ∧
  (∀ (d : Nat) (lv : List (Option Value)) (st : List Value) (M : jx_M) (Q : jx_Po) (x : Int32) (a : Nat) (ha : jx_cl a = 9), jx_Ev d 15 68 lv (.int x :: .ref a :: st) M Q ↔ (vp_in x (jx_sz a) ∧ jx_Ev d 15 69 lv (.int (M a x.toNatClampNeg) :: st) M Q)) ∧
  (∀ (d : Nat) (lv : List (Option Value)) (st : List Value) (M : jx_M) (Q : jx_Po) (x z : Int32), jx_Ev d 15 69 lv (.int z :: .int x :: st) M Q ↔ jx_Ev d 15 70 lv (.int (x - z) :: st) M Q) ∧
  (∀ (d : Nat) (lv : List (Option Value)) (M : jx_M) (Q : jx_Po) (a0 : Int32) (a1 : Int32), jx_Ev (d + 1) 15 70 lv [.int a0, .int a1] M Q ↔ jx_Ev (d + 1) 15 73 lv (.int (if a1 < a0 then a0 else a1) :: []) M Q) ∧
  (∀ (d : Nat) (lv : List (Option Value)) (st : List Value) (M : jx_M) (Q : jx_Po), jx_Ev d 15 73 lv st M Q ↔ jx_Ev d 15 77 lv st M Q) ∧
  (∀ (d : Nat) (lv : List (Option Value)) (st : List Value) (M : jx_M) (Q : jx_Po), jx_Ev d 15 76 lv st M Q ↔ jx_Ev d 15 77 lv (.int 0 :: st) M Q) ∧
  (∀ (d : Nat) (lv : List (Option Value)) (M : jx_M) (Q : jx_Po) (x : Int32), jx_Ev d 15 77 lv [.int x] M Q ↔ Q [.int x] M) := by
  refine ⟨?_, ?_, ?_, ?_, ?_, ?_, ?_, ?_, ?_, ?_, ?_, ?_, ?_, ?_, ?_, ?_, ?_, ?_, ?_, ?_, ?_, ?_, ?_, ?_, ?_, ?_, ?_, ?_, ?_, ?_, ?_, ?_, ?_, ?_, ?_, ?_, ?_, ?_, ?_, ?_, ?_⟩
  · exact fun d lv st M Q => jx_ev_st (jx_fok (by decide +kernel : decode (jx_mb 15) 0 = .ok (.iconst 0, 1))) rfl rfl rfl
  · exact fun d st M Q l0 l1 l2 l3 l4 l5 x => jx_ev_st (jx_fok (by decide +kernel : decode (jx_mb 15) 1 = .ok (.istore 4, 2))) rfl rfl rfl
  · exact fun d lv st M Q => jx_ev_st (jx_fok (by decide +kernel : decode (jx_mb 15) 3 = .ok (.iconst 0, 1))) rfl rfl rfl
  · exact fun d st M Q l0 l1 l2 l3 l4 l5 x => jx_ev_st (jx_fok (by decide +kernel : decode (jx_mb 15) 4 = .ok (.istore 5, 2))) rfl rfl rfl
  · exact fun d lv st M Q => jx_ev_st (jx_fok (by decide +kernel : decode (jx_mb 15) 8 = .ok (.bipush 6, 2))) rfl rfl rfl
  · exact fun d lv st M Q x z => jx_k_b2 (jx_fok (by decide +kernel : decode (jx_mb 15) 10 = .ok (.if_icmp .ge 42, 3))) rfl jx_hGe
  · exact fun d st M Q l0 l2 l3 l4 l5 x => jx_ev_st (jx_fok (by decide +kernel : decode (jx_mb 15) 13 = .ok (.aload_n 1, 1))) rfl rfl rfl
  · exact fun d st M Q l0 l1 l2 l3 l4 x => jx_ev_st (jx_fok (by decide +kernel : decode (jx_mb 15) 14 = .ok (.iload 5, 2))) rfl rfl rfl
  · exact fun d st M Q l0 l1 l3 l4 l5 x => jx_ev_st (jx_fok (by decide +kernel : decode (jx_mb 15) 16 = .ok (.iload_n 2, 1))) rfl rfl rfl
  · exact fun d lv M Q a0 a1 a2 hk => jx_ev_ci (jx_fok (by decide +kernel : decode (jx_mb 15) 17 = .ok (.invokevirtual 31, 3))) rfl (jx_ccV (As := [.int a1, .int a0]) (rest := []) rfl rfl rfl hk rfl rfl) (by decide)
  · exact fun d lv st M Q x => jx_k_b1 (jx_fok (by decide +kernel : decode (jx_mb 15) 20 = .ok (.ifCond .eq 26, 3))) rfl jx_hEq
  · exact fun d st M Q l1 l2 l3 l4 l5 x => jx_ev_st (jx_fok (by decide +kernel : decode (jx_mb 15) 23 = .ok (.aload_n 0, 1))) rfl rfl rfl
  · exact fun d lv st M Q => jx_k_gf (jx_fok (by decide +kernel : decode (jx_mb 15) 24 = .ok (.getfield 9, 3))) rfl rfl rfl
  · exact fun d st M Q l0 l1 l2 l3 l4 x => jx_ev_st (jx_fok (by decide +kernel : decode (jx_mb 15) 27 = .ok (.iload 5, 2))) rfl rfl rfl
  · exact fun d lv st M Q x a ha => jx_k_al (jx_fok (by decide +kernel : decode (jx_mb 15) 29 = .ok (.iaload, 1))) ha
  · exact fun d st M Q l0 l1 l2 l4 l5 x => jx_ev_st (jx_fok (by decide +kernel : decode (jx_mb 15) 30 = .ok (.iload_n 3, 1))) rfl rfl rfl
  · exact fun d lv st M Q x z => jx_k_b2n (jx_fok (by decide +kernel : decode (jx_mb 15) 31 = .ok (.if_icmp .ne 15, 3))) rfl jx_hNe
  · exact fun d st M Q l0 l1 l2 l3 l5 x => jx_ev_st (jx_fok (by decide +kernel : decode (jx_mb 15) 34 = .ok (.iload 4, 2))) rfl rfl rfl
  · exact fun d st M Q l0 l2 l3 l4 l5 x => jx_ev_st (jx_fok (by decide +kernel : decode (jx_mb 15) 36 = .ok (.aload_n 1, 1))) rfl rfl rfl
  · exact fun d st M Q l0 l1 l2 l3 l4 x => jx_ev_st (jx_fok (by decide +kernel : decode (jx_mb 15) 37 = .ok (.iload 5, 2))) rfl rfl rfl
  · exact fun d st M Q l0 l1 l2 l4 l5 x => jx_ev_st (jx_fok (by decide +kernel : decode (jx_mb 15) 39 = .ok (.iload_n 3, 1))) rfl rfl rfl
  · exact fun d lv M Q a0 a1 a2 a3 hk => jx_ev_ci (jx_fok (by decide +kernel : decode (jx_mb 15) 40 = .ok (.invokevirtual 35, 3))) rfl (jx_ccV (As := [.int a1, .int a0]) (rest := [.int a3]) rfl rfl rfl hk rfl rfl) (by decide)
  · exact fun d lv st M Q x z => jx_ev_st (jx_fok (by decide +kernel : decode (jx_mb 15) 43 = .ok (.iadd, 1))) rfl rfl rfl
  · exact fun d st M Q l0 l1 l2 l3 l4 l5 x => jx_ev_st (jx_fok (by decide +kernel : decode (jx_mb 15) 44 = .ok (.istore 4, 2))) rfl rfl rfl
  · exact fun d st M Q l0 l1 l2 l3 l4 x => jx_ev_st (jx_fok (by decide +kernel : decode (jx_mb 15) 46 = .ok (.iinc 5 1, 3))) rfl rfl rfl
  · exact fun d lv st M Q => jx_k_goto (jx_fok (by decide +kernel : decode (jx_mb 15) 49 = .ok (.goto (-43), 3))) rfl
  · exact fun d st M Q l0 l2 l3 l4 l5 x => jx_ev_st (jx_fok (by decide +kernel : decode (jx_mb 15) 52 = .ok (.aload_n 1, 1))) rfl rfl rfl
  · exact fun d st M Q l0 l1 l3 l4 l5 x => jx_ev_st (jx_fok (by decide +kernel : decode (jx_mb 15) 53 = .ok (.iload_n 2, 1))) rfl rfl rfl
  · exact fun d lv M Q a0 a1 hk => jx_ev_ci (jx_fok (by decide +kernel : decode (jx_mb 15) 54 = .ok (.invokevirtual 39, 3))) rfl (jx_ccV (As := [.int a0]) (rest := []) rfl rfl rfl hk rfl rfl) (by decide)
  · exact fun d lv st M Q x => jx_k_b1 (jx_fok (by decide +kernel : decode (jx_mb 15) 57 = .ok (.ifCond .eq 19, 3))) rfl jx_hEq
  · exact fun d lv st M Q => jx_ev_st (jx_fok (by decide +kernel : decode (jx_mb 15) 60 = .ok (.iconst 0, 1))) rfl rfl rfl
  · exact fun d st M Q l0 l1 l2 l3 l5 x => jx_ev_st (jx_fok (by decide +kernel : decode (jx_mb 15) 61 = .ok (.iload 4, 2))) rfl rfl rfl
  · exact fun d st M Q l0 l2 l3 l4 l5 x => jx_ev_st (jx_fok (by decide +kernel : decode (jx_mb 15) 63 = .ok (.aload_n 1, 1))) rfl rfl rfl
  · exact fun d lv st M Q k hk => jx_k_gf (jx_fok (by decide +kernel : decode (jx_mb 15) 64 = .ok (.getfield 43, 3))) rfl hk rfl
  · exact fun d st M Q l0 l1 l3 l4 l5 x => jx_ev_st (jx_fok (by decide +kernel : decode (jx_mb 15) 67 = .ok (.iload_n 2, 1))) rfl rfl rfl
  · exact fun d lv st M Q x a ha => jx_k_al (jx_fok (by decide +kernel : decode (jx_mb 15) 68 = .ok (.iaload, 1))) ha
  · exact fun d lv st M Q x z => jx_ev_st (jx_fok (by decide +kernel : decode (jx_mb 15) 69 = .ok (.isub, 1))) rfl rfl rfl
  · exact fun d lv M Q a0 a1 => jx_k_max (jx_fok (by decide +kernel : decode (jx_mb 15) 70 = .ok (.invokestatic 46, 3))) rfl rfl (Nat.le_of_ble_eq_true rfl)
  · exact fun d lv st M Q => jx_k_goto (jx_fok (by decide +kernel : decode (jx_mb 15) 73 = .ok (.goto 4, 3))) rfl
  · exact fun d lv st M Q => jx_ev_st (jx_fok (by decide +kernel : decode (jx_mb 15) 76 = .ok (.iconst 0, 1))) rfl rfl rfl
  · exact fun d lv M Q x => jx_k_ri (jx_fok (by decide +kernel : decode (jx_mb 15) 77 = .ok (.ireturn, 1))) rfl
theorem eX2_harmIn_6 (d : Nat) (st : List Value) (M : jx_M) (Q : jx_Po) (l0 l1 l2 l3 l4 : Option Value) (x : Int32) : jx_Ev d 15 6 [l0, l1, l2, l3, l4, some (.int x)] st M Q ↔ jx_Ev d 15 8 [l0, l1, l2, l3, l4, some (.int x)] (.int x :: st) M Q := jx_ev_st (jx_fok (by decide +kernel : decode (jx_mb 15) 6 = .ok (.iload 5, 2))) rfl rfl rfl
theorem kX2_harmIn (d : Nat) (M : jx_M) (q : Int32 → jx_M → Prop) (a0 a1 a2 a3 : Value) : jx_I d 15 [a0, a1, a2, a3] M q ↔ jx_Ev d 15 0 [some a0, some a1, some a2, some a3, none, none] [] M (jx_qI q) := Iff.rfl
set_option maxRecDepth 100000 in
theorem eX2_harmToAll :
  (∀ (d : Nat) (lv : List (Option Value)) (st : List Value) (M : jx_M) (Q : jx_Po), jx_Ev d 16 0 lv st M Q ↔ jx_Ev d 16 1 lv (.int 0 :: st) M Q) ∧
  (∀ (d : Nat) (st : List Value) (M : jx_M) (Q : jx_Po) (l0 l1 l2 l3 : Option Value) (x : Int32), jx_Ev d 16 1 [l0, l1, l2, l3] (.int x :: st) M Q ↔ jx_Ev d 16 2 [l0, l1, some (.int x), l3] st M Q) ∧
  (∀ (d : Nat) (lv : List (Option Value)) (st : List Value) (M : jx_M) (Q : jx_Po), jx_Ev d 16 2 lv st M Q ↔ jx_Ev d 16 3 lv (.int 0 :: st) M Q) ∧
  (∀ (d : Nat) (st : List Value) (M : jx_M) (Q : jx_Po) (l0 l1 l2 l3 : Option Value) (x : Int32), jx_Ev d 16 3 [l0, l1, l2, l3] (.int x :: st) M Q ↔ jx_Ev d 16 4 [l0, l1, l2, some (.int x)] st M Q) ∧
  (∀ (d : Nat) (lv : List (Option Value)) (st : List Value) (M : jx_M) (Q : jx_Po), jx_Ev d 16 5 lv st M Q ↔ jx_Ev d 16 6 lv (.int 5 :: st) M Q) ∧
  (∀ (d : Nat) (lv : List (Option Value)) (st : List Value) (M : jx_M) (Q : jx_Po) (x z : Int32), jx_Ev d 16 6 lv (.int z :: .int x :: st) M Q ↔ (if z ≤ x then jx_Ev d 16 24 lv st M Q else jx_Ev d 16 9 lv st M Q)) ∧
  (∀ (d : Nat) (st : List Value) (M : jx_M) (Q : jx_Po) (l0 l1 l3 : Option Value) (x : Int32), jx_Ev d 16 9 [l0, l1, some (.int x), l3] st M Q ↔ jx_Ev d 16 10 [l0, l1, some (.int x), l3] (.int x :: st) M Q) ∧
  (∀ (d : Nat) (st : List Value) (M : jx_M) (Q : jx_Po) (l1 l2 l3 : Option Value) (x : Nat), jx_Ev d 16 10 [some (.ref x), l1, l2, l3] st M Q ↔ jx_Ev d 16 11 [some (.ref x), l1, l2, l3] (.ref x :: st) M Q) ∧
  (∀ (d : Nat) (st : List Value) (M : jx_M) (Q : jx_Po) (l0 l2 l3 : Option Value) (x : Nat), jx_Ev d 16 11 [l0, some (.ref x), l2, l3] st M Q ↔ jx_Ev d 16 12 [l0, some (.ref x), l2, l3] (.ref x :: st) M Q) ∧
  (∀ (d : Nat) (st : List Value) (M : jx_M) (Q : jx_Po) (l0 l1 l2 : Option Value) (x : Int32), jx_Ev d 16 12 [l0, l1, l2, some (.int x)] st M Q ↔ jx_Ev d 16 13 [l0, l1, l2, some (.int x)] (.int x :: st) M Q) ∧
  (∀ (d : Nat) (lv : List (Option Value)) (M : jx_M) (Q : jx_Po) (a0 : Int32) (a1 : Nat) (a3 : Int32), jx_Ev (d + 1) 16 13 lv [.int a0, .ref a1, .ref 7, .int a3] M Q ↔ jx_I d 14 [.ref 7, .ref a1, .int a0] M (fun x M => jx_Ev (d + 1) 16 16 lv (.int x :: [.int a3]) M Q)) ∧
  (∀ (d : Nat) (lv : List (Option Value)) (st : List Value) (M : jx_M) (Q : jx_Po) (x z : Int32), jx_Ev d 16 16 lv (.int z :: .int x :: st) M Q ↔ jx_Ev d 16 17 lv (.int (x + z) :: st) M Q) ∧
  (∀ (d : Nat) (st : List Value) (M : jx_M) (Q : jx_Po) (l0 l1 l2 l3 : Option Value) (x : Int32), jx_Ev d 16 17 [l0, l1, l2, l3] (.int x :: st) M Q ↔ jx_Ev d 16 18 [l0, l1, some (.int x), l3] st M Q) ∧
  (∀ (d : Nat) (st : List Value) (M : jx_M) (Q : jx_Po) (l0 l1 l2 : Option Value) (x : Int32), jx_Ev d 16 18 [l0, l1, l2, some (.int x)] st M Q ↔ jx_Ev d 16 21 [l0, l1, l2, some (.int (x + 1))] st M Q) ∧
  (∀ (d : Nat) (lv : List (Option Value)) (st : List Value) (M : jx_M) (Q : jx_Po), jx_Ev d 16 21 lv st M Q ↔ jx_Ev d 16 4 lv st M Q) ∧
  (∀ (d : Nat) (st : List Value) (M : jx_M) (Q : jx_Po) (l0 l1 l3 : Option Value) (x : Int32), jx_Ev d 16 24 [l0, l1, some (.int x), l3] st M Q ↔ jx_Ev d 16 25 [l0, l1, some (.int x), l3] (.int x :: st) M Q) ∧
  (∀ (d : Nat) (lv : List (Option Value)) (M : jx_M) (Q : jx_Po) (x : Int32), jx_Ev d 16 25 lv [.int x] M Q ↔ Q [.int x] M) := by
  refine ⟨?_, ?_, ?_, ?_, ?_, ?_, ?_, ?_, ?_, ?_, ?_, ?_, ?_, ?_, ?_, ?_, ?_⟩
  · exact fun d lv st M Q => jx_ev_st (jx_fok (by decide +kernel : decode (jx_mb 16) 0 = .ok (.iconst 0, 1))) rfl rfl rfl
  · exact fun d st M Q l0 l1 l2 l3 x => jx_ev_st (jx_fok (by decide +kernel : decode (jx_mb 16) 1 = .ok (.istore_n 2, 1))) rfl rfl rfl
  · exact fun d lv st M Q => jx_ev_st (jx_fok (by decide +kernel : decode (jx_mb 16) 2 = .ok (.iconst 0, 1))) rfl rfl rfl
  · exact fun d st M Q l0 l1 l2 l3 x => jx_ev_st (jx_fok (by decide +kernel : decode (jx_mb 16) 3 = .ok (.istore_n 3, 1))) rfl rfl rfl
  · exact fun d lv st M Q => jx_ev_st (jx_fok (by decide +kernel : decode (jx_mb 16) 5 = .ok (.iconst 5, 1))) rfl rfl rfl
  · exact fun d lv st M Q x z => jx_k_b2 (jx_fok (by decide +kernel : decode (jx_mb 16) 6 = .ok (.if_icmp .ge 18, 3))) rfl jx_hGe
  · exact fun d st M Q l0 l1 l3 x => jx_ev_st (jx_fok (by decide +kernel : decode (jx_mb 16) 9 = .ok (.iload_n 2, 1))) rfl rfl rfl
  · exact fun d st M Q l1 l2 l3 x => jx_ev_st (jx_fok (by decide +kernel : decode (jx_mb 16) 10 = .ok (.aload_n 0, 1))) rfl rfl rfl
  · exact fun d st M Q l0 l2 l3 x => jx_ev_st (jx_fok (by decide +kernel : decode (jx_mb 16) 11 = .ok (.aload_n 1, 1))) rfl rfl rfl
  · exact fun d st M Q l0 l1 l2 x => jx_ev_st (jx_fok (by decide +kernel : decode (jx_mb 16) 12 = .ok (.iload_n 3, 1))) rfl rfl rfl
  · exact fun d lv M Q a0 a1 a3 => jx_ev_ci (jx_fok (by decide +kernel : decode (jx_mb 16) 13 = .ok (.invokevirtual 51, 3))) rfl (jx_ccV (As := [.ref a1, .int a0]) (rest := [.int a3]) rfl rfl rfl rfl rfl rfl) (by decide)
  · exact fun d lv st M Q x z => jx_ev_st (jx_fok (by decide +kernel : decode (jx_mb 16) 16 = .ok (.iadd, 1))) rfl rfl rfl
  · exact fun d st M Q l0 l1 l2 l3 x => jx_ev_st (jx_fok (by decide +kernel : decode (jx_mb 16) 17 = .ok (.istore_n 2, 1))) rfl rfl rfl
  · exact fun d st M Q l0 l1 l2 x => jx_ev_st (jx_fok (by decide +kernel : decode (jx_mb 16) 18 = .ok (.iinc 3 1, 3))) rfl rfl rfl
  · exact fun d lv st M Q => jx_k_goto (jx_fok (by decide +kernel : decode (jx_mb 16) 21 = .ok (.goto (-17), 3))) rfl
  · exact fun d st M Q l0 l1 l3 x => jx_ev_st (jx_fok (by decide +kernel : decode (jx_mb 16) 24 = .ok (.iload_n 2, 1))) rfl rfl rfl
  · exact fun d lv M Q x => jx_k_ri (jx_fok (by decide +kernel : decode (jx_mb 16) 25 = .ok (.ireturn, 1))) rfl
theorem eX2_harmToAll_4 (d : Nat) (st : List Value) (M : jx_M) (Q : jx_Po) (l0 l1 l2 : Option Value) (x : Int32) : jx_Ev d 16 4 [l0, l1, l2, some (.int x)] st M Q ↔ jx_Ev d 16 5 [l0, l1, l2, some (.int x)] (.int x :: st) M Q := jx_ev_st (jx_fok (by decide +kernel : decode (jx_mb 16) 4 = .ok (.iload_n 3, 1))) rfl rfl rfl
theorem kX2_harmToAll (d : Nat) (M : jx_M) (q : Int32 → jx_M → Prop) (a0 a1 : Value) : jx_I d 16 [a0, a1] M q ↔ jx_Ev d 16 0 [some a0, some a1, none, none] [] M (jx_qI q) := Iff.rfl
set_option maxRecDepth 100000 in
theorem eX2_mostHarmed :
  (∀ (d : Nat) (lv : List (Option Value)) (st : List Value) (M : jx_M) (Q : jx_Po), jx_Ev d 17 0 lv st M Q ↔ jx_Ev d 17 1 lv (.int 0 :: st) M Q) ∧
  (∀ (d : Nat) (st : List Value) (M : jx_M) (Q : jx_Po) (l0 l1 l2 l3 l4 l5 : Option Value) (x : Int32), jx_Ev d 17 1 [l0, l1, l2, l3, l4, l5] (.int x :: st) M Q ↔ jx_Ev d 17 2 [l0, l1, some (.int x), l3, l4, l5] st M Q) ∧
  (∀ (d : Nat) (lv : List (Option Value)) (st : List Value) (M : jx_M) (Q : jx_Po), jx_Ev d 17 2 lv st M Q ↔ jx_Ev d 17 4 lv (.int (-9) :: st) M Q) ∧
  (∀ (d : Nat) (st : List Value) (M : jx_M) (Q : jx_Po) (l0 l1 l2 l3 l4 l5 : Option Value) (x : Int32), jx_Ev d 17 4 [l0, l1, l2, l3, l4, l5] (.int x :: st) M Q ↔ jx_Ev d 17 5 [l0, l1, l2, some (.int x), l4, l5] st M Q) ∧
  (∀ (d : Nat) (lv : List (Option Value)) (st : List Value) (M : jx_M) (Q : jx_Po), jx_Ev d 17 5 lv st M Q ↔ jx_Ev d 17 6 lv (.int 0 :: st) M Q) ∧
  (∀ (d : Nat) (st : List Value) (M : jx_M) (Q : jx_Po) (l0 l1 l2 l3 l4 l5 : Option Value) (x : Int32), jx_Ev d 17 6 [l0, l1, l2, l3, l4, l5] (.int x :: st) M Q ↔ jx_Ev d 17 8 [l0, l1, l2, l3, some (.int x), l5] st M Q) ∧
  (∀ (d : Nat) (lv : List (Option Value)) (st : List Value) (M : jx_M) (Q : jx_Po), jx_Ev d 17 10 lv st M Q ↔ jx_Ev d 17 11 lv (.int 5 :: st) M Q) ∧
  (∀ (d : Nat) (lv : List (Option Value)) (st : List Value) (M : jx_M) (Q : jx_Po) (x z : Int32), jx_Ev d 17 11 lv (.int z :: .int x :: st) M Q ↔ (if z ≤ x then jx_Ev d 17 41 lv st M Q else jx_Ev d 17 14 lv st M Q)) ∧
  (∀ (d : Nat) (st : List Value) (M : jx_M) (Q : jx_Po) (l1 l2 l3 l4 l5 : Option Value) (x : Nat), jx_Ev d 17 14 [some (.ref x), l1, l2, l3, l4, l5] st M Q ↔ jx_Ev d 17 15 [some (.ref x), l1, l2, l3, l4, l5] (.ref x :: st) M Q) ∧
  (∀ (d : Nat) (st : List Value) (M : jx_M) (Q : jx_Po) (l0 l2 l3 l4 l5 : Option Value) (x : Nat), jx_Ev d 17 15 [l0, some (.ref x), l2, l3, l4, l5] st M Q ↔ jx_Ev d 17 16 [l0, some (.ref x), l2, l3, l4, l5] (.ref x :: st) M Q) ∧
  (∀ (d : Nat) (st : List Value) (M : jx_M) (Q : jx_Po) (l0 l1 l2 l3 l5 : Option Value) (x : Int32), jx_Ev d 17 16 [l0, l1, l2, l3, some (.int x), l5] st M Q ↔ jx_Ev d 17 18 [l0, l1, l2, l3, some (.int x), l5] (.int x :: st) M Q) ∧
  (∀ (d : Nat) (lv : List (Option Value)) (M : jx_M) (Q : jx_Po) (a0 : Int32) (a1 : Nat), jx_Ev (d + 1) 17 18 lv [.int a0, .ref a1, .ref 7] M Q ↔ jx_I d 14 [.ref 7, .ref a1, .int a0] M (fun x M => jx_Ev (d + 1) 17 21 lv (.int x :: []) M Q)) ∧
  (∀ (d : Nat) (st : List Value) (M : jx_M) (Q : jx_Po) (l0 l1 l2 l3 l4 l5 : Option Value) (x : Int32), jx_Ev d 17 21 [l0, l1, l2, l3, l4, l5] (.int x :: st) M Q ↔ jx_Ev d 17 23 [l0, l1, l2, l3, l4, some (.int x)] st M Q) ∧
  (∀ (d : Nat) (st : List Value) (M : jx_M) (Q : jx_Po) (l0 l1 l2 l3 l4 : Option Value) (x : Int32), jx_Ev d 17 23 [l0, l1, l2, l3, l4, some (.int x)] st M Q ↔ jx_Ev d 17 25 [l0, l1, l2, l3, l4, some (.int x)] (.int x :: st) M Q) ∧
  (∀ (d : Nat) (st : List Value) (M : jx_M) (Q : jx_Po) (l0 l1 l3 l4 l5 : Option Value) (x : Int32), jx_Ev d 17 25 [l0, l1, some (.int x), l3, l4, l5] st M Q ↔ jx_Ev d 17 26 [l0, l1, some (.int x), l3, l4, l5] (.int x :: st) M Q) ∧
  (∀ (d : Nat) (lv : List (Option Value)) (st : List Value) (M : jx_M) (Q : jx_Po) (x z : Int32), jx_Ev d 17 26 lv (.int z :: .int x :: st) M Q ↔ (if x ≤ z then jx_Ev d 17 35 lv st M Q else jx_Ev d 17 29 lv st M Q)) ∧
  (∀ (d : Nat) (st : List Value) (M : jx_M) (Q : jx_Po) (l0 l1 l2 l3 l4 : Option Value) (x : Int32), jx_Ev d 17 29 [l0, l1, l2, l3, l4, some (.int x)] st M Q ↔ jx_Ev d 17 31 [l0, l1, l2, l3, l4, some (.int x)] (.int x :: st) M Q) ∧
  (∀ (d : Nat) (st : List Value) (M : jx_M) (Q : jx_Po) (l0 l1 l2 l3 l4 l5 : Option Value) (x : Int32), jx_Ev d 17 31 [l0, l1, l2, l3, l4, l5] (.int x :: st) M Q ↔ jx_Ev d 17 32 [l0, l1, some (.int x), l3, l4, l5] st M Q) ∧
  (∀ (d : Nat) (st : List Value) (M : jx_M) (Q : jx_Po) (l0 l1 l2 l3 l5 : Option Value) (x : Int32), jx_Ev d 17 32 [l0, l1, l2, l3, some (.int x), l5] st M Q ↔ jx_Ev d 17 34 [l0, l1, l2, l3, some (.int x), l5] (.int x :: st) M Q) ∧
  (∀ (d : Nat) (st : List Value) (M : jx_M) (Q : jx_Po) (l0 l1 l2 l3 l4 l5 : Option Value) (x : Int32), jx_Ev d 17 34 [l0, l1, l2, l3, l4, l5] (.int x :: st) M Q ↔ jx_Ev d 17 35 [l0, l1, l2, some (.int x), l4, l5] st M Q) ∧
  (∀ (d : Nat) (st : List Value) (M : jx_M) (Q : jx_Po) (l0 l1 l2 l3 l5 : Option Value) (x : Int32), jx_Ev d 17 35 [l0, l1, l2, l3, some (.int x), l5] st M Q ↔ jx_Ev d 17 38 [l0, l1, l2, l3, some (.int (x + 1)), l5] st M Q) ∧
  (∀ (d : Nat) (lv : List (Option Value)) (st : List Value) (M : jx_M) (Q : jx_Po), jx_Ev d 17 38 lv st M Q ↔ jx_Ev d 17 8 lv st M Q) ∧
  (∀ (d : Nat) (st : List Value) (M : jx_M) (Q : jx_Po) (l0 l1 l2 l4 l5 : Option Value) (x : Int32), jx_Ev d 17 41 [l0, l1, l2, some (.int x), l4, l5] st M Q ↔ jx_Ev d 17 42 [l0, l1, l2, some (.int x), l4, l5] (.int x :: st) M Q) ∧
  (∀ (d : Nat) (lv : List (Option Value)) (M : jx_M) (Q : jx_Po) (x : Int32), jx_Ev d 17 42 lv [.int x] M Q ↔ Q [.int x] M) := by
  refine ⟨?_, ?_, ?_, ?_, ?_, ?_, ?_, ?_, ?_, ?_, ?_, ?_, ?_, ?_, ?_, ?_, ?_, ?_, ?_, ?_, ?_, ?_, ?_, ?_⟩
  · exact fun d lv st M Q => jx_ev_st (jx_fok (by decide +kernel : decode (jx_mb 17) 0 = .ok (.iconst 0, 1))) rfl rfl rfl
  · exact fun d st M Q l0 l1 l2 l3 l4 l5 x => jx_ev_st (jx_fok (by decide +kernel : decode (jx_mb 17) 1 = .ok (.istore_n 2, 1))) rfl rfl rfl
  · exact fun d lv st M Q => jx_ev_st (jx_fok (by decide +kernel : decode (jx_mb 17) 2 = .ok (.bipush (-9), 2))) rfl rfl rfl
  · exact fun d st M Q l0 l1 l2 l3 l4 l5 x => jx_ev_st (jx_fok (by decide +kernel : decode (jx_mb 17) 4 = .ok (.istore_n 3, 1))) rfl rfl rfl
  · exact fun d lv st M Q => jx_ev_st (jx_fok (by decide +kernel : decode (jx_mb 17) 5 = .ok (.iconst 0, 1))) rfl rfl rfl
  · exact fun d st M Q l0 l1 l2 l3 l4 l5 x => jx_ev_st (jx_fok (by decide +kernel : decode (jx_mb 17) 6 = .ok (.istore 4, 2))) rfl rfl rfl
  · exact fun d lv st M Q => jx_ev_st (jx_fok (by decide +kernel : decode (jx_mb 17) 10 = .ok (.iconst 5, 1))) rfl rfl rfl
  · exact fun d lv st M Q x z => jx_k_b2 (jx_fok (by decide +kernel : decode (jx_mb 17) 11 = .ok (.if_icmp .ge 30, 3))) rfl jx_hGe
  · exact fun d st M Q l1 l2 l3 l4 l5 x => jx_ev_st (jx_fok (by decide +kernel : decode (jx_mb 17) 14 = .ok (.aload_n 0, 1))) rfl rfl rfl
  · exact fun d st M Q l0 l2 l3 l4 l5 x => jx_ev_st (jx_fok (by decide +kernel : decode (jx_mb 17) 15 = .ok (.aload_n 1, 1))) rfl rfl rfl
  · exact fun d st M Q l0 l1 l2 l3 l5 x => jx_ev_st (jx_fok (by decide +kernel : decode (jx_mb 17) 16 = .ok (.iload 4, 2))) rfl rfl rfl
  · exact fun d lv M Q a0 a1 => jx_ev_ci (jx_fok (by decide +kernel : decode (jx_mb 17) 18 = .ok (.invokevirtual 51, 3))) rfl (jx_ccV (As := [.ref a1, .int a0]) (rest := []) rfl rfl rfl rfl rfl rfl) (by decide)
  · exact fun d st M Q l0 l1 l2 l3 l4 l5 x => jx_ev_st (jx_fok (by decide +kernel : decode (jx_mb 17) 21 = .ok (.istore 5, 2))) rfl rfl rfl
  · exact fun d st M Q l0 l1 l2 l3 l4 x => jx_ev_st (jx_fok (by decide +kernel : decode (jx_mb 17) 23 = .ok (.iload 5, 2))) rfl rfl rfl
  · exact fun d st M Q l0 l1 l3 l4 l5 x => jx_ev_st (jx_fok (by decide +kernel : decode (jx_mb 17) 25 = .ok (.iload_n 2, 1))) rfl rfl rfl
  · exact fun d lv st M Q x z => jx_k_b2 (jx_fok (by decide +kernel : decode (jx_mb 17) 26 = .ok (.if_icmp .le 9, 3))) rfl jx_hLe
  · exact fun d st M Q l0 l1 l2 l3 l4 x => jx_ev_st (jx_fok (by decide +kernel : decode (jx_mb 17) 29 = .ok (.iload 5, 2))) rfl rfl rfl
  · exact fun d st M Q l0 l1 l2 l3 l4 l5 x => jx_ev_st (jx_fok (by decide +kernel : decode (jx_mb 17) 31 = .ok (.istore_n 2, 1))) rfl rfl rfl
  · exact fun d st M Q l0 l1 l2 l3 l5 x => jx_ev_st (jx_fok (by decide +kernel : decode (jx_mb 17) 32 = .ok (.iload 4, 2))) rfl rfl rfl
  · exact fun d st M Q l0 l1 l2 l3 l4 l5 x => jx_ev_st (jx_fok (by decide +kernel : decode (jx_mb 17) 34 = .ok (.istore_n 3, 1))) rfl rfl rfl
  · exact fun d st M Q l0 l1 l2 l3 l5 x => jx_ev_st (jx_fok (by decide +kernel : decode (jx_mb 17) 35 = .ok (.iinc 4 1, 3))) rfl rfl rfl
  · exact fun d lv st M Q => jx_k_goto (jx_fok (by decide +kernel : decode (jx_mb 17) 38 = .ok (.goto (-30), 3))) rfl
  · exact fun d st M Q l0 l1 l2 l4 l5 x => jx_ev_st (jx_fok (by decide +kernel : decode (jx_mb 17) 41 = .ok (.iload_n 3, 1))) rfl rfl rfl
  · exact fun d lv M Q x => jx_k_ri (jx_fok (by decide +kernel : decode (jx_mb 17) 42 = .ok (.ireturn, 1))) rfl
theorem eX2_mostHarmed_8 (d : Nat) (st : List Value) (M : jx_M) (Q : jx_Po) (l0 l1 l2 l3 l5 : Option Value) (x : Int32) : jx_Ev d 17 8 [l0, l1, l2, l3, some (.int x), l5] st M Q ↔ jx_Ev d 17 10 [l0, l1, l2, l3, some (.int x), l5] (.int x :: st) M Q := jx_ev_st (jx_fok (by decide +kernel : decode (jx_mb 17) 8 = .ok (.iload 4, 2))) rfl rfl rfl
theorem kX2_mostHarmed (d : Nat) (M : jx_M) (q : Int32 → jx_M → Prop) (a0 a1 : Value) : jx_I d 17 [a0, a1] M q ↔ jx_Ev d 17 0 [some a0, some a1, none, none, none, none] [] M (jx_qI q) := Iff.rfl
set_option maxRecDepth 100000 in
theorem eX3_add :
  (∀ (d : Nat) (st : List Value) (M : jx_M) (Q : jx_Po) (l1 l2 l3 : Option Value) (x : Nat), jx_Ev d 18 0 [some (.ref x), l1, l2, l3] st M Q ↔ jx_Ev d 18 1 [some (.ref x), l1, l2, l3] (.ref x :: st) M Q) ∧
  (∀ (d : Nat) (lv : List (Option Value)) (st : List Value) (M : jx_M) (Q : jx_Po), jx_Ev d 18 1 lv (.ref 3 :: st) M Q ↔ jx_Ev d 18 4 lv (.int (M 3 3) :: st) M Q) ∧
  (∀ (d : Nat) (lv : List (Option Value)) (st : List Value) (M : jx_M) (Q : jx_Po), jx_Ev d 18 4 lv st M Q ↔ jx_Ev d 18 6 lv (.int 8 :: st) M Q) ∧
  (∀ (d : Nat) (lv : List (Option Value)) (st : List Value) (M : jx_M) (Q : jx_Po) (x z : Int32), jx_Ev d 18 6 lv (.int z :: .int x :: st) M Q ↔ (if x < z then jx_Ev d 18 12 lv st M Q else jx_Ev d 18 9 lv st M Q)) ∧
  (∀ (d : Nat) (lv : List (Option Value)) (st : List Value) (M : jx_M) (Q : jx_Po), jx_Ev d 18 9 lv st M Q ↔ jx_Ev d 18 11 lv (.int (-4) :: st) M Q) ∧
  (∀ (d : Nat) (lv : List (Option Value)) (M : jx_M) (Q : jx_Po) (x : Int32), jx_Ev d 18 11 lv [.int x] M Q ↔ Q [.int x] M) ∧
  (∀ (d : Nat) (st : List Value) (M : jx_M) (Q : jx_Po) (l1 l2 l3 : Option Value) (x : Nat), jx_Ev d 18 12 [some (.ref x), l1, l2, l3] st M Q ↔ jx_Ev d 18 13 [some (.ref x), l1, l2, l3] (.ref x :: st) M Q) ∧
  (∀ (d : Nat) (lv : List (Option Value)) (st : List Value) (M : jx_M) (Q : jx_Po), jx_Ev d 18 13 lv (.ref 3 :: st) M Q ↔ jx_Ev d 18 16 lv (.ref 4 :: st) M Q) ∧
  (∀ (d : Nat) (st : List Value) (M : jx_M) (Q : jx_Po) (l1 l2 l3 : Option Value) (x : Nat), jx_Ev d 18 16 [some (.ref x), l1, l2, l3] st M Q ↔ jx_Ev d 18 17 [some (.ref x), l1, l2, l3] (.ref x :: st) M Q) ∧
  (∀ (d : Nat) (lv : List (Option Value)) (st : List Value) (M : jx_M) (Q : jx_Po), jx_Ev d 18 17 lv (.ref 3 :: st) M Q ↔ jx_Ev d 18 20 lv (.int (M 3 3) :: st) M Q) ∧
  (∀ (d : Nat) (st : List Value) (M : jx_M) (Q : jx_Po) (l0 l2 l3 : Option Value) (x : Int32), jx_Ev d 18 20 [l0, some (.int x), l2, l3] st M Q ↔ jx_Ev d 18 21 [l0, some (.int x), l2, l3] (.int x :: st) M Q) ∧
  (∀ (d : Nat) (lv : List (Option Value)) (st : List Value) (M : jx_M) (Q : jx_Po) (x z : Int32) (a : Nat) (ha : jx_cl a = 9), jx_Ev d 18 21 lv (.int z :: .int x :: .ref a :: st) M Q ↔ (vp_in x (jx_sz a) ∧ jx_Ev d 18 22 lv st (jx_up M a x.toNatClampNeg z) Q)) ∧
  (∀ (d : Nat) (st : List Value) (M : jx_M) (Q : jx_Po) (l1 l2 l3 : Option Value) (x : Nat), jx_Ev d 18 22 [some (.ref x), l1, l2, l3] st M Q ↔ jx_Ev d 18 23 [some (.ref x), l1, l2, l3] (.ref x :: st) M Q) ∧
  (∀ (d : Nat) (lv : List (Option Value)) (st : List Value) (M : jx_M) (Q : jx_Po), jx_Ev d 18 23 lv (.ref 3 :: st) M Q ↔ jx_Ev d 18 26 lv (.ref 5 :: st) M Q) ∧
  (∀ (d : Nat) (st : List Value) (M : jx_M) (Q : jx_Po) (l1 l2 l3 : Option Value) (x : Nat), jx_Ev d 18 26 [some (.ref x), l1, l2, l3] st M Q ↔ jx_Ev d 18 27 [some (.ref x), l1, l2, l3] (.ref x :: st) M Q) ∧
  (∀ (d : Nat) (lv : List (Option Value)) (st : List Value) (M : jx_M) (Q : jx_Po), jx_Ev d 18 27 lv (.ref 3 :: st) M Q ↔ jx_Ev d 18 30 lv (.int (M 3 3) :: st) M Q) ∧
  (∀ (d : Nat) (st : List Value) (M : jx_M) (Q : jx_Po) (l0 l1 l3 : Option Value) (x : Int32), jx_Ev d 18 30 [l0, l1, some (.int x), l3] st M Q ↔ jx_Ev d 18 31 [l0, l1, some (.int x), l3] (.int x :: st) M Q) ∧
  (∀ (d : Nat) (lv : List (Option Value)) (st : List Value) (M : jx_M) (Q : jx_Po) (x z : Int32) (a : Nat) (ha : jx_cl a = 9), jx_Ev d 18 31 lv (.int z :: .int x :: .ref a :: st) M Q ↔ (vp_in x (jx_sz a) ∧ jx_Ev d 18 32 lv st (jx_up M a x.toNatClampNeg z) Q)) ∧
  (∀ (d : Nat) (st : List Value) (M : jx_M) (Q : jx_Po) (l1 l2 l3 : Option Value) (x : Nat), jx_Ev d 18 32 [some (.ref x), l1, l2, l3] st M Q ↔ jx_Ev d 18 33 [some (.ref x), l1, l2, l3] (.ref x :: st) M Q) ∧
  (∀ (d : Nat) (lv : List (Option Value)) (st : List Value) (M : jx_M) (Q : jx_Po), jx_Ev d 18 33 lv (.ref 3 :: st) M Q ↔ jx_Ev d 18 36 lv (.ref 6 :: st) M Q) ∧
  (∀ (d : Nat) (st : List Value) (M : jx_M) (Q : jx_Po) (l1 l2 l3 : Option Value) (x : Nat), jx_Ev d 18 36 [some (.ref x), l1, l2, l3] st M Q ↔ jx_Ev d 18 37 [some (.ref x), l1, l2, l3] (.ref x :: st) M Q) ∧
  (∀ (d : Nat) (lv : List (Option Value)) (st : List Value) (M : jx_M) (Q : jx_Po), jx_Ev d 18 37 lv (.ref 3 :: st) M Q ↔ jx_Ev d 18 40 lv (.int (M 3 3) :: st) M Q) ∧
  (∀ (d : Nat) (st : List Value) (M : jx_M) (Q : jx_Po) (l0 l1 l2 : Option Value) (x : Int32), jx_Ev d 18 40 [l0, l1, l2, some (.int x)] st M Q ↔ jx_Ev d 18 41 [l0, l1, l2, some (.int x)] (.int x :: st) M Q) ∧
  (∀ (d : Nat) (lv : List (Option Value)) (st : List Value) (M : jx_M) (Q : jx_Po) (x z : Int32) (a : Nat) (ha : jx_cl a = 9), jx_Ev d 18 41 lv (.int z :: .int x :: .ref a :: st) M Q ↔ (vp_in x (jx_sz a) ∧ jx_Ev d 18 42 lv st (jx_up M a x.toNatClampNeg z) Q)) ∧
  (∀ (d : Nat) (st : List Value) (M : jx_M) (Q : jx_Po) (l1 l2 l3 : Option Value) (x : Nat), jx_Ev d 18 42 [some (.ref x), l1, l2, l3] st M Q ↔ jx_Ev d 18 43 [some (.ref x), l1, l2, l3] (.ref x :: st) M Q) ∧
  (∀ (d : Nat) (lv : List (Option Value)) (st : List Value) (M : jx_M) (Q : jx_Po) (x : Nat), jx_Ev d 18 43 lv (.ref x :: st) M Q ↔ jx_Ev d 18 44 lv (.ref x :: .ref x :: st) M Q) ∧
  (∀ (d : Nat) (lv : List (Option Value)) (st : List Value) (M : jx_M) (Q : jx_Po), jx_Ev d 18 44 lv (.ref 3 :: st) M Q ↔ jx_Ev d 18 47 lv (.int (M 3 3) :: st) M Q) ∧
  (∀ (d : Nat) (lv : List (Option Value)) (st : List Value) (M : jx_M) (Q : jx_Po), jx_Ev d 18 47 lv st M Q ↔ jx_Ev d 18 48 lv (.int 1 :: st) M Q) ∧
  (∀ (d : Nat) (lv : List (Option Value)) (st : List Value) (M : jx_M) (Q : jx_Po) (x z : Int32), jx_Ev d 18 48 lv (.int z :: .int x :: st) M Q ↔ jx_Ev d 18 49 lv (.int (x + z) :: st) M Q) ∧
  (∀ (d : Nat) (lv : List (Option Value)) (st : List Value) (M : jx_M) (Q : jx_Po) (x : Int32), jx_Ev d 18 49 lv (.int x :: .ref 3 :: st) M Q ↔ jx_Ev d 18 52 lv st (jx_up M 3 3 x) Q) ∧
  (∀ (d : Nat) (st : List Value) (M : jx_M) (Q : jx_Po) (l1 l2 l3 : Option Value) (x : Nat), jx_Ev d 18 52 [some (.ref x), l1, l2, l3] st M Q ↔ jx_Ev d 18 53 [some (.ref x), l1, l2, l3] (.ref x :: st) M Q) ∧
  (∀ (d : Nat) (lv : List (Option Value)) (st : List Value) (M : jx_M) (Q : jx_Po), jx_Ev d 18 53 lv (.ref 3 :: st) M Q ↔ jx_Ev d 18 56 lv (.int (M 3 3) :: st) M Q) ∧
  (∀ (d : Nat) (lv : List (Option Value)) (st : List Value) (M : jx_M) (Q : jx_Po), jx_Ev d 18 56 lv st M Q ↔ jx_Ev d 18 57 lv (.int 1 :: st) M Q) ∧
  (∀ (d : Nat) (lv : List (Option Value)) (st : List Value) (M : jx_M) (Q : jx_Po) (x z : Int32), jx_Ev d 18 57 lv (.int z :: .int x :: st) M Q ↔ jx_Ev d 18 58 lv (.int (x - z) :: st) M Q) ∧
  (∀ (d : Nat) (lv : List (Option Value)) (M : jx_M) (Q : jx_Po) (x : Int32), jx_Ev d 18 58 lv [.int x] M Q ↔ Q [.int x] M) := by
  refine ⟨?_, ?_, ?_, ?_, ?_, ?_, ?_, ?_, ?_, ?_, ?_, ?_, ?_, ?_, ?_, ?_, ?_, ?_, ?_, ?_, ?_, ?_, ?_, ?_, ?_, ?_, ?_, ?_, ?_, ?_, ?_, ?_, ?_, ?_, ?_⟩
  · exact fun d st M Q l1 l2 l3 x => jx_ev_st (jx_fok (by decide +kernel : decode (jx_mb 18) 0 = .ok (.aload_n 0, 1))) rfl rfl rfl
  · exact fun d lv st M Q => jx_k_gf (jx_fok (by decide +kernel : decode (jx_mb 18) 1 = .ok (.getfield 21, 3))) rfl rfl rfl
  · exact fun d lv st M Q => jx_ev_st (jx_fok (by decide +kernel : decode (jx_mb 18) 4 = .ok (.bipush 8, 2))) rfl rfl rfl
  · exact fun d lv st M Q x z => jx_k_b2 (jx_fok (by decide +kernel : decode (jx_mb 18) 6 = .ok (.if_icmp .lt 6, 3))) rfl jx_hLt
  · exact fun d lv st M Q => jx_ev_st (jx_fok (by decide +kernel : decode (jx_mb 18) 9 = .ok (.bipush (-4), 2))) rfl rfl rfl
  · exact fun d lv M Q x => jx_k_ri (jx_fok (by decide +kernel : decode (jx_mb 18) 11 = .ok (.ireturn, 1))) rfl
  · exact fun d st M Q l1 l2 l3 x => jx_ev_st (jx_fok (by decide +kernel : decode (jx_mb 18) 12 = .ok (.aload_n 0, 1))) rfl rfl rfl
  · exact fun d lv st M Q => jx_k_gf (jx_fok (by decide +kernel : decode (jx_mb 18) 13 = .ok (.getfield 9, 3))) rfl rfl rfl
  · exact fun d st M Q l1 l2 l3 x => jx_ev_st (jx_fok (by decide +kernel : decode (jx_mb 18) 16 = .ok (.aload_n 0, 1))) rfl rfl rfl
  · exact fun d lv st M Q => jx_k_gf (jx_fok (by decide +kernel : decode (jx_mb 18) 17 = .ok (.getfield 21, 3))) rfl rfl rfl
  · exact fun d st M Q l0 l2 l3 x => jx_ev_st (jx_fok (by decide +kernel : decode (jx_mb 18) 20 = .ok (.iload_n 1, 1))) rfl rfl rfl
  · exact fun d lv st M Q x z a ha => jx_k_as (jx_fok (by decide +kernel : decode (jx_mb 18) 21 = .ok (.iastore, 1))) ha
  · exact fun d st M Q l1 l2 l3 x => jx_ev_st (jx_fok (by decide +kernel : decode (jx_mb 18) 22 = .ok (.aload_n 0, 1))) rfl rfl rfl
  · exact fun d lv st M Q => jx_k_gf (jx_fok (by decide +kernel : decode (jx_mb 18) 23 = .ok (.getfield 15, 3))) rfl rfl rfl
  · exact fun d st M Q l1 l2 l3 x => jx_ev_st (jx_fok (by decide +kernel : decode (jx_mb 18) 26 = .ok (.aload_n 0, 1))) rfl rfl rfl
  · exact fun d lv st M Q => jx_k_gf (jx_fok (by decide +kernel : decode (jx_mb 18) 27 = .ok (.getfield 21, 3))) rfl rfl rfl
  · exact fun d st M Q l0 l1 l3 x => jx_ev_st (jx_fok (by decide +kernel : decode (jx_mb 18) 30 = .ok (.iload_n 2, 1))) rfl rfl rfl
  · exact fun d lv st M Q x z a ha => jx_k_as (jx_fok (by decide +kernel : decode (jx_mb 18) 31 = .ok (.iastore, 1))) ha
  · exact fun d st M Q l1 l2 l3 x => jx_ev_st (jx_fok (by decide +kernel : decode (jx_mb 18) 32 = .ok (.aload_n 0, 1))) rfl rfl rfl
  · exact fun d lv st M Q => jx_k_gf (jx_fok (by decide +kernel : decode (jx_mb 18) 33 = .ok (.getfield 18, 3))) rfl rfl rfl
  · exact fun d st M Q l1 l2 l3 x => jx_ev_st (jx_fok (by decide +kernel : decode (jx_mb 18) 36 = .ok (.aload_n 0, 1))) rfl rfl rfl
  · exact fun d lv st M Q => jx_k_gf (jx_fok (by decide +kernel : decode (jx_mb 18) 37 = .ok (.getfield 21, 3))) rfl rfl rfl
  · exact fun d st M Q l0 l1 l2 x => jx_ev_st (jx_fok (by decide +kernel : decode (jx_mb 18) 40 = .ok (.iload_n 3, 1))) rfl rfl rfl
  · exact fun d lv st M Q x z a ha => jx_k_as (jx_fok (by decide +kernel : decode (jx_mb 18) 41 = .ok (.iastore, 1))) ha
  · exact fun d st M Q l1 l2 l3 x => jx_ev_st (jx_fok (by decide +kernel : decode (jx_mb 18) 42 = .ok (.aload_n 0, 1))) rfl rfl rfl
  · exact fun d lv st M Q x => jx_ev_st (jx_fok (by decide +kernel : decode (jx_mb 18) 43 = .ok (.dup, 1))) rfl rfl rfl
  · exact fun d lv st M Q => jx_k_gf (jx_fok (by decide +kernel : decode (jx_mb 18) 44 = .ok (.getfield 21, 3))) rfl rfl rfl
  · exact fun d lv st M Q => jx_ev_st (jx_fok (by decide +kernel : decode (jx_mb 18) 47 = .ok (.iconst 1, 1))) rfl rfl rfl
  · exact fun d lv st M Q x z => jx_ev_st (jx_fok (by decide +kernel : decode (jx_mb 18) 48 = .ok (.iadd, 1))) rfl rfl rfl
  · exact fun d lv st M Q x => jx_k_pf0 (jx_fok (by decide +kernel : decode (jx_mb 18) 49 = .ok (.putfield 21, 3))) rfl rfl rfl
  · exact fun d st M Q l1 l2 l3 x => jx_ev_st (jx_fok (by decide +kernel : decode (jx_mb 18) 52 = .ok (.aload_n 0, 1))) rfl rfl rfl
  · exact fun d lv st M Q => jx_k_gf (jx_fok (by decide +kernel : decode (jx_mb 18) 53 = .ok (.getfield 21, 3))) rfl rfl rfl
  · exact fun d lv st M Q => jx_ev_st (jx_fok (by decide +kernel : decode (jx_mb 18) 56 = .ok (.iconst 1, 1))) rfl rfl rfl
  · exact fun d lv st M Q x z => jx_ev_st (jx_fok (by decide +kernel : decode (jx_mb 18) 57 = .ok (.isub, 1))) rfl rfl rfl
  · exact fun d lv M Q x => jx_k_ri (jx_fok (by decide +kernel : decode (jx_mb 18) 58 = .ok (.ireturn, 1))) rfl
theorem kX3_add (d : Nat) (M : jx_M) (q : Int32 → jx_M → Prop) (a0 a1 a2 a3 : Value) : jx_I d 18 [a0, a1, a2, a3] M q ↔ jx_Ev d 18 0 [some a0, some a1, some a2, some a3] [] M (jx_qI q) := Iff.rfl
set_option maxRecDepth 100000 in
theorem eX3_bitIfSo :
  (∀ (d : Nat) (lv : List (Option Value)) (st : List Value) (M : jx_M) (Q : jx_Po), jx_Ev d 19 0 lv st M Q ↔ jx_Ev d 19 1 lv (.int 0 :: st) M Q) ∧
  (∀ (d : Nat) (st : List Value) (M : jx_M) (Q : jx_Po) (l0 l1 l2 l3 : Option Value) (x : Int32), jx_Ev d 19 1 [l0, l1, l2, l3] (.int x :: st) M Q ↔ jx_Ev d 19 2 [l0, l1, l2, some (.int x)] st M Q) ∧
  (∀ (d : Nat) (st : List Value) (M : jx_M) (Q : jx_Po) (l1 l2 l3 : Option Value) (x : Nat), jx_Ev d 19 3 [some (.ref x), l1, l2, l3] st M Q ↔ jx_Ev d 19 4 [some (.ref x), l1, l2, l3] (.ref x :: st) M Q) ∧
  (∀ (d : Nat) (lv : List (Option Value)) (st : List Value) (M : jx_M) (Q : jx_Po), jx_Ev d 19 4 lv (.ref 3 :: st) M Q ↔ jx_Ev d 19 7 lv (.int (M 3 3) :: st) M Q) ∧
  (∀ (d : Nat) (lv : List (Option Value)) (st : List Value) (M : jx_M) (Q : jx_Po) (x z : Int32), jx_Ev d 19 7 lv (.int z :: .int x :: st) M Q ↔ (if z ≤ x then jx_Ev d 19 49 lv st M Q else jx_Ev d 19 10 lv st M Q)) ∧
  (∀ (d : Nat) (st : List Value) (M : jx_M) (Q : jx_Po) (l0 l1 l2 : Option Value) (x : Int32), jx_Ev d 19 10 [l0, l1, l2, some (.int x)] st M Q ↔ jx_Ev d 19 11 [l0, l1, l2, some (.int x)] (.int x :: st) M Q) ∧
  (∀ (d : Nat) (lv : List (Option Value)) (st : List Value) (M : jx_M) (Q : jx_Po), jx_Ev d 19 11 lv st M Q ↔ jx_Ev d 19 13 lv (.int 8 :: st) M Q) ∧
  (∀ (d : Nat) (lv : List (Option Value)) (st : List Value) (M : jx_M) (Q : jx_Po) (x z : Int32), jx_Ev d 19 13 lv (.int z :: .int x :: st) M Q ↔ (if z ≤ x then jx_Ev d 19 49 lv st M Q else jx_Ev d 19 16 lv st M Q)) ∧
  (∀ (d : Nat) (st : List Value) (M : jx_M) (Q : jx_Po) (l0 l2 l3 : Option Value) (x : Nat), jx_Ev d 19 16 [l0, some (.ref x), l2, l3] st M Q ↔ jx_Ev d 19 17 [l0, some (.ref x), l2, l3] (.ref x :: st) M Q) ∧
  (∀ (d : Nat) (st : List Value) (M : jx_M) (Q : jx_Po) (l1 l2 l3 : Option Value) (x : Nat), jx_Ev d 19 17 [some (.ref x), l1, l2, l3] st M Q ↔ jx_Ev d 19 18 [some (.ref x), l1, l2, l3] (.ref x :: st) M Q) ∧
  (∀ (d : Nat) (lv : List (Option Value)) (st : List Value) (M : jx_M) (Q : jx_Po), jx_Ev d 19 18 lv (.ref 3 :: st) M Q ↔ jx_Ev d 19 21 lv (.ref 4 :: st) M Q) ∧
  (∀ (d : Nat) (st : List Value) (M : jx_M) (Q : jx_Po) (l0 l1 l2 : Option Value) (x : Int32), jx_Ev d 19 21 [l0, l1, l2, some (.int x)] st M Q ↔ jx_Ev d 19 22 [l0, l1, l2, some (.int x)] (.int x :: st) M Q) ∧
  (∀ (d : Nat) (lv : List (Option Value)) (st : List Value) (M : jx_M) (Q : jx_Po) (x : Int32) (a : Nat) (ha : jx_cl a = 9), jx_Ev d 19 22 lv (.int x :: .ref a :: st) M Q ↔ (vp_in x (jx_sz a) ∧ jx_Ev d 19 23 lv (.int (M a x.toNatClampNeg) :: st) M Q)) ∧
  (∀ (d : Nat) (st : List Value) (M : jx_M) (Q : jx_Po) (l1 l2 l3 : Option Value) (x : Nat), jx_Ev d 19 23 [some (.ref x), l1, l2, l3] st M Q ↔ jx_Ev d 19 24 [some (.ref x), l1, l2, l3] (.ref x :: st) M Q) ∧
  (∀ (d : Nat) (lv : List (Option Value)) (st : List Value) (M : jx_M) (Q : jx_Po), jx_Ev d 19 24 lv (.ref 3 :: st) M Q ↔ jx_Ev d 19 27 lv (.ref 5 :: st) M Q) ∧
  (∀ (d : Nat) (st : List Value) (M : jx_M) (Q : jx_Po) (l0 l1 l2 : Option Value) (x : Int32), jx_Ev d 19 27 [l0, l1, l2, some (.int x)] st M Q ↔ jx_Ev d 19 28 [l0, l1, l2, some (.int x)] (.int x :: st) M Q) ∧
  (∀ (d : Nat) (lv : List (Option Value)) (st : List Value) (M : jx_M) (Q : jx_Po) (x : Int32) (a : Nat) (ha : jx_cl a = 9), jx_Ev d 19 28 lv (.int x :: .ref a :: st) M Q ↔ (vp_in x (jx_sz a) ∧ jx_Ev d 19 29 lv (.int (M a x.toNatClampNeg) :: st) M Q)) ∧
  (∀ (d : Nat) (lv : List (Option Value)) (M : jx_M) (Q : jx_Po) (a0 : Int32) (a1 : Int32) (a2 : Nat) (hk : jx_cl a2 = 1), jx_Ev (d + 1) 19 29 lv [.int a0, .int a1, .ref a2] M Q ↔ jx_I d 10 [.ref a2, .int a1, .int a0] M (fun x M => jx_Ev (d + 1) 19 32 lv (.int x :: []) M Q)) ∧
  (∀ (d : Nat) (st : List Value) (M : jx_M) (Q : jx_Po) (l1 l2 l3 : Option Value) (x : Nat), jx_Ev d 19 32 [some (.ref x), l1, l2, l3] st M Q ↔ jx_Ev d 19 33 [some (.ref x), l1, l2, l3] (.ref x :: st) M Q) ∧
  (∀ (d : Nat) (lv : List (Option Value)) (st : List Value) (M : jx_M) (Q : jx_Po), jx_Ev d 19 33 lv (.ref 3 :: st) M Q ↔ jx_Ev d 19 36 lv (.ref 6 :: st) M Q) ∧
  (∀ (d : Nat) (st : List Value) (M : jx_M) (Q : jx_Po) (l0 l1 l2 : Option Value) (x : Int32), jx_Ev d 19 36 [l0, l1, l2, some (.int x)] st M Q ↔ jx_Ev d 19 37 [l0, l1, l2, some (.int x)] (.int x :: st) M Q) ∧
  (∀ (d : Nat) (lv : List (Option Value)) (st : List Value) (M : jx_M) (Q : jx_Po) (x : Int32) (a : Nat) (ha : jx_cl a = 9), jx_Ev d 19 37 lv (.int x :: .ref a :: st) M Q ↔ (vp_in x (jx_sz a) ∧ jx_Ev d 19 38 lv (.int (M a x.toNatClampNeg) :: st) M Q)) ∧
  (∀ (d : Nat) (lv : List (Option Value)) (st : List Value) (M : jx_M) (Q : jx_Po) (x z : Int32), jx_Ev d 19 38 lv (.int z :: .int x :: st) M Q ↔ (if x = z then jx_Ev d 19 43 lv st M Q else jx_Ev d 19 41 lv st M Q)) ∧
  (∀ (d : Nat) (lv : List (Option Value)) (st : List Value) (M : jx_M) (Q : jx_Po), jx_Ev d 19 41 lv st M Q ↔ jx_Ev d 19 42 lv (.int 0 :: st) M Q) ∧
  (∀ (d : Nat) (lv : List (Option Value)) (M : jx_M) (Q : jx_Po) (x : Int32), jx_Ev d 19 42 lv [.int x] M Q ↔ Q [.int x] M) ∧
  (∀ (d : Nat) (st : List Value) (M : jx_M) (Q : jx_Po) (l0 l1 l2 : Option Value) (x : Int32), jx_Ev d 19 43 [l0, l1, l2, some (.int x)] st M Q ↔ jx_Ev d 19 46 [l0, l1, l2, some (.int (x + 1))] st M Q) ∧
  (∀ (d : Nat) (lv : List (Option Value)) (st : List Value) (M : jx_M) (Q : jx_Po), jx_Ev d 19 46 lv st M Q ↔ jx_Ev d 19 2 lv st M Q) ∧
  (∀ (d : Nat) (lv : List (Option Value)) (st : List Value) (M : jx_M) (Q : jx_Po), jx_Ev d 19 49 lv st M Q ↔ jx_Ev d 19 50 lv (.int 1 :: st) M Q) ∧
  (∀ (d : Nat) (st : List Value) (M : jx_M) (Q : jx_Po) (l0 l1 l3 : Option Value) (x : Int32), jx_Ev d 19 50 [l0, l1, some (.int x), l3] st M Q ↔ jx_Ev d 19 51 [l0, l1, some (.int x), l3] (.int x :: st) M Q) ∧
  (∀ (d : Nat) (lv : List (Option Value)) (st : List Value) (M : jx_M) (Q : jx_Po) (x z : Int32), jx_Ev d 19 51 lv (.int z :: .int x :: st) M Q ↔ jx_Ev d 19 52 lv (.int (x <<< (z &&& 31)) :: st) M Q) ∧
  (∀ (d : Nat) (lv : List (Option Value)) (M : jx_M) (Q : jx_Po) (x : Int32), jx_Ev d 19 52 lv [.int x] M Q ↔ Q [.int x] M) := by
  refine ⟨?_, ?_, ?_, ?_, ?_, ?_, ?_, ?_, ?_, ?_, ?_, ?_, ?_, ?_, ?_, ?_, ?_, ?_, ?_, ?_, ?_, ?_, ?_, ?_, ?_, ?_, ?_, ?_, ?_, ?_, ?_⟩
  · exact fun d lv st M Q => jx_ev_st (jx_fok (by decide +kernel : decode (jx_mb 19) 0 = .ok (.iconst 0, 1))) rfl rfl rfl
  · exact fun d st M Q l0 l1 l2 l3 x => jx_ev_st (jx_fok (by decide +kernel : decode (jx_mb 19) 1 = .ok (.istore_n 3, 1))) rfl rfl rfl
  · exact fun d st M Q l1 l2 l3 x => jx_ev_st (jx_fok (by decide +kernel : decode (jx_mb 19) 3 = .ok (.aload_n 0, 1))) rfl rfl rfl
  · exact fun d lv st M Q => jx_k_gf (jx_fok (by decide +kernel : decode (jx_mb 19) 4 = .ok (.getfield 21, 3))) rfl rfl rfl
  · exact fun d lv st M Q x z => jx_k_b2 (jx_fok (by decide +kernel : decode (jx_mb 19) 7 = .ok (.if_icmp .ge 42, 3))) rfl jx_hGe
  · exact fun d st M Q l0 l1 l2 x => jx_ev_st (jx_fok (by decide +kernel : decode (jx_mb 19) 10 = .ok (.iload_n 3, 1))) rfl rfl rfl
  · exact fun d lv st M Q => jx_ev_st (jx_fok (by decide +kernel : decode (jx_mb 19) 11 = .ok (.bipush 8, 2))) rfl rfl rfl
  · exact fun d lv st M Q x z => jx_k_b2 (jx_fok (by decide +kernel : decode (jx_mb 19) 13 = .ok (.if_icmp .ge 36, 3))) rfl jx_hGe
  · exact fun d st M Q l0 l2 l3 x => jx_ev_st (jx_fok (by decide +kernel : decode (jx_mb 19) 16 = .ok (.aload_n 1, 1))) rfl rfl rfl
  · exact fun d st M Q l1 l2 l3 x => jx_ev_st (jx_fok (by decide +kernel : decode (jx_mb 19) 17 = .ok (.aload_n 0, 1))) rfl rfl rfl
  · exact fun d lv st M Q => jx_k_gf (jx_fok (by decide +kernel : decode (jx_mb 19) 18 = .ok (.getfield 9, 3))) rfl rfl rfl
  · exact fun d st M Q l0 l1 l2 x => jx_ev_st (jx_fok (by decide +kernel : decode (jx_mb 19) 21 = .ok (.iload_n 3, 1))) rfl rfl rfl
  · exact fun d lv st M Q x a ha => jx_k_al (jx_fok (by decide +kernel : decode (jx_mb 19) 22 = .ok (.iaload, 1))) ha
  · exact fun d st M Q l1 l2 l3 x => jx_ev_st (jx_fok (by decide +kernel : decode (jx_mb 19) 23 = .ok (.aload_n 0, 1))) rfl rfl rfl
  · exact fun d lv st M Q => jx_k_gf (jx_fok (by decide +kernel : decode (jx_mb 19) 24 = .ok (.getfield 15, 3))) rfl rfl rfl
  · exact fun d st M Q l0 l1 l2 x => jx_ev_st (jx_fok (by decide +kernel : decode (jx_mb 19) 27 = .ok (.iload_n 3, 1))) rfl rfl rfl
  · exact fun d lv st M Q x a ha => jx_k_al (jx_fok (by decide +kernel : decode (jx_mb 19) 28 = .ok (.iaload, 1))) ha
  · exact fun d lv M Q a0 a1 a2 hk => jx_ev_ci (jx_fok (by decide +kernel : decode (jx_mb 19) 29 = .ok (.invokevirtual 25, 3))) rfl (jx_ccV (As := [.int a1, .int a0]) (rest := []) rfl rfl rfl hk rfl rfl) (by decide)
  · exact fun d st M Q l1 l2 l3 x => jx_ev_st (jx_fok (by decide +kernel : decode (jx_mb 19) 32 = .ok (.aload_n 0, 1))) rfl rfl rfl
  · exact fun d lv st M Q => jx_k_gf (jx_fok (by decide +kernel : decode (jx_mb 19) 33 = .ok (.getfield 18, 3))) rfl rfl rfl
  · exact fun d st M Q l0 l1 l2 x => jx_ev_st (jx_fok (by decide +kernel : decode (jx_mb 19) 36 = .ok (.iload_n 3, 1))) rfl rfl rfl
  · exact fun d lv st M Q x a ha => jx_k_al (jx_fok (by decide +kernel : decode (jx_mb 19) 37 = .ok (.iaload, 1))) ha
  · exact fun d lv st M Q x z => jx_k_b2 (jx_fok (by decide +kernel : decode (jx_mb 19) 38 = .ok (.if_icmp .eq 5, 3))) rfl jx_hEq
  · exact fun d lv st M Q => jx_ev_st (jx_fok (by decide +kernel : decode (jx_mb 19) 41 = .ok (.iconst 0, 1))) rfl rfl rfl
  · exact fun d lv M Q x => jx_k_ri (jx_fok (by decide +kernel : decode (jx_mb 19) 42 = .ok (.ireturn, 1))) rfl
  · exact fun d st M Q l0 l1 l2 x => jx_ev_st (jx_fok (by decide +kernel : decode (jx_mb 19) 43 = .ok (.iinc 3 1, 3))) rfl rfl rfl
  · exact fun d lv st M Q => jx_k_goto (jx_fok (by decide +kernel : decode (jx_mb 19) 46 = .ok (.goto (-44), 3))) rfl
  · exact fun d lv st M Q => jx_ev_st (jx_fok (by decide +kernel : decode (jx_mb 19) 49 = .ok (.iconst 1, 1))) rfl rfl rfl
  · exact fun d st M Q l0 l1 l3 x => jx_ev_st (jx_fok (by decide +kernel : decode (jx_mb 19) 50 = .ok (.iload_n 2, 1))) rfl rfl rfl
  · exact fun d lv st M Q x z => jx_ev_st (jx_fok (by decide +kernel : decode (jx_mb 19) 51 = .ok (.ishl, 1))) rfl rfl rfl
  · exact fun d lv M Q x => jx_k_ri (jx_fok (by decide +kernel : decode (jx_mb 19) 52 = .ok (.ireturn, 1))) rfl
theorem eX3_bitIfSo_2 (d : Nat) (st : List Value) (M : jx_M) (Q : jx_Po) (l0 l1 l2 : Option Value) (x : Int32) : jx_Ev d 19 2 [l0, l1, l2, some (.int x)] st M Q ↔ jx_Ev d 19 3 [l0, l1, l2, some (.int x)] (.int x :: st) M Q := jx_ev_st (jx_fok (by decide +kernel : decode (jx_mb 19) 2 = .ok (.iload_n 3, 1))) rfl rfl rfl
theorem kX3_bitIfSo (d : Nat) (M : jx_M) (q : Int32 → jx_M → Prop) (a0 a1 a2 : Value) : jx_I d 19 [a0, a1, a2] M q ↔ jx_Ev d 19 0 [some a0, some a1, some a2, none] [] M (jx_qI q) := Iff.rfl
set_option maxRecDepth 100000 in
theorem eX4_renew :
  (∀ (d : Nat) (st : List Value) (M : jx_M) (Q : jx_Po) (l1 l2 l3 : Option Value) (x : Nat), jx_Ev d 20 0 [some (.ref x), l1, l2, l3] st M Q ↔ jx_Ev d 20 1 [some (.ref x), l1, l2, l3] (.ref x :: st) M Q) ∧
  (∀ (d : Nat) (st : List Value) (M : jx_M) (Q : jx_Po) (l0 l2 l3 : Option Value) (x : Int32), jx_Ev d 20 1 [l0, some (.int x), l2, l3] st M Q ↔ jx_Ev d 20 2 [l0, some (.int x), l2, l3] (.int x :: st) M Q) ∧
  (∀ (d : Nat) (lv : List (Option Value)) (st : List Value) (M : jx_M) (Q : jx_Po) (x : Int32) (k : Nat) (hk : jx_cl k = 4), jx_Ev d 20 2 lv (.int x :: .ref k :: st) M Q ↔ jx_Ev d 20 5 lv st (jx_up M k 1 x) Q) ∧
  (∀ (d : Nat) (st : List Value) (M : jx_M) (Q : jx_Po) (l1 l2 l3 : Option Value) (x : Nat), jx_Ev d 20 5 [some (.ref x), l1, l2, l3] st M Q ↔ jx_Ev d 20 6 [some (.ref x), l1, l2, l3] (.ref x :: st) M Q) ∧
  (∀ (d : Nat) (st : List Value) (M : jx_M) (Q : jx_Po) (l0 l1 l3 : Option Value) (x : Int32), jx_Ev d 20 6 [l0, l1, some (.int x), l3] st M Q ↔ jx_Ev d 20 7 [l0, l1, some (.int x), l3] (.int x :: st) M Q) ∧
  (∀ (d : Nat) (lv : List (Option Value)) (st : List Value) (M : jx_M) (Q : jx_Po) (x : Int32) (k : Nat) (hk : jx_cl k = 4), jx_Ev d 20 7 lv (.int x :: .ref k :: st) M Q ↔ jx_Ev d 20 10 lv st (jx_up M k 2 x) Q) ∧
  (∀ (d : Nat) (st : List Value) (M : jx_M) (Q : jx_Po) (l1 l2 l3 : Option Value) (x : Nat), jx_Ev d 20 10 [some (.ref x), l1, l2, l3] st M Q ↔ jx_Ev d 20 11 [some (.ref x), l1, l2, l3] (.ref x :: st) M Q) ∧
  (∀ (d : Nat) (lv : List (Option Value)) (st : List Value) (M : jx_M) (Q : jx_Po), jx_Ev d 20 11 lv st M Q ↔ jx_Ev d 20 12 lv (.int 1 :: st) M Q) ∧
  (∀ (d : Nat) (lv : List (Option Value)) (st : List Value) (M : jx_M) (Q : jx_Po) (x : Int32) (k : Nat) (hk : jx_cl k = 4), jx_Ev d 20 12 lv (.int x :: .ref k :: st) M Q ↔ ((x = 0 ∨ x = 1) ∧ jx_Ev d 20 15 lv st (jx_up M k 3 x) Q)) ∧
  (∀ (d : Nat) (lv : List (Option Value)) (st : List Value) (M : jx_M) (Q : jx_Po), jx_Ev d 20 15 lv st M Q ↔ jx_Ev d 20 16 lv (.int 0 :: st) M Q) ∧
  (∀ (d : Nat) (st : List Value) (M : jx_M) (Q : jx_Po) (l0 l1 l2 l3 : Option Value) (x : Int32), jx_Ev d 20 16 [l0, l1, l2, l3] (.int x :: st) M Q ↔ jx_Ev d 20 17 [l0, l1, l2, some (.int x)] st M Q) ∧
  (∀ (d : Nat) (lv : List (Option Value)) (st : List Value) (M : jx_M) (Q : jx_Po), jx_Ev d 20 18 lv st M Q ↔ jx_Ev d 20 20 lv (.int 60 :: st) M Q) ∧
  (∀ (d : Nat) (lv : List (Option Value)) (st : List Value) (M : jx_M) (Q : jx_Po) (x z : Int32), jx_Ev d 20 20 lv (.int z :: .int x :: st) M Q ↔ (if z ≤ x then jx_Ev d 20 36 lv st M Q else jx_Ev d 20 23 lv st M Q)) ∧
  (∀ (d : Nat) (st : List Value) (M : jx_M) (Q : jx_Po) (l1 l2 l3 : Option Value) (x : Nat), jx_Ev d 20 23 [some (.ref x), l1, l2, l3] st M Q ↔ jx_Ev d 20 24 [some (.ref x), l1, l2, l3] (.ref x :: st) M Q) ∧
  (∀ (d : Nat) (lv : List (Option Value)) (st : List Value) (M : jx_M) (Q : jx_Po) (k : Nat) (hk : jx_cl k = 4), jx_Ev d 20 24 lv (.ref k :: st) M Q ↔ jx_Ev d 20 27 lv (.ref (k + 1) :: st) M Q) ∧
  (∀ (d : Nat) (st : List Value) (M : jx_M) (Q : jx_Po) (l0 l1 l2 : Option Value) (x : Int32), jx_Ev d 20 27 [l0, l1, l2, some (.int x)] st M Q ↔ jx_Ev d 20 28 [l0, l1, l2, some (.int x)] (.int x :: st) M Q) ∧
  (∀ (d : Nat) (lv : List (Option Value)) (st : List Value) (M : jx_M) (Q : jx_Po), jx_Ev d 20 28 lv st M Q ↔ jx_Ev d 20 29 lv (.int 0 :: st) M Q) ∧
  (∀ (d : Nat) (lv : List (Option Value)) (st : List Value) (M : jx_M) (Q : jx_Po) (x z : Int32) (a : Nat) (ha : jx_cl a = 9), jx_Ev d 20 29 lv (.int z :: .int x :: .ref a :: st) M Q ↔ (vp_in x (jx_sz a) ∧ jx_Ev d 20 30 lv st (jx_up M a x.toNatClampNeg z) Q)) ∧
  (∀ (d : Nat) (st : List Value) (M : jx_M) (Q : jx_Po) (l0 l1 l2 : Option Value) (x : Int32), jx_Ev d 20 30 [l0, l1, l2, some (.int x)] st M Q ↔ jx_Ev d 20 33 [l0, l1, l2, some (.int (x + 1))] st M Q) ∧
  (∀ (d : Nat) (lv : List (Option Value)) (st : List Value) (M : jx_M) (Q : jx_Po), jx_Ev d 20 33 lv st M Q ↔ jx_Ev d 20 17 lv st M Q) ∧
  (∀ (d : Nat) (lv : List (Option Value)) (M : jx_M) (Q : jx_Po), jx_Ev d 20 36 lv [] M Q ↔ Q [] M) := by
  refine ⟨?_, ?_, ?_, ?_, ?_, ?_, ?_, ?_, ?_, ?_, ?_, ?_, ?_, ?_, ?_, ?_, ?_, ?_, ?_, ?_, ?_⟩
  · exact fun d st M Q l1 l2 l3 x => jx_ev_st (jx_fok (by decide +kernel : decode (jx_mb 20) 0 = .ok (.aload_n 0, 1))) rfl rfl rfl
  · exact fun d st M Q l0 l2 l3 x => jx_ev_st (jx_fok (by decide +kernel : decode (jx_mb 20) 1 = .ok (.iload_n 1, 1))) rfl rfl rfl
  · exact fun d lv st M Q x k hk => jx_k_pf0 (jx_fok (by decide +kernel : decode (jx_mb 20) 2 = .ok (.putfield 15, 3))) rfl hk rfl
  · exact fun d st M Q l1 l2 l3 x => jx_ev_st (jx_fok (by decide +kernel : decode (jx_mb 20) 5 = .ok (.aload_n 0, 1))) rfl rfl rfl
  · exact fun d st M Q l0 l1 l3 x => jx_ev_st (jx_fok (by decide +kernel : decode (jx_mb 20) 6 = .ok (.iload_n 2, 1))) rfl rfl rfl
  · exact fun d lv st M Q x k hk => jx_k_pf0 (jx_fok (by decide +kernel : decode (jx_mb 20) 7 = .ok (.putfield 19, 3))) rfl hk rfl
  · exact fun d st M Q l1 l2 l3 x => jx_ev_st (jx_fok (by decide +kernel : decode (jx_mb 20) 10 = .ok (.aload_n 0, 1))) rfl rfl rfl
  · exact fun d lv st M Q => jx_ev_st (jx_fok (by decide +kernel : decode (jx_mb 20) 11 = .ok (.iconst 1, 1))) rfl rfl rfl
  · exact fun d lv st M Q x k hk => jx_k_pf1 (jx_fok (by decide +kernel : decode (jx_mb 20) 12 = .ok (.putfield 22, 3))) rfl hk rfl
  · exact fun d lv st M Q => jx_ev_st (jx_fok (by decide +kernel : decode (jx_mb 20) 15 = .ok (.iconst 0, 1))) rfl rfl rfl
  · exact fun d st M Q l0 l1 l2 l3 x => jx_ev_st (jx_fok (by decide +kernel : decode (jx_mb 20) 16 = .ok (.istore_n 3, 1))) rfl rfl rfl
  · exact fun d lv st M Q => jx_ev_st (jx_fok (by decide +kernel : decode (jx_mb 20) 18 = .ok (.bipush 60, 2))) rfl rfl rfl
  · exact fun d lv st M Q x z => jx_k_b2 (jx_fok (by decide +kernel : decode (jx_mb 20) 20 = .ok (.if_icmp .ge 16, 3))) rfl jx_hGe
  · exact fun d st M Q l1 l2 l3 x => jx_ev_st (jx_fok (by decide +kernel : decode (jx_mb 20) 23 = .ok (.aload_n 0, 1))) rfl rfl rfl
  · exact fun d lv st M Q k hk => jx_k_gf (jx_fok (by decide +kernel : decode (jx_mb 20) 24 = .ok (.getfield 9, 3))) rfl hk rfl
  · exact fun d st M Q l0 l1 l2 x => jx_ev_st (jx_fok (by decide +kernel : decode (jx_mb 20) 27 = .ok (.iload_n 3, 1))) rfl rfl rfl
  · exact fun d lv st M Q => jx_ev_st (jx_fok (by decide +kernel : decode (jx_mb 20) 28 = .ok (.iconst 0, 1))) rfl rfl rfl
  · exact fun d lv st M Q x z a ha => jx_k_as (jx_fok (by decide +kernel : decode (jx_mb 20) 29 = .ok (.iastore, 1))) ha
  · exact fun d st M Q l0 l1 l2 x => jx_ev_st (jx_fok (by decide +kernel : decode (jx_mb 20) 30 = .ok (.iinc 3 1, 3))) rfl rfl rfl
  · exact fun d lv st M Q => jx_k_goto (jx_fok (by decide +kernel : decode (jx_mb 20) 33 = .ok (.goto (-16), 3))) rfl
  · exact fun d lv M Q => jx_k_rv (jx_fok (by decide +kernel : decode (jx_mb 20) 36 = .ok (.return_, 1))) rfl
theorem eX4_renew_17 (d : Nat) (st : List Value) (M : jx_M) (Q : jx_Po) (l0 l1 l2 : Option Value) (x : Int32) : jx_Ev d 20 17 [l0, l1, l2, some (.int x)] st M Q ↔ jx_Ev d 20 18 [l0, l1, l2, some (.int x)] (.int x :: st) M Q := jx_ev_st (jx_fok (by decide +kernel : decode (jx_mb 20) 17 = .ok (.iload_n 3, 1))) rfl rfl rfl
theorem kX4_renew (d : Nat) (M : jx_M) (q : jx_M → Prop) (a0 a1 a2 : Value) : jx_V d 20 [a0, a1, a2] M q ↔ jx_Ev d 20 0 [some a0, some a1, some a2, none] [] M (jx_qV q) := Iff.rfl
set_option maxRecDepth 100000 in
theorem eX4_hasCells :
  (∀ (d : Nat) (st : List Value) (M : jx_M) (Q : jx_Po) (l0 l1 : Option Value) (x : Int32), jx_Ev d 21 0 [l0, l1, some (.int x)] st M Q ↔ jx_Ev d 21 1 [l0, l1, some (.int x)] (.int x :: st) M Q) ∧
  (∀ (d : Nat) (lv : List (Option Value)) (st : List Value) (M : jx_M) (Q : jx_Po) (x : Int32), jx_Ev d 21 1 lv (.int x :: st) M Q ↔ (if x < 0 then jx_Ev d 21 30 lv st M Q else jx_Ev d 21 4 lv st M Q)) ∧
  (∀ (d : Nat) (st : List Value) (M : jx_M) (Q : jx_Po) (l0 l1 : Option Value) (x : Int32), jx_Ev d 21 4 [l0, l1, some (.int x)] st M Q ↔ jx_Ev d 21 5 [l0, l1, some (.int x)] (.int x :: st) M Q) ∧
  (∀ (d : Nat) (st : List Value) (M : jx_M) (Q : jx_Po) (l1 l2 : Option Value) (x : Nat), jx_Ev d 21 5 [some (.ref x), l1, l2] st M Q ↔ jx_Ev d 21 6 [some (.ref x), l1, l2] (.ref x :: st) M Q) ∧
  (∀ (d : Nat) (lv : List (Option Value)) (st : List Value) (M : jx_M) (Q : jx_Po) (k : Nat) (hk : jx_cl k = 4), jx_Ev d 21 6 lv (.ref k :: st) M Q ↔ jx_Ev d 21 9 lv (.int (M k 2) :: st) M Q) ∧
  (∀ (d : Nat) (lv : List (Option Value)) (st : List Value) (M : jx_M) (Q : jx_Po) (x z : Int32), jx_Ev d 21 9 lv (.int z :: .int x :: st) M Q ↔ (if z < x then jx_Ev d 21 30 lv st M Q else jx_Ev d 21 12 lv st M Q)) ∧
  (∀ (d : Nat) (st : List Value) (M : jx_M) (Q : jx_Po) (l0 l2 : Option Value) (x : Int32), jx_Ev d 21 12 [l0, some (.int x), l2] st M Q ↔ jx_Ev d 21 13 [l0, some (.int x), l2] (.int x :: st) M Q) ∧
  (∀ (d : Nat) (lv : List (Option Value)) (st : List Value) (M : jx_M) (Q : jx_Po) (x : Int32), jx_Ev d 21 13 lv (.int x :: st) M Q ↔ (if x < 0 then jx_Ev d 21 30 lv st M Q else jx_Ev d 21 16 lv st M Q)) ∧
  (∀ (d : Nat) (st : List Value) (M : jx_M) (Q : jx_Po) (l0 l2 : Option Value) (x : Int32), jx_Ev d 21 16 [l0, some (.int x), l2] st M Q ↔ jx_Ev d 21 17 [l0, some (.int x), l2] (.int x :: st) M Q) ∧
  (∀ (d : Nat) (st : List Value) (M : jx_M) (Q : jx_Po) (l1 l2 : Option Value) (x : Nat), jx_Ev d 21 17 [some (.ref x), l1, l2] st M Q ↔ jx_Ev d 21 18 [some (.ref x), l1, l2] (.ref x :: st) M Q) ∧
  (∀ (d : Nat) (lv : List (Option Value)) (st : List Value) (M : jx_M) (Q : jx_Po) (k : Nat) (hk : jx_cl k = 4), jx_Ev d 21 18 lv (.ref k :: st) M Q ↔ jx_Ev d 21 21 lv (.int (M k 2) :: st) M Q) ∧
  (∀ (d : Nat) (st : List Value) (M : jx_M) (Q : jx_Po) (l0 l1 : Option Value) (x : Int32), jx_Ev d 21 21 [l0, l1, some (.int x)] st M Q ↔ jx_Ev d 21 22 [l0, l1, some (.int x)] (.int x :: st) M Q) ∧
  (∀ (d : Nat) (lv : List (Option Value)) (st : List Value) (M : jx_M) (Q : jx_Po) (x z : Int32), jx_Ev d 21 22 lv (.int z :: .int x :: st) M Q ↔ jx_Ev d 21 23 lv (.int (x - z) :: st) M Q) ∧
  (∀ (d : Nat) (lv : List (Option Value)) (st : List Value) (M : jx_M) (Q : jx_Po) (x z : Int32), jx_Ev d 21 23 lv (.int z :: .int x :: st) M Q ↔ (if z < x then jx_Ev d 21 30 lv st M Q else jx_Ev d 21 26 lv st M Q)) ∧
  (∀ (d : Nat) (lv : List (Option Value)) (st : List Value) (M : jx_M) (Q : jx_Po), jx_Ev d 21 26 lv st M Q ↔ jx_Ev d 21 27 lv (.int 1 :: st) M Q) ∧
  (∀ (d : Nat) (lv : List (Option Value)) (st : List Value) (M : jx_M) (Q : jx_Po), jx_Ev d 21 27 lv st M Q ↔ jx_Ev d 21 31 lv st M Q) ∧
  (∀ (d : Nat) (lv : List (Option Value)) (st : List Value) (M : jx_M) (Q : jx_Po), jx_Ev d 21 30 lv st M Q ↔ jx_Ev d 21 31 lv (.int 0 :: st) M Q) ∧
  (∀ (d : Nat) (lv : List (Option Value)) (M : jx_M) (Q : jx_Po) (x : Int32), jx_Ev d 21 31 lv [.int x] M Q ↔ ((x = 0 ∨ x = 1) ∧ Q [.int x] M)) := by
  refine ⟨?_, ?_, ?_, ?_, ?_, ?_, ?_, ?_, ?_, ?_, ?_, ?_, ?_, ?_, ?_, ?_, ?_, ?_⟩
  · exact fun d st M Q l0 l1 x => jx_ev_st (jx_fok (by decide +kernel : decode (jx_mb 21) 0 = .ok (.iload_n 2, 1))) rfl rfl rfl
  · exact fun d lv st M Q x => jx_k_b1 (jx_fok (by decide +kernel : decode (jx_mb 21) 1 = .ok (.ifCond .lt 29, 3))) rfl jx_hLt
  · exact fun d st M Q l0 l1 x => jx_ev_st (jx_fok (by decide +kernel : decode (jx_mb 21) 4 = .ok (.iload_n 2, 1))) rfl rfl rfl
  · exact fun d st M Q l1 l2 x => jx_ev_st (jx_fok (by decide +kernel : decode (jx_mb 21) 5 = .ok (.aload_n 0, 1))) rfl rfl rfl
  · exact fun d lv st M Q k hk => jx_k_gf (jx_fok (by decide +kernel : decode (jx_mb 21) 6 = .ok (.getfield 19, 3))) rfl hk rfl
  · exact fun d lv st M Q x z => jx_k_b2 (jx_fok (by decide +kernel : decode (jx_mb 21) 9 = .ok (.if_icmp .gt 21, 3))) rfl jx_hGt
  · exact fun d st M Q l0 l2 x => jx_ev_st (jx_fok (by decide +kernel : decode (jx_mb 21) 12 = .ok (.iload_n 1, 1))) rfl rfl rfl
  · exact fun d lv st M Q x => jx_k_b1 (jx_fok (by decide +kernel : decode (jx_mb 21) 13 = .ok (.ifCond .lt 17, 3))) rfl jx_hLt
  · exact fun d st M Q l0 l2 x => jx_ev_st (jx_fok (by decide +kernel : decode (jx_mb 21) 16 = .ok (.iload_n 1, 1))) rfl rfl rfl
  · exact fun d st M Q l1 l2 x => jx_ev_st (jx_fok (by decide +kernel : decode (jx_mb 21) 17 = .ok (.aload_n 0, 1))) rfl rfl rfl
  · exact fun d lv st M Q k hk => jx_k_gf (jx_fok (by decide +kernel : decode (jx_mb 21) 18 = .ok (.getfield 19, 3))) rfl hk rfl
  · exact fun d st M Q l0 l1 x => jx_ev_st (jx_fok (by decide +kernel : decode (jx_mb 21) 21 = .ok (.iload_n 2, 1))) rfl rfl rfl
  · exact fun d lv st M Q x z => jx_ev_st (jx_fok (by decide +kernel : decode (jx_mb 21) 22 = .ok (.isub, 1))) rfl rfl rfl
  · exact fun d lv st M Q x z => jx_k_b2 (jx_fok (by decide +kernel : decode (jx_mb 21) 23 = .ok (.if_icmp .gt 7, 3))) rfl jx_hGt
  · exact fun d lv st M Q => jx_ev_st (jx_fok (by decide +kernel : decode (jx_mb 21) 26 = .ok (.iconst 1, 1))) rfl rfl rfl
  · exact fun d lv st M Q => jx_k_goto (jx_fok (by decide +kernel : decode (jx_mb 21) 27 = .ok (.goto 4, 3))) rfl
  · exact fun d lv st M Q => jx_ev_st (jx_fok (by decide +kernel : decode (jx_mb 21) 30 = .ok (.iconst 0, 1))) rfl rfl rfl
  · exact fun d lv M Q x => jx_k_rz (jx_fok (by decide +kernel : decode (jx_mb 21) 31 = .ok (.ireturn, 1))) rfl
theorem kX4_hasCells (d : Nat) (M : jx_M) (q : Int32 → jx_M → Prop) (a0 a1 a2 : Value) : jx_I d 21 [a0, a1, a2] M q ↔ jx_Ev d 21 0 [some a0, some a1, some a2] [] M (jx_qI q) := Iff.rfl
set_option maxRecDepth 100000 in
theorem eX4_faultOfCells :
  (∀ (d : Nat) (st : List Value) (M : jx_M) (Q : jx_Po) (l1 l2 l3 : Option Value) (x : Nat), jx_Ev d 22 0 [some (.ref x), l1, l2, l3] st M Q ↔ jx_Ev d 22 1 [some (.ref x), l1, l2, l3] (.ref x :: st) M Q) ∧
  (∀ (d : Nat) (lv : List (Option Value)) (st : List Value) (M : jx_M) (Q : jx_Po) (k : Nat) (hk : jx_cl k = 4), jx_Ev d 22 1 lv (.ref k :: st) M Q ↔ jx_Ev d 22 4 lv (.int (M k 3) :: st) M Q) ∧
  (∀ (d : Nat) (lv : List (Option Value)) (st : List Value) (M : jx_M) (Q : jx_Po) (x : Int32), jx_Ev d 22 4 lv (.int x :: st) M Q ↔ (if x = 0 then jx_Ev d 22 17 lv st M Q else jx_Ev d 22 7 lv st M Q)) ∧
  (∀ (d : Nat) (st : List Value) (M : jx_M) (Q : jx_Po) (l1 l2 l3 : Option Value) (x : Nat), jx_Ev d 22 7 [some (.ref x), l1, l2, l3] st M Q ↔ jx_Ev d 22 8 [some (.ref x), l1, l2, l3] (.ref x :: st) M Q) ∧
  (∀ (d : Nat) (lv : List (Option Value)) (st : List Value) (M : jx_M) (Q : jx_Po) (k : Nat) (hk : jx_cl k = 4), jx_Ev d 22 8 lv (.ref k :: st) M Q ↔ jx_Ev d 22 11 lv (.int (M k 1) :: st) M Q) ∧
  (∀ (d : Nat) (st : List Value) (M : jx_M) (Q : jx_Po) (l0 l2 l3 : Option Value) (x : Int32), jx_Ev d 22 11 [l0, some (.int x), l2, l3] st M Q ↔ jx_Ev d 22 12 [l0, some (.int x), l2, l3] (.int x :: st) M Q) ∧
  (∀ (d : Nat) (lv : List (Option Value)) (st : List Value) (M : jx_M) (Q : jx_Po) (x z : Int32), jx_Ev d 22 12 lv (.int z :: .int x :: st) M Q ↔ (if x = z then jx_Ev d 22 17 lv st M Q else jx_Ev d 22 15 lv st M Q)) ∧
  (∀ (d : Nat) (lv : List (Option Value)) (st : List Value) (M : jx_M) (Q : jx_Po), jx_Ev d 22 15 lv st M Q ↔ jx_Ev d 22 16 lv (.int 2 :: st) M Q) ∧
  (∀ (d : Nat) (lv : List (Option Value)) (M : jx_M) (Q : jx_Po) (x : Int32), jx_Ev d 22 16 lv [.int x] M Q ↔ Q [.int x] M) ∧
  (∀ (d : Nat) (st : List Value) (M : jx_M) (Q : jx_Po) (l1 l2 l3 : Option Value) (x : Nat), jx_Ev d 22 17 [some (.ref x), l1, l2, l3] st M Q ↔ jx_Ev d 22 18 [some (.ref x), l1, l2, l3] (.ref x :: st) M Q) ∧
  (∀ (d : Nat) (lv : List (Option Value)) (st : List Value) (M : jx_M) (Q : jx_Po) (k : Nat) (hk : jx_cl k = 4), jx_Ev d 22 18 lv (.ref k :: st) M Q ↔ jx_Ev d 22 21 lv (.int (M k 3) :: st) M Q) ∧
  (∀ (d : Nat) (lv : List (Option Value)) (st : List Value) (M : jx_M) (Q : jx_Po) (x : Int32), jx_Ev d 22 21 lv (.int x :: st) M Q ↔ (if x = 0 then jx_Ev d 22 24 lv st M Q else jx_Ev d 22 26 lv st M Q)) ∧
  (∀ (d : Nat) (lv : List (Option Value)) (st : List Value) (M : jx_M) (Q : jx_Po), jx_Ev d 22 24 lv st M Q ↔ jx_Ev d 22 25 lv (.int 1 :: st) M Q) ∧
  (∀ (d : Nat) (lv : List (Option Value)) (M : jx_M) (Q : jx_Po) (x : Int32), jx_Ev d 22 25 lv [.int x] M Q ↔ Q [.int x] M) ∧
  (∀ (d : Nat) (st : List Value) (M : jx_M) (Q : jx_Po) (l0 l1 l2 : Option Value) (x : Int32), jx_Ev d 22 26 [l0, l1, l2, some (.int x)] st M Q ↔ jx_Ev d 22 27 [l0, l1, l2, some (.int x)] (.int x :: st) M Q) ∧
  (∀ (d : Nat) (lv : List (Option Value)) (st : List Value) (M : jx_M) (Q : jx_Po) (x : Int32), jx_Ev d 22 27 lv (.int x :: st) M Q ↔ (if 0 ≤ x then jx_Ev d 22 32 lv st M Q else jx_Ev d 22 30 lv st M Q)) ∧
  (∀ (d : Nat) (lv : List (Option Value)) (st : List Value) (M : jx_M) (Q : jx_Po), jx_Ev d 22 30 lv st M Q ↔ jx_Ev d 22 31 lv (.int 4 :: st) M Q) ∧
  (∀ (d : Nat) (lv : List (Option Value)) (M : jx_M) (Q : jx_Po) (x : Int32), jx_Ev d 22 31 lv [.int x] M Q ↔ Q [.int x] M) ∧
  (∀ (d : Nat) (st : List Value) (M : jx_M) (Q : jx_Po) (l1 l2 l3 : Option Value) (x : Nat), jx_Ev d 22 32 [some (.ref x), l1, l2, l3] st M Q ↔ jx_Ev d 22 33 [some (.ref x), l1, l2, l3] (.ref x :: st) M Q) ∧
  (∀ (d : Nat) (st : List Value) (M : jx_M) (Q : jx_Po) (l0 l1 l3 : Option Value) (x : Int32), jx_Ev d 22 33 [l0, l1, some (.int x), l3] st M Q ↔ jx_Ev d 22 34 [l0, l1, some (.int x), l3] (.int x :: st) M Q) ∧
  (∀ (d : Nat) (st : List Value) (M : jx_M) (Q : jx_Po) (l0 l1 l2 : Option Value) (x : Int32), jx_Ev d 22 34 [l0, l1, l2, some (.int x)] st M Q ↔ jx_Ev d 22 35 [l0, l1, l2, some (.int x)] (.int x :: st) M Q) ∧
  (∀ (d : Nat) (lv : List (Option Value)) (M : jx_M) (Q : jx_Po) (a0 : Int32) (a1 : Int32) (a2 : Nat) (hk : jx_cl a2 = 4), jx_Ev (d + 1) 22 35 lv [.int a0, .int a1, .ref a2] M Q ↔ jx_I d 21 [.ref a2, .int a1, .int a0] M (fun x M => jx_Ev (d + 1) 22 38 lv (.int x :: []) M Q)) ∧
  (∀ (d : Nat) (lv : List (Option Value)) (st : List Value) (M : jx_M) (Q : jx_Po) (x : Int32), jx_Ev d 22 38 lv (.int x :: st) M Q ↔ (if x = 0 then jx_Ev d 22 45 lv st M Q else jx_Ev d 22 41 lv st M Q)) ∧
  (∀ (d : Nat) (lv : List (Option Value)) (st : List Value) (M : jx_M) (Q : jx_Po), jx_Ev d 22 41 lv st M Q ↔ jx_Ev d 22 42 lv (.int 0 :: st) M Q) ∧
  (∀ (d : Nat) (lv : List (Option Value)) (st : List Value) (M : jx_M) (Q : jx_Po), jx_Ev d 22 42 lv st M Q ↔ jx_Ev d 22 46 lv st M Q) ∧
  (∀ (d : Nat) (lv : List (Option Value)) (st : List Value) (M : jx_M) (Q : jx_Po), jx_Ev d 22 45 lv st M Q ↔ jx_Ev d 22 46 lv (.int 3 :: st) M Q) ∧
  (∀ (d : Nat) (lv : List (Option Value)) (M : jx_M) (Q : jx_Po) (x : Int32), jx_Ev d 22 46 lv [.int x] M Q ↔ Q [.int x] M) := by
  refine ⟨?_, ?_, ?_, ?_, ?_, ?_, ?_, ?_, ?_, ?_, ?_, ?_, ?_, ?_, ?_, ?_, ?_, ?_, ?_, ?_, ?_, ?_, ?_, ?_, ?_, ?_, ?_⟩
  · exact fun d st M Q l1 l2 l3 x => jx_ev_st (jx_fok (by decide +kernel : decode (jx_mb 22) 0 = .ok (.aload_n 0, 1))) rfl rfl rfl
  · exact fun d lv st M Q k hk => jx_k_gf (jx_fok (by decide +kernel : decode (jx_mb 22) 1 = .ok (.getfield 22, 3))) rfl hk rfl
  · exact fun d lv st M Q x => jx_k_b1 (jx_fok (by decide +kernel : decode (jx_mb 22) 4 = .ok (.ifCond .eq 13, 3))) rfl jx_hEq
  · exact fun d st M Q l1 l2 l3 x => jx_ev_st (jx_fok (by decide +kernel : decode (jx_mb 22) 7 = .ok (.aload_n 0, 1))) rfl rfl rfl
  · exact fun d lv st M Q k hk => jx_k_gf (jx_fok (by decide +kernel : decode (jx_mb 22) 8 = .ok (.getfield 15, 3))) rfl hk rfl
  · exact fun d st M Q l0 l2 l3 x => jx_ev_st (jx_fok (by decide +kernel : decode (jx_mb 22) 11 = .ok (.iload_n 1, 1))) rfl rfl rfl
  · exact fun d lv st M Q x z => jx_k_b2 (jx_fok (by decide +kernel : decode (jx_mb 22) 12 = .ok (.if_icmp .eq 5, 3))) rfl jx_hEq
  · exact fun d lv st M Q => jx_ev_st (jx_fok (by decide +kernel : decode (jx_mb 22) 15 = .ok (.iconst 2, 1))) rfl rfl rfl
  · exact fun d lv M Q x => jx_k_ri (jx_fok (by decide +kernel : decode (jx_mb 22) 16 = .ok (.ireturn, 1))) rfl
  · exact fun d st M Q l1 l2 l3 x => jx_ev_st (jx_fok (by decide +kernel : decode (jx_mb 22) 17 = .ok (.aload_n 0, 1))) rfl rfl rfl
  · exact fun d lv st M Q k hk => jx_k_gf (jx_fok (by decide +kernel : decode (jx_mb 22) 18 = .ok (.getfield 22, 3))) rfl hk rfl
  · exact fun d lv st M Q x => jx_k_b1n (jx_fok (by decide +kernel : decode (jx_mb 22) 21 = .ok (.ifCond .ne 5, 3))) rfl jx_hNe
  · exact fun d lv st M Q => jx_ev_st (jx_fok (by decide +kernel : decode (jx_mb 22) 24 = .ok (.iconst 1, 1))) rfl rfl rfl
  · exact fun d lv M Q x => jx_k_ri (jx_fok (by decide +kernel : decode (jx_mb 22) 25 = .ok (.ireturn, 1))) rfl
  · exact fun d st M Q l0 l1 l2 x => jx_ev_st (jx_fok (by decide +kernel : decode (jx_mb 22) 26 = .ok (.iload_n 3, 1))) rfl rfl rfl
  · exact fun d lv st M Q x => jx_k_b1 (jx_fok (by decide +kernel : decode (jx_mb 22) 27 = .ok (.ifCond .ge 5, 3))) rfl jx_hGe
  · exact fun d lv st M Q => jx_ev_st (jx_fok (by decide +kernel : decode (jx_mb 22) 30 = .ok (.iconst 4, 1))) rfl rfl rfl
  · exact fun d lv M Q x => jx_k_ri (jx_fok (by decide +kernel : decode (jx_mb 22) 31 = .ok (.ireturn, 1))) rfl
  · exact fun d st M Q l1 l2 l3 x => jx_ev_st (jx_fok (by decide +kernel : decode (jx_mb 22) 32 = .ok (.aload_n 0, 1))) rfl rfl rfl
  · exact fun d st M Q l0 l1 l3 x => jx_ev_st (jx_fok (by decide +kernel : decode (jx_mb 22) 33 = .ok (.iload_n 2, 1))) rfl rfl rfl
  · exact fun d st M Q l0 l1 l2 x => jx_ev_st (jx_fok (by decide +kernel : decode (jx_mb 22) 34 = .ok (.iload_n 3, 1))) rfl rfl rfl
  · exact fun d lv M Q a0 a1 a2 hk => jx_ev_ci (jx_fok (by decide +kernel : decode (jx_mb 22) 35 = .ok (.invokevirtual 26, 3))) rfl (jx_ccV (As := [.int a1, .int a0]) (rest := []) rfl rfl rfl hk rfl rfl) (by decide)
  · exact fun d lv st M Q x => jx_k_b1 (jx_fok (by decide +kernel : decode (jx_mb 22) 38 = .ok (.ifCond .eq 7, 3))) rfl jx_hEq
  · exact fun d lv st M Q => jx_ev_st (jx_fok (by decide +kernel : decode (jx_mb 22) 41 = .ok (.iconst 0, 1))) rfl rfl rfl
  · exact fun d lv st M Q => jx_k_goto (jx_fok (by decide +kernel : decode (jx_mb 22) 42 = .ok (.goto 4, 3))) rfl
  · exact fun d lv st M Q => jx_ev_st (jx_fok (by decide +kernel : decode (jx_mb 22) 45 = .ok (.iconst 3, 1))) rfl rfl rfl
  · exact fun d lv M Q x => jx_k_ri (jx_fok (by decide +kernel : decode (jx_mb 22) 46 = .ok (.ireturn, 1))) rfl
theorem kX4_faultOfCells (d : Nat) (M : jx_M) (q : Int32 → jx_M → Prop) (a0 a1 a2 a3 : Value) : jx_I d 22 [a0, a1, a2, a3] M q ↔ jx_Ev d 22 0 [some a0, some a1, some a2, some a3] [] M (jx_qI q) := Iff.rfl
set_option maxRecDepth 100000 in
theorem eX4_read :
  (∀ (d : Nat) (st : List Value) (M : jx_M) (Q : jx_Po) (l0 : Option Value) (x : Int32), jx_Ev d 23 0 [l0, some (.int x)] st M Q ↔ jx_Ev d 23 1 [l0, some (.int x)] (.int x :: st) M Q) ∧
  (∀ (d : Nat) (lv : List (Option Value)) (st : List Value) (M : jx_M) (Q : jx_Po) (x : Int32), jx_Ev d 23 1 lv (.int x :: st) M Q ↔ (if x < 0 then jx_Ev d 23 21 lv st M Q else jx_Ev d 23 4 lv st M Q)) ∧
  (∀ (d : Nat) (st : List Value) (M : jx_M) (Q : jx_Po) (l0 : Option Value) (x : Int32), jx_Ev d 23 4 [l0, some (.int x)] st M Q ↔ jx_Ev d 23 5 [l0, some (.int x)] (.int x :: st) M Q) ∧
  (∀ (d : Nat) (st : List Value) (M : jx_M) (Q : jx_Po) (l1 : Option Value) (x : Nat), jx_Ev d 23 5 [some (.ref x), l1] st M Q ↔ jx_Ev d 23 6 [some (.ref x), l1] (.ref x :: st) M Q) ∧
  (∀ (d : Nat) (lv : List (Option Value)) (st : List Value) (M : jx_M) (Q : jx_Po) (k : Nat) (hk : jx_cl k = 4), jx_Ev d 23 6 lv (.ref k :: st) M Q ↔ jx_Ev d 23 9 lv (.int (M k 2) :: st) M Q) ∧
  (∀ (d : Nat) (lv : List (Option Value)) (st : List Value) (M : jx_M) (Q : jx_Po) (x z : Int32), jx_Ev d 23 9 lv (.int z :: .int x :: st) M Q ↔ (if z ≤ x then jx_Ev d 23 21 lv st M Q else jx_Ev d 23 12 lv st M Q)) ∧
  (∀ (d : Nat) (st : List Value) (M : jx_M) (Q : jx_Po) (l1 : Option Value) (x : Nat), jx_Ev d 23 12 [some (.ref x), l1] st M Q ↔ jx_Ev d 23 13 [some (.ref x), l1] (.ref x :: st) M Q) ∧
  (∀ (d : Nat) (lv : List (Option Value)) (st : List Value) (M : jx_M) (Q : jx_Po) (k : Nat) (hk : jx_cl k = 4), jx_Ev d 23 13 lv (.ref k :: st) M Q ↔ jx_Ev d 23 16 lv (.ref (k + 1) :: st) M Q) ∧
  (∀ (d : Nat) (st : List Value) (M : jx_M) (Q : jx_Po) (l0 : Option Value) (x : Int32), jx_Ev d 23 16 [l0, some (.int x)] st M Q ↔ jx_Ev d 23 17 [l0, some (.int x)] (.int x :: st) M Q) ∧
  (∀ (d : Nat) (lv : List (Option Value)) (st : List Value) (M : jx_M) (Q : jx_Po) (x : Int32) (a : Nat) (ha : jx_cl a = 9), jx_Ev d 23 17 lv (.int x :: .ref a :: st) M Q ↔ (vp_in x (jx_sz a) ∧ jx_Ev d 23 18 lv (.int (M a x.toNatClampNeg) :: st) M Q)) ∧
  (∀ (d : Nat) (lv : List (Option Value)) (st : List Value) (M : jx_M) (Q : jx_Po), jx_Ev d 23 18 lv st M Q ↔ jx_Ev d 23 22 lv st M Q) ∧
  (∀ (d : Nat) (lv : List (Option Value)) (st : List Value) (M : jx_M) (Q : jx_Po), jx_Ev d 23 21 lv st M Q ↔ jx_Ev d 23 22 lv (.int 0 :: st) M Q) ∧
  (∀ (d : Nat) (lv : List (Option Value)) (M : jx_M) (Q : jx_Po) (x : Int32), jx_Ev d 23 22 lv [.int x] M Q ↔ Q [.int x] M) := by
  refine ⟨?_, ?_, ?_, ?_, ?_, ?_, ?_, ?_, ?_, ?_, ?_, ?_, ?_⟩
  · exact fun d st M Q l0 x => jx_ev_st (jx_fok (by decide +kernel : decode (jx_mb 23) 0 = .ok (.iload_n 1, 1))) rfl rfl rfl
  · exact fun d lv st M Q x => jx_k_b1 (jx_fok (by decide +kernel : decode (jx_mb 23) 1 = .ok (.ifCond .lt 20, 3))) rfl jx_hLt
  · exact fun d st M Q l0 x => jx_ev_st (jx_fok (by decide +kernel : decode (jx_mb 23) 4 = .ok (.iload_n 1, 1))) rfl rfl rfl
  · exact fun d st M Q l1 x => jx_ev_st (jx_fok (by decide +kernel : decode (jx_mb 23) 5 = .ok (.aload_n 0, 1))) rfl rfl rfl
  · exact fun d lv st M Q k hk => jx_k_gf (jx_fok (by decide +kernel : decode (jx_mb 23) 6 = .ok (.getfield 19, 3))) rfl hk rfl
  · exact fun d lv st M Q x z => jx_k_b2 (jx_fok (by decide +kernel : decode (jx_mb 23) 9 = .ok (.if_icmp .ge 12, 3))) rfl jx_hGe
  · exact fun d st M Q l1 x => jx_ev_st (jx_fok (by decide +kernel : decode (jx_mb 23) 12 = .ok (.aload_n 0, 1))) rfl rfl rfl
  · exact fun d lv st M Q k hk => jx_k_gf (jx_fok (by decide +kernel : decode (jx_mb 23) 13 = .ok (.getfield 9, 3))) rfl hk rfl
  · exact fun d st M Q l0 x => jx_ev_st (jx_fok (by decide +kernel : decode (jx_mb 23) 16 = .ok (.iload_n 1, 1))) rfl rfl rfl
  · exact fun d lv st M Q x a ha => jx_k_al (jx_fok (by decide +kernel : decode (jx_mb 23) 17 = .ok (.iaload, 1))) ha
  · exact fun d lv st M Q => jx_k_goto (jx_fok (by decide +kernel : decode (jx_mb 23) 18 = .ok (.goto 4, 3))) rfl
  · exact fun d lv st M Q => jx_ev_st (jx_fok (by decide +kernel : decode (jx_mb 23) 21 = .ok (.iconst 0, 1))) rfl rfl rfl
  · exact fun d lv M Q x => jx_k_ri (jx_fok (by decide +kernel : decode (jx_mb 23) 22 = .ok (.ireturn, 1))) rfl
theorem kX4_read (d : Nat) (M : jx_M) (q : Int32 → jx_M → Prop) (a0 a1 : Value) : jx_I d 23 [a0, a1] M q ↔ jx_Ev d 23 0 [some a0, some a1] [] M (jx_qI q) := Iff.rfl
set_option maxRecDepth 100000 in
theorem eX4_write :
  (∀ (d : Nat) (st : List Value) (M : jx_M) (Q : jx_Po) (l0 l2 : Option Value) (x : Int32), jx_Ev d 24 0 [l0, some (.int x), l2] st M Q ↔ jx_Ev d 24 1 [l0, some (.int x), l2] (.int x :: st) M Q) ∧
  (∀ (d : Nat) (lv : List (Option Value)) (st : List Value) (M : jx_M) (Q : jx_Po) (x : Int32), jx_Ev d 24 1 lv (.int x :: st) M Q ↔ (if x < 0 then jx_Ev d 24 12 lv st M Q else jx_Ev d 24 4 lv st M Q)) ∧
  (∀ (d : Nat) (st : List Value) (M : jx_M) (Q : jx_Po) (l0 l2 : Option Value) (x : Int32), jx_Ev d 24 4 [l0, some (.int x), l2] st M Q ↔ jx_Ev d 24 5 [l0, some (.int x), l2] (.int x :: st) M Q) ∧
  (∀ (d : Nat) (st : List Value) (M : jx_M) (Q : jx_Po) (l1 l2 : Option Value) (x : Nat), jx_Ev d 24 5 [some (.ref x), l1, l2] st M Q ↔ jx_Ev d 24 6 [some (.ref x), l1, l2] (.ref x :: st) M Q) ∧
  (∀ (d : Nat) (lv : List (Option Value)) (st : List Value) (M : jx_M) (Q : jx_Po) (k : Nat) (hk : jx_cl k = 4), jx_Ev d 24 6 lv (.ref k :: st) M Q ↔ jx_Ev d 24 9 lv (.int (M k 2) :: st) M Q) ∧
  (∀ (d : Nat) (lv : List (Option Value)) (st : List Value) (M : jx_M) (Q : jx_Po) (x z : Int32), jx_Ev d 24 9 lv (.int z :: .int x :: st) M Q ↔ (if x < z then jx_Ev d 24 13 lv st M Q else jx_Ev d 24 12 lv st M Q)) ∧
  (∀ (d : Nat) (lv : List (Option Value)) (M : jx_M) (Q : jx_Po), jx_Ev d 24 12 lv [] M Q ↔ Q [] M) ∧
  (∀ (d : Nat) (st : List Value) (M : jx_M) (Q : jx_Po) (l1 l2 : Option Value) (x : Nat), jx_Ev d 24 13 [some (.ref x), l1, l2] st M Q ↔ jx_Ev d 24 14 [some (.ref x), l1, l2] (.ref x :: st) M Q) ∧
  (∀ (d : Nat) (lv : List (Option Value)) (st : List Value) (M : jx_M) (Q : jx_Po) (k : Nat) (hk : jx_cl k = 4), jx_Ev d 24 14 lv (.ref k :: st) M Q ↔ jx_Ev d 24 17 lv (.int (M k 1) :: st) M Q) ∧
  (∀ (d : Nat) (lv : List (Option Value)) (st : List Value) (M : jx_M) (Q : jx_Po) (x : Int32), jx_Ev d 24 17 lv (.int x :: st) M Q ↔ (if x = 0 then jx_Ev d 24 20 lv st M Q else jx_Ev d 24 31 lv st M Q)) ∧
  (∀ (d : Nat) (st : List Value) (M : jx_M) (Q : jx_Po) (l1 l2 : Option Value) (x : Nat), jx_Ev d 24 20 [some (.ref x), l1, l2] st M Q ↔ jx_Ev d 24 21 [some (.ref x), l1, l2] (.ref x :: st) M Q) ∧
  (∀ (d : Nat) (lv : List (Option Value)) (st : List Value) (M : jx_M) (Q : jx_Po) (k : Nat) (hk : jx_cl k = 4), jx_Ev d 24 21 lv (.ref k :: st) M Q ↔ jx_Ev d 24 24 lv (.ref (k + 1) :: st) M Q) ∧
  (∀ (d : Nat) (st : List Value) (M : jx_M) (Q : jx_Po) (l0 l2 : Option Value) (x : Int32), jx_Ev d 24 24 [l0, some (.int x), l2] st M Q ↔ jx_Ev d 24 25 [l0, some (.int x), l2] (.int x :: st) M Q) ∧
  (∀ (d : Nat) (st : List Value) (M : jx_M) (Q : jx_Po) (l0 l1 : Option Value) (x : Int32), jx_Ev d 24 25 [l0, l1, some (.int x)] st M Q ↔ jx_Ev d 24 26 [l0, l1, some (.int x)] (.int x :: st) M Q) ∧
  (∀ (d : Nat) (lv : List (Option Value)) (st : List Value) (M : jx_M) (Q : jx_Po) (x : Int32), jx_Ev d 24 26 lv (.int x :: st) M Q ↔ jx_Ev d 24 27 lv (.int x.toInt8.toInt32 :: st) M Q) ∧
  (∀ (d : Nat) (lv : List (Option Value)) (st : List Value) (M : jx_M) (Q : jx_Po) (x z : Int32) (a : Nat) (ha : jx_cl a = 9), jx_Ev d 24 27 lv (.int z :: .int x :: .ref a :: st) M Q ↔ (vp_in x (jx_sz a) ∧ jx_Ev d 24 28 lv st (jx_up M a x.toNatClampNeg z) Q)) ∧
  (∀ (d : Nat) (lv : List (Option Value)) (st : List Value) (M : jx_M) (Q : jx_Po), jx_Ev d 24 28 lv st M Q ↔ jx_Ev d 24 57 lv st M Q) ∧
  (∀ (d : Nat) (st : List Value) (M : jx_M) (Q : jx_Po) (l1 l2 : Option Value) (x : Nat), jx_Ev d 24 31 [some (.ref x), l1, l2] st M Q ↔ jx_Ev d 24 32 [some (.ref x), l1, l2] (.ref x :: st) M Q) ∧
  (∀ (d : Nat) (lv : List (Option Value)) (st : List Value) (M : jx_M) (Q : jx_Po) (k : Nat) (hk : jx_cl k = 4), jx_Ev d 24 32 lv (.ref k :: st) M Q ↔ jx_Ev d 24 35 lv (.int (M k 1) :: st) M Q) ∧
  (∀ (d : Nat) (lv : List (Option Value)) (st : List Value) (M : jx_M) (Q : jx_Po), jx_Ev d 24 35 lv st M Q ↔ jx_Ev d 24 36 lv (.int 1 :: st) M Q) ∧
  (∀ (d : Nat) (lv : List (Option Value)) (st : List Value) (M : jx_M) (Q : jx_Po) (x z : Int32), jx_Ev d 24 36 lv (.int z :: .int x :: st) M Q ↔ (if x = z then jx_Ev d 24 39 lv st M Q else jx_Ev d 24 50 lv st M Q)) ∧
  (∀ (d : Nat) (st : List Value) (M : jx_M) (Q : jx_Po) (l1 l2 : Option Value) (x : Nat), jx_Ev d 24 39 [some (.ref x), l1, l2] st M Q ↔ jx_Ev d 24 40 [some (.ref x), l1, l2] (.ref x :: st) M Q) ∧
  (∀ (d : Nat) (lv : List (Option Value)) (st : List Value) (M : jx_M) (Q : jx_Po) (k : Nat) (hk : jx_cl k = 4), jx_Ev d 24 40 lv (.ref k :: st) M Q ↔ jx_Ev d 24 43 lv (.ref (k + 1) :: st) M Q) ∧
  (∀ (d : Nat) (st : List Value) (M : jx_M) (Q : jx_Po) (l0 l2 : Option Value) (x : Int32), jx_Ev d 24 43 [l0, some (.int x), l2] st M Q ↔ jx_Ev d 24 44 [l0, some (.int x), l2] (.int x :: st) M Q) ∧
  (∀ (d : Nat) (st : List Value) (M : jx_M) (Q : jx_Po) (l0 l1 : Option Value) (x : Int32), jx_Ev d 24 44 [l0, l1, some (.int x)] st M Q ↔ jx_Ev d 24 45 [l0, l1, some (.int x)] (.int x :: st) M Q) ∧
  (∀ (d : Nat) (lv : List (Option Value)) (st : List Value) (M : jx_M) (Q : jx_Po) (x : Int32), jx_Ev d 24 45 lv (.int x :: st) M Q ↔ jx_Ev d 24 46 lv (.int x.toInt16.toInt32 :: st) M Q) ∧
  (∀ (d : Nat) (lv : List (Option Value)) (st : List Value) (M : jx_M) (Q : jx_Po) (x z : Int32) (a : Nat) (ha : jx_cl a = 9), jx_Ev d 24 46 lv (.int z :: .int x :: .ref a :: st) M Q ↔ (vp_in x (jx_sz a) ∧ jx_Ev d 24 47 lv st (jx_up M a x.toNatClampNeg z) Q)) ∧
  (∀ (d : Nat) (lv : List (Option Value)) (st : List Value) (M : jx_M) (Q : jx_Po), jx_Ev d 24 47 lv st M Q ↔ jx_Ev d 24 57 lv st M Q) ∧
  (∀ (d : Nat) (st : List Value) (M : jx_M) (Q : jx_Po) (l1 l2 : Option Value) (x : Nat), jx_Ev d 24 50 [some (.ref x), l1, l2] st M Q ↔ jx_Ev d 24 51 [some (.ref x), l1, l2] (.ref x :: st) M Q) ∧
  (∀ (d : Nat) (lv : List (Option Value)) (st : List Value) (M : jx_M) (Q : jx_Po) (k : Nat) (hk : jx_cl k = 4), jx_Ev d 24 51 lv (.ref k :: st) M Q ↔ jx_Ev d 24 54 lv (.ref (k + 1) :: st) M Q) ∧
  (∀ (d : Nat) (st : List Value) (M : jx_M) (Q : jx_Po) (l0 l2 : Option Value) (x : Int32), jx_Ev d 24 54 [l0, some (.int x), l2] st M Q ↔ jx_Ev d 24 55 [l0, some (.int x), l2] (.int x :: st) M Q) ∧
  (∀ (d : Nat) (st : List Value) (M : jx_M) (Q : jx_Po) (l0 l1 : Option Value) (x : Int32), jx_Ev d 24 55 [l0, l1, some (.int x)] st M Q ↔ jx_Ev d 24 56 [l0, l1, some (.int x)] (.int x :: st) M Q) ∧
  (∀ (d : Nat) (lv : List (Option Value)) (st : List Value) (M : jx_M) (Q : jx_Po) (x z : Int32) (a : Nat) (ha : jx_cl a = 9), jx_Ev d 24 56 lv (.int z :: .int x :: .ref a :: st) M Q ↔ (vp_in x (jx_sz a) ∧ jx_Ev d 24 57 lv st (jx_up M a x.toNatClampNeg z) Q)) ∧
  (∀ (d : Nat) (lv : List (Option Value)) (M : jx_M) (Q : jx_Po), jx_Ev d 24 57 lv [] M Q ↔ Q [] M) := by
  refine ⟨?_, ?_, ?_, ?_, ?_, ?_, ?_, ?_, ?_, ?_, ?_, ?_, ?_, ?_, ?_, ?_, ?_, ?_, ?_, ?_, ?_, ?_, ?_, ?_, ?_, ?_, ?_, ?_, ?_, ?_, ?_, ?_, ?_, ?_⟩
  · exact fun d st M Q l0 l2 x => jx_ev_st (jx_fok (by decide +kernel : decode (jx_mb 24) 0 = .ok (.iload_n 1, 1))) rfl rfl rfl
  · exact fun d lv st M Q x => jx_k_b1 (jx_fok (by decide +kernel : decode (jx_mb 24) 1 = .ok (.ifCond .lt 11, 3))) rfl jx_hLt
  · exact fun d st M Q l0 l2 x => jx_ev_st (jx_fok (by decide +kernel : decode (jx_mb 24) 4 = .ok (.iload_n 1, 1))) rfl rfl rfl
  · exact fun d st M Q l1 l2 x => jx_ev_st (jx_fok (by decide +kernel : decode (jx_mb 24) 5 = .ok (.aload_n 0, 1))) rfl rfl rfl
  · exact fun d lv st M Q k hk => jx_k_gf (jx_fok (by decide +kernel : decode (jx_mb 24) 6 = .ok (.getfield 19, 3))) rfl hk rfl
  · exact fun d lv st M Q x z => jx_k_b2 (jx_fok (by decide +kernel : decode (jx_mb 24) 9 = .ok (.if_icmp .lt 4, 3))) rfl jx_hLt
  · exact fun d lv M Q => jx_k_rv (jx_fok (by decide +kernel : decode (jx_mb 24) 12 = .ok (.return_, 1))) rfl
  · exact fun d st M Q l1 l2 x => jx_ev_st (jx_fok (by decide +kernel : decode (jx_mb 24) 13 = .ok (.aload_n 0, 1))) rfl rfl rfl
  · exact fun d lv st M Q k hk => jx_k_gf (jx_fok (by decide +kernel : decode (jx_mb 24) 14 = .ok (.getfield 15, 3))) rfl hk rfl
  · exact fun d lv st M Q x => jx_k_b1n (jx_fok (by decide +kernel : decode (jx_mb 24) 17 = .ok (.ifCond .ne 14, 3))) rfl jx_hNe
  · exact fun d st M Q l1 l2 x => jx_ev_st (jx_fok (by decide +kernel : decode (jx_mb 24) 20 = .ok (.aload_n 0, 1))) rfl rfl rfl
  · exact fun d lv st M Q k hk => jx_k_gf (jx_fok (by decide +kernel : decode (jx_mb 24) 21 = .ok (.getfield 9, 3))) rfl hk rfl
  · exact fun d st M Q l0 l2 x => jx_ev_st (jx_fok (by decide +kernel : decode (jx_mb 24) 24 = .ok (.iload_n 1, 1))) rfl rfl rfl
  · exact fun d st M Q l0 l1 x => jx_ev_st (jx_fok (by decide +kernel : decode (jx_mb 24) 25 = .ok (.iload_n 2, 1))) rfl rfl rfl
  · exact fun d lv st M Q x => jx_ev_st (jx_fok (by decide +kernel : decode (jx_mb 24) 26 = .ok (.i2b, 1))) rfl rfl rfl
  · exact fun d lv st M Q x z a ha => jx_k_as (jx_fok (by decide +kernel : decode (jx_mb 24) 27 = .ok (.iastore, 1))) ha
  · exact fun d lv st M Q => jx_k_goto (jx_fok (by decide +kernel : decode (jx_mb 24) 28 = .ok (.goto 29, 3))) rfl
  · exact fun d st M Q l1 l2 x => jx_ev_st (jx_fok (by decide +kernel : decode (jx_mb 24) 31 = .ok (.aload_n 0, 1))) rfl rfl rfl
  · exact fun d lv st M Q k hk => jx_k_gf (jx_fok (by decide +kernel : decode (jx_mb 24) 32 = .ok (.getfield 15, 3))) rfl hk rfl
  · exact fun d lv st M Q => jx_ev_st (jx_fok (by decide +kernel : decode (jx_mb 24) 35 = .ok (.iconst 1, 1))) rfl rfl rfl
  · exact fun d lv st M Q x z => jx_k_b2n (jx_fok (by decide +kernel : decode (jx_mb 24) 36 = .ok (.if_icmp .ne 14, 3))) rfl jx_hNe
  · exact fun d st M Q l1 l2 x => jx_ev_st (jx_fok (by decide +kernel : decode (jx_mb 24) 39 = .ok (.aload_n 0, 1))) rfl rfl rfl
  · exact fun d lv st M Q k hk => jx_k_gf (jx_fok (by decide +kernel : decode (jx_mb 24) 40 = .ok (.getfield 9, 3))) rfl hk rfl
  · exact fun d st M Q l0 l2 x => jx_ev_st (jx_fok (by decide +kernel : decode (jx_mb 24) 43 = .ok (.iload_n 1, 1))) rfl rfl rfl
  · exact fun d st M Q l0 l1 x => jx_ev_st (jx_fok (by decide +kernel : decode (jx_mb 24) 44 = .ok (.iload_n 2, 1))) rfl rfl rfl
  · exact fun d lv st M Q x => jx_ev_st (jx_fok (by decide +kernel : decode (jx_mb 24) 45 = .ok (.i2s, 1))) rfl rfl rfl
  · exact fun d lv st M Q x z a ha => jx_k_as (jx_fok (by decide +kernel : decode (jx_mb 24) 46 = .ok (.iastore, 1))) ha
  · exact fun d lv st M Q => jx_k_goto (jx_fok (by decide +kernel : decode (jx_mb 24) 47 = .ok (.goto 10, 3))) rfl
  · exact fun d st M Q l1 l2 x => jx_ev_st (jx_fok (by decide +kernel : decode (jx_mb 24) 50 = .ok (.aload_n 0, 1))) rfl rfl rfl
  · exact fun d lv st M Q k hk => jx_k_gf (jx_fok (by decide +kernel : decode (jx_mb 24) 51 = .ok (.getfield 9, 3))) rfl hk rfl
  · exact fun d st M Q l0 l2 x => jx_ev_st (jx_fok (by decide +kernel : decode (jx_mb 24) 54 = .ok (.iload_n 1, 1))) rfl rfl rfl
  · exact fun d st M Q l0 l1 x => jx_ev_st (jx_fok (by decide +kernel : decode (jx_mb 24) 55 = .ok (.iload_n 2, 1))) rfl rfl rfl
  · exact fun d lv st M Q x z a ha => jx_k_as (jx_fok (by decide +kernel : decode (jx_mb 24) 56 = .ok (.iastore, 1))) ha
  · exact fun d lv M Q => jx_k_rv (jx_fok (by decide +kernel : decode (jx_mb 24) 57 = .ok (.return_, 1))) rfl
theorem kX4_write (d : Nat) (M : jx_M) (q : jx_M → Prop) (a0 a1 a2 : Value) : jx_V d 24 [a0, a1, a2] M q ↔ jx_Ev d 24 0 [some a0, some a1, some a2] [] M (jx_qV q) := Iff.rfl
end
