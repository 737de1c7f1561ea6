section
-- ===== PART A: goes FIRST, ahead of the names: the tables' words, and 'selects' of the private methods out of them =====
/-- a private method of a class that the tables say can be made, by its rows of tables_1 -/
def lw_okq (q : MethodName × Nat) : Prop := (q.1.cls ≠ "java/lang/invoke/MethodHandle" ∧ q.1.cls ≠ "java/lang/invoke/VarHandle") ∧ Cond.instantiable q.1.cls q.2 ∈ tables_1 ∧ Cond.privateMethod q.1 ∈ tables_1 ∧ Cond.instanceMethod q.1 ∈ tables_1
theorem lw_p0 : lw_okq (⟨"BreadSpans", "error", "(I)I"⟩, 8) := ⟨⟨by decide +kernel, by decide +kernel⟩, List.mem_of_getElem? (i := 18) (by decide +kernel), List.mem_of_getElem? (i := 275) (by decide +kernel), List.mem_of_getElem? (i := 276) (by decide +kernel)⟩
theorem lw_p1 : lw_okq (⟨"BreadSpans$Span", "bearsAsRye", "()I"⟩, 7) := ⟨⟨by decide +kernel, by decide +kernel⟩, List.mem_of_getElem? (i := 35) (by decide +kernel), List.mem_of_getElem? (i := 301) (by decide +kernel), List.mem_of_getElem? (i := 302) (by decide +kernel)⟩
theorem lw_p2 : lw_okq (⟨"BreadSpans$Span", "bearsAsLoaf", "()I"⟩, 7) := ⟨⟨by decide +kernel, by decide +kernel⟩, List.mem_of_getElem? (i := 35) (by decide +kernel), List.mem_of_getElem? (i := 305) (by decide +kernel), List.mem_of_getElem? (i := 306) (by decide +kernel)⟩
theorem lw_p3 : lw_okq (⟨"BreadSpans$Span", "bearsAsBrioche", "()I"⟩, 7) := ⟨⟨by decide +kernel, by decide +kernel⟩, List.mem_of_getElem? (i := 35) (by decide +kernel), List.mem_of_getElem? (i := 312) (by decide +kernel), List.mem_of_getElem? (i := 313) (by decide +kernel)⟩
theorem lw_p4 : lw_okq (⟨"BreadSpans$Reader", "readAny", "(I)Z"⟩, 6) := ⟨⟨by decide +kernel, by decide +kernel⟩, List.mem_of_getElem? (i := 154) (by decide +kernel), List.mem_of_getElem? (i := 415) (by decide +kernel), List.mem_of_getElem? (i := 416) (by decide +kernel)⟩
theorem lw_p5 : lw_okq (⟨"BreadSpans$Reader", "readAll", "(I)Z"⟩, 6) := ⟨⟨by decide +kernel, by decide +kernel⟩, List.mem_of_getElem? (i := 154) (by decide +kernel), List.mem_of_getElem? (i := 419) (by decide +kernel), List.mem_of_getElem? (i := 420) (by decide +kernel)⟩
theorem lw_p6 : lw_okq (⟨"BreadSpans$Reader", "readCompared", "(I)Z"⟩, 6) := ⟨⟨by decide +kernel, by decide +kernel⟩, List.mem_of_getElem? (i := 154) (by decide +kernel), List.mem_of_getElem? (i := 423) (by decide +kernel), List.mem_of_getElem? (i := 424) (by decide +kernel)⟩
theorem lw_p7 : lw_okq (⟨"BreadSpans$Reader", "readSum", "(I)Z"⟩, 6) := ⟨⟨by decide +kernel, by decide +kernel⟩, List.mem_of_getElem? (i := 154) (by decide +kernel), List.mem_of_getElem? (i := 427) (by decide +kernel), List.mem_of_getElem? (i := 428) (by decide +kernel)⟩
theorem lw_p8 : lw_okq (⟨"BreadSpans$Reader", "readProduct", "(I)Z"⟩, 6) := ⟨⟨by decide +kernel, by decide +kernel⟩, List.mem_of_getElem? (i := 154) (by decide +kernel), List.mem_of_getElem? (i := 431) (by decide +kernel), List.mem_of_getElem? (i := 432) (by decide +kernel)⟩
theorem lw_p9 : lw_okq (⟨"BreadSpans$Reader", "readOne", "(I)Z"⟩, 6) := ⟨⟨by decide +kernel, by decide +kernel⟩, List.mem_of_getElem? (i := 154) (by decide +kernel), List.mem_of_getElem? (i := 435) (by decide +kernel), List.mem_of_getElem? (i := 436) (by decide +kernel)⟩
theorem lw_p10 : lw_okq (⟨"BreadSpans$Reader", "ahead", "()C"⟩, 6) := ⟨⟨by decide +kernel, by decide +kernel⟩, List.mem_of_getElem? (i := 154) (by decide +kernel), List.mem_of_getElem? (i := 439) (by decide +kernel), List.mem_of_getElem? (i := 440) (by decide +kernel)⟩
theorem lw_p11 : lw_okq (⟨"BreadSpans$Reader", "readNot", "(I)Z"⟩, 6) := ⟨⟨by decide +kernel, by decide +kernel⟩, List.mem_of_getElem? (i := 154) (by decide +kernel), List.mem_of_getElem? (i := 443) (by decide +kernel), List.mem_of_getElem? (i := 444) (by decide +kernel)⟩
theorem lw_p12 : lw_okq (⟨"BreadSpans$Reader", "make", "(I)V"⟩, 6) := ⟨⟨by decide +kernel, by decide +kernel⟩, List.mem_of_getElem? (i := 154) (by decide +kernel), List.mem_of_getElem? (i := 447) (by decide +kernel), List.mem_of_getElem? (i := 448) (by decide +kernel)⟩
theorem lw_p13 : lw_okq (⟨"BreadSpans$Reader", "readWithin", "(I)Z"⟩, 6) := ⟨⟨by decide +kernel, by decide +kernel⟩, List.mem_of_getElem? (i := 154) (by decide +kernel), List.mem_of_getElem? (i := 451) (by decide +kernel), List.mem_of_getElem? (i := 452) (by decide +kernel)⟩
theorem lw_p14 : lw_okq (⟨"BreadSpans$Reader", "readNumber", "()V"⟩, 6) := ⟨⟨by decide +kernel, by decide +kernel⟩, List.mem_of_getElem? (i := 154) (by decide +kernel), List.mem_of_getElem? (i := 458) (by decide +kernel), List.mem_of_getElem? (i := 459) (by decide +kernel)⟩
theorem lw_p15 : lw_okq (⟨"BreadSpans$Delta", "draw", "()I"⟩, 13) := ⟨⟨by decide +kernel, by decide +kernel⟩, List.mem_of_getElem? (i := 26) (by decide +kernel), List.mem_of_getElem? (i := 578) (by decide +kernel), List.mem_of_getElem? (i := 579) (by decide +kernel)⟩
def lw_privs_1 : List (MethodName × Nat) := [(⟨"BreadSpans", "error", "(I)I"⟩, 8), (⟨"BreadSpans$Span", "bearsAsRye", "()I"⟩, 7), (⟨"BreadSpans$Span", "bearsAsLoaf", "()I"⟩, 7), (⟨"BreadSpans$Span", "bearsAsBrioche", "()I"⟩, 7), (⟨"BreadSpans$Reader", "readAny", "(I)Z"⟩, 6), (⟨"BreadSpans$Reader", "readAll", "(I)Z"⟩, 6), (⟨"BreadSpans$Reader", "readCompared", "(I)Z"⟩, 6), (⟨"BreadSpans$Reader", "readSum", "(I)Z"⟩, 6), (⟨"BreadSpans$Reader", "readProduct", "(I)Z"⟩, 6), (⟨"BreadSpans$Reader", "readOne", "(I)Z"⟩, 6), (⟨"BreadSpans$Reader", "ahead", "()C"⟩, 6), (⟨"BreadSpans$Reader", "readNot", "(I)Z"⟩, 6), (⟨"BreadSpans$Reader", "make", "(I)V"⟩, 6), (⟨"BreadSpans$Reader", "readWithin", "(I)Z"⟩, 6), (⟨"BreadSpans$Reader", "readNumber", "()V"⟩, 6), (⟨"BreadSpans$Delta", "draw", "()I"⟩, 13)]
theorem lw_r1 : ∀ q ∈ lw_privs_1, lw_okq q := List.forall_mem_cons.mpr ⟨lw_p0, List.forall_mem_cons.mpr ⟨lw_p1, List.forall_mem_cons.mpr ⟨lw_p2, List.forall_mem_cons.mpr ⟨lw_p3, List.forall_mem_cons.mpr ⟨lw_p4, List.forall_mem_cons.mpr ⟨lw_p5, List.forall_mem_cons.mpr ⟨lw_p6, List.forall_mem_cons.mpr ⟨lw_p7, List.forall_mem_cons.mpr ⟨lw_p8, List.forall_mem_cons.mpr ⟨lw_p9, List.forall_mem_cons.mpr ⟨lw_p10, List.forall_mem_cons.mpr ⟨lw_p11, List.forall_mem_cons.mpr ⟨lw_p12, List.forall_mem_cons.mpr ⟨lw_p13, List.forall_mem_cons.mpr ⟨lw_p14, List.forall_mem_cons.mpr ⟨lw_p15, fun _ h => absurd h List.not_mem_nil⟩⟩⟩⟩⟩⟩⟩⟩⟩⟩⟩⟩⟩⟩⟩⟩
theorem lw_p16 : lw_okq (⟨"BreadSpans$Voices", "say", "(IIII)I"⟩, 6) := ⟨⟨by decide +kernel, by decide +kernel⟩, List.mem_of_getElem? (i := 184) (by decide +kernel), List.mem_of_getElem? (i := 691) (by decide +kernel), List.mem_of_getElem? (i := 692) (by decide +kernel)⟩
theorem lw_p17 : lw_okq (⟨"BreadSpans$Voices", "begin", "(IIII)I"⟩, 6) := ⟨⟨by decide +kernel, by decide +kernel⟩, List.mem_of_getElem? (i := 184) (by decide +kernel), List.mem_of_getElem? (i := 699) (by decide +kernel), List.mem_of_getElem? (i := 700) (by decide +kernel)⟩
theorem lw_p18 : lw_okq (⟨"BreadSpans$Voices", "part", "(II)I"⟩, 6) := ⟨⟨by decide +kernel, by decide +kernel⟩, List.mem_of_getElem? (i := 184) (by decide +kernel), List.mem_of_getElem? (i := 703) (by decide +kernel), List.mem_of_getElem? (i := 704) (by decide +kernel)⟩
theorem lw_p19 : lw_okq (⟨"BreadSpansModel", "error", "(I)I"⟩, 21) := ⟨⟨by decide +kernel, by decide +kernel⟩, List.mem_of_getElem? (i := 768) (by decide +kernel), List.mem_of_getElem? (i := 855) (by decide +kernel), List.mem_of_getElem? (i := 856) (by decide +kernel)⟩
theorem lw_p20 : lw_okq (⟨"BreadSpansModel", "lets", "(III)V"⟩, 21) := ⟨⟨by decide +kernel, by decide +kernel⟩, List.mem_of_getElem? (i := 768) (by decide +kernel), List.mem_of_getElem? (i := 861) (by decide +kernel), List.mem_of_getElem? (i := 862) (by decide +kernel)⟩
theorem lw_p21 : lw_okq (⟨"BreadSpansModel", "isSpan", "(I)Z"⟩, 21) := ⟨⟨by decide +kernel, by decide +kernel⟩, List.mem_of_getElem? (i := 768) (by decide +kernel), List.mem_of_getElem? (i := 869) (by decide +kernel), List.mem_of_getElem? (i := 870) (by decide +kernel)⟩
theorem lw_p22 : lw_okq (⟨"BreadSpansModel", "of", "(II)I"⟩, 21) := ⟨⟨by decide +kernel, by decide +kernel⟩, List.mem_of_getElem? (i := 768) (by decide +kernel), List.mem_of_getElem? (i := 873) (by decide +kernel), List.mem_of_getElem? (i := 874) (by decide +kernel)⟩
theorem lw_p23 : lw_okq (⟨"BreadSpansModel", "bearsOf", "(I)I"⟩, 21) := ⟨⟨by decide +kernel, by decide +kernel⟩, List.mem_of_getElem? (i := 768) (by decide +kernel), List.mem_of_getElem? (i := 877) (by decide +kernel), List.mem_of_getElem? (i := 878) (by decide +kernel)⟩
theorem lw_p24 : lw_okq (⟨"BreadSpansModel", "bearsBy", "(III)I"⟩, 21) := ⟨⟨by decide +kernel, by decide +kernel⟩, List.mem_of_getElem? (i := 768) (by decide +kernel), List.mem_of_getElem? (i := 881) (by decide +kernel), List.mem_of_getElem? (i := 882) (by decide +kernel)⟩
theorem lw_p25 : lw_okq (⟨"BreadSpansModel", "takesOf", "(I)I"⟩, 21) := ⟨⟨by decide +kernel, by decide +kernel⟩, List.mem_of_getElem? (i := 768) (by decide +kernel), List.mem_of_getElem? (i := 888) (by decide +kernel), List.mem_of_getElem? (i := 889) (by decide +kernel)⟩
theorem lw_p26 : lw_okq (⟨"BreadSpansModel", "becomes", "(II)I"⟩, 21) := ⟨⟨by decide +kernel, by decide +kernel⟩, List.mem_of_getElem? (i := 768) (by decide +kernel), List.mem_of_getElem? (i := 896) (by decide +kernel), List.mem_of_getElem? (i := 897) (by decide +kernel)⟩
theorem lw_p27 : lw_okq (⟨"BreadSpansModel", "crosses", "(II)I"⟩, 21) := ⟨⟨by decide +kernel, by decide +kernel⟩, List.mem_of_getElem? (i := 768) (by decide +kernel), List.mem_of_getElem? (i := 929) (by decide +kernel), List.mem_of_getElem? (i := 930) (by decide +kernel)⟩
theorem lw_p28 : lw_okq (⟨"BreadSpansModel", "gives", "(IIII)I"⟩, 21) := ⟨⟨by decide +kernel, by decide +kernel⟩, List.mem_of_getElem? (i := 768) (by decide +kernel), List.mem_of_getElem? (i := 934) (by decide +kernel), List.mem_of_getElem? (i := 935) (by decide +kernel)⟩
theorem lw_p29 : lw_okq (⟨"BreadSpansModel", "works", "(I)I"⟩, 21) := ⟨⟨by decide +kernel, by decide +kernel⟩, List.mem_of_getElem? (i := 768) (by decide +kernel), List.mem_of_getElem? (i := 938) (by decide +kernel), List.mem_of_getElem? (i := 939) (by decide +kernel)⟩
theorem lw_p30 : lw_okq (⟨"BreadSpansModel", "any", "()V"⟩, 21) := ⟨⟨by decide +kernel, by decide +kernel⟩, List.mem_of_getElem? (i := 768) (by decide +kernel), List.mem_of_getElem? (i := 954) (by decide +kernel), List.mem_of_getElem? (i := 955) (by decide +kernel)⟩
theorem lw_p31 : lw_okq (⟨"BreadSpansModel", "all", "()V"⟩, 21) := ⟨⟨by decide +kernel, by decide +kernel⟩, List.mem_of_getElem? (i := 768) (by decide +kernel), List.mem_of_getElem? (i := 958) (by decide +kernel), List.mem_of_getElem? (i := 959) (by decide +kernel)⟩
def lw_privs_2 : List (MethodName × Nat) := [(⟨"BreadSpans$Voices", "say", "(IIII)I"⟩, 6), (⟨"BreadSpans$Voices", "begin", "(IIII)I"⟩, 6), (⟨"BreadSpans$Voices", "part", "(II)I"⟩, 6), (⟨"BreadSpansModel", "error", "(I)I"⟩, 21), (⟨"BreadSpansModel", "lets", "(III)V"⟩, 21), (⟨"BreadSpansModel", "isSpan", "(I)Z"⟩, 21), (⟨"BreadSpansModel", "of", "(II)I"⟩, 21), (⟨"BreadSpansModel", "bearsOf", "(I)I"⟩, 21), (⟨"BreadSpansModel", "bearsBy", "(III)I"⟩, 21), (⟨"BreadSpansModel", "takesOf", "(I)I"⟩, 21), (⟨"BreadSpansModel", "becomes", "(II)I"⟩, 21), (⟨"BreadSpansModel", "crosses", "(II)I"⟩, 21), (⟨"BreadSpansModel", "gives", "(IIII)I"⟩, 21), (⟨"BreadSpansModel", "works", "(I)I"⟩, 21), (⟨"BreadSpansModel", "any", "()V"⟩, 21), (⟨"BreadSpansModel", "all", "()V"⟩, 21)]
theorem lw_r2 : ∀ q ∈ lw_privs_2, lw_okq q := List.forall_mem_cons.mpr ⟨lw_p16, List.forall_mem_cons.mpr ⟨lw_p17, List.forall_mem_cons.mpr ⟨lw_p18, List.forall_mem_cons.mpr ⟨lw_p19, List.forall_mem_cons.mpr ⟨lw_p20, List.forall_mem_cons.mpr ⟨lw_p21, List.forall_mem_cons.mpr ⟨lw_p22, List.forall_mem_cons.mpr ⟨lw_p23, List.forall_mem_cons.mpr ⟨lw_p24, List.forall_mem_cons.mpr ⟨lw_p25, List.forall_mem_cons.mpr ⟨lw_p26, List.forall_mem_cons.mpr ⟨lw_p27, List.forall_mem_cons.mpr ⟨lw_p28, List.forall_mem_cons.mpr ⟨lw_p29, List.forall_mem_cons.mpr ⟨lw_p30, List.forall_mem_cons.mpr ⟨lw_p31, fun _ h => absurd h List.not_mem_nil⟩⟩⟩⟩⟩⟩⟩⟩⟩⟩⟩⟩⟩⟩⟩⟩
theorem lw_p32 : lw_okq (⟨"BreadSpansModel", "compares", "()V"⟩, 21) := ⟨⟨by decide +kernel, by decide +kernel⟩, List.mem_of_getElem? (i := 768) (by decide +kernel), List.mem_of_getElem? (i := 962) (by decide +kernel), List.mem_of_getElem? (i := 963) (by decide +kernel)⟩
theorem lw_p33 : lw_okq (⟨"BreadSpansModel", "sum", "()V"⟩, 21) := ⟨⟨by decide +kernel, by decide +kernel⟩, List.mem_of_getElem? (i := 768) (by decide +kernel), List.mem_of_getElem? (i := 966) (by decide +kernel), List.mem_of_getElem? (i := 967) (by decide +kernel)⟩
theorem lw_p34 : lw_okq (⟨"BreadSpansModel", "times", "()V"⟩, 21) := ⟨⟨by decide +kernel, by decide +kernel⟩, List.mem_of_getElem? (i := 768) (by decide +kernel), List.mem_of_getElem? (i := 970) (by decide +kernel), List.mem_of_getElem? (i := 971) (by decide +kernel)⟩
theorem lw_p35 : lw_okq (⟨"BreadSpansModel", "one", "()V"⟩, 21) := ⟨⟨by decide +kernel, by decide +kernel⟩, List.mem_of_getElem? (i := 768) (by decide +kernel), List.mem_of_getElem? (i := 974) (by decide +kernel), List.mem_of_getElem? (i := 975) (by decide +kernel)⟩
theorem lw_p36 : lw_okq (⟨"BreadSpansModel", "look", "()I"⟩, 21) := ⟨⟨by decide +kernel, by decide +kernel⟩, List.mem_of_getElem? (i := 768) (by decide +kernel), List.mem_of_getElem? (i := 978) (by decide +kernel), List.mem_of_getElem? (i := 979) (by decide +kernel)⟩
theorem lw_p37 : lw_okq (⟨"BreadSpansModel", "nameOf", "(I)I"⟩, 21) := ⟨⟨by decide +kernel, by decide +kernel⟩, List.mem_of_getElem? (i := 768) (by decide +kernel), List.mem_of_getElem? (i := 982) (by decide +kernel), List.mem_of_getElem? (i := 983) (by decide +kernel)⟩
theorem lw_p38 : lw_okq (⟨"BreadSpansModel", "step", "(II)V"⟩, 21) := ⟨⟨by decide +kernel, by decide +kernel⟩, List.mem_of_getElem? (i := 768) (by decide +kernel), List.mem_of_getElem? (i := 986) (by decide +kernel), List.mem_of_getElem? (i := 987) (by decide +kernel)⟩
theorem lw_p39 : lw_okq (⟨"BreadSpansModel", "opens", "(I)V"⟩, 21) := ⟨⟨by decide +kernel, by decide +kernel⟩, List.mem_of_getElem? (i := 768) (by decide +kernel), List.mem_of_getElem? (i := 990) (by decide +kernel), List.mem_of_getElem? (i := 991) (by decide +kernel)⟩
theorem lw_p40 : lw_okq (⟨"BreadSpansModel", "number", "()V"⟩, 21) := ⟨⟨by decide +kernel, by decide +kernel⟩, List.mem_of_getElem? (i := 768) (by decide +kernel), List.mem_of_getElem? (i := 994) (by decide +kernel), List.mem_of_getElem? (i := 995) (by decide +kernel)⟩
theorem lw_p41 : lw_okq (⟨"BreadSpansModel", "goes", "()V"⟩, 21) := ⟨⟨by decide +kernel, by decide +kernel⟩, List.mem_of_getElem? (i := 768) (by decide +kernel), List.mem_of_getElem? (i := 1010) (by decide +kernel), List.mem_of_getElem? (i := 1011) (by decide +kernel)⟩
theorem lw_p42 : lw_okq (⟨"BreadSpansModel", "drawn", "()I"⟩, 21) := ⟨⟨by decide +kernel, by decide +kernel⟩, List.mem_of_getElem? (i := 768) (by decide +kernel), List.mem_of_getElem? (i := 1018) (by decide +kernel), List.mem_of_getElem? (i := 1019) (by decide +kernel)⟩
theorem lw_p43 : lw_okq (⟨"BreadSpansModel", "draw", "()I"⟩, 21) := ⟨⟨by decide +kernel, by decide +kernel⟩, List.mem_of_getElem? (i := 768) (by decide +kernel), List.mem_of_getElem? (i := 1022) (by decide +kernel), List.mem_of_getElem? (i := 1023) (by decide +kernel)⟩
theorem lw_p44 : lw_okq (⟨"BreadSpansModel", "findBearing", "()V"⟩, 21) := ⟨⟨by decide +kernel, by decide +kernel⟩, List.mem_of_getElem? (i := 768) (by decide +kernel), List.mem_of_getElem? (i := 1035) (by decide +kernel), List.mem_of_getElem? (i := 1036) (by decide +kernel)⟩
theorem lw_p45 : lw_okq (⟨"BreadSpansModel", "joinedBy", "(II)I"⟩, 21) := ⟨⟨by decide +kernel, by decide +kernel⟩, List.mem_of_getElem? (i := 768) (by decide +kernel), List.mem_of_getElem? (i := 1039) (by decide +kernel), List.mem_of_getElem? (i := 1040) (by decide +kernel)⟩
theorem lw_p46 : lw_okq (⟨"BreadSpansModel", "areJoinedBy", "(III)Z"⟩, 21) := ⟨⟨by decide +kernel, by decide +kernel⟩, List.mem_of_getElem? (i := 768) (by decide +kernel), List.mem_of_getElem? (i := 1047) (by decide +kernel), List.mem_of_getElem? (i := 1048) (by decide +kernel)⟩
theorem lw_p47 : lw_okq (⟨"BreadSpansModel", "flourFor", "(I)I"⟩, 21) := ⟨⟨by decide +kernel, by decide +kernel⟩, List.mem_of_getElem? (i := 768) (by decide +kernel), List.mem_of_getElem? (i := 1056) (by decide +kernel), List.mem_of_getElem? (i := 1057) (by decide +kernel)⟩
def lw_privs_3 : List (MethodName × Nat) := [(⟨"BreadSpansModel", "compares", "()V"⟩, 21), (⟨"BreadSpansModel", "sum", "()V"⟩, 21), (⟨"BreadSpansModel", "times", "()V"⟩, 21), (⟨"BreadSpansModel", "one", "()V"⟩, 21), (⟨"BreadSpansModel", "look", "()I"⟩, 21), (⟨"BreadSpansModel", "nameOf", "(I)I"⟩, 21), (⟨"BreadSpansModel", "step", "(II)V"⟩, 21), (⟨"BreadSpansModel", "opens", "(I)V"⟩, 21), (⟨"BreadSpansModel", "number", "()V"⟩, 21), (⟨"BreadSpansModel", "goes", "()V"⟩, 21), (⟨"BreadSpansModel", "drawn", "()I"⟩, 21), (⟨"BreadSpansModel", "draw", "()I"⟩, 21), (⟨"BreadSpansModel", "findBearing", "()V"⟩, 21), (⟨"BreadSpansModel", "joinedBy", "(II)I"⟩, 21), (⟨"BreadSpansModel", "areJoinedBy", "(III)Z"⟩, 21), (⟨"BreadSpansModel", "flourFor", "(I)I"⟩, 21)]
theorem lw_r3 : ∀ q ∈ lw_privs_3, lw_okq q := List.forall_mem_cons.mpr ⟨lw_p32, List.forall_mem_cons.mpr ⟨lw_p33, List.forall_mem_cons.mpr ⟨lw_p34, List.forall_mem_cons.mpr ⟨lw_p35, List.forall_mem_cons.mpr ⟨lw_p36, List.forall_mem_cons.mpr ⟨lw_p37, List.forall_mem_cons.mpr ⟨lw_p38, List.forall_mem_cons.mpr ⟨lw_p39, List.forall_mem_cons.mpr ⟨lw_p40, List.forall_mem_cons.mpr ⟨lw_p41, List.forall_mem_cons.mpr ⟨lw_p42, List.forall_mem_cons.mpr ⟨lw_p43, List.forall_mem_cons.mpr ⟨lw_p44, List.forall_mem_cons.mpr ⟨lw_p45, List.forall_mem_cons.mpr ⟨lw_p46, List.forall_mem_cons.mpr ⟨lw_p47, fun _ h => absurd h List.not_mem_nil⟩⟩⟩⟩⟩⟩⟩⟩⟩⟩⟩⟩⟩⟩⟩⟩
theorem lw_p48 : lw_okq (⟨"BreadSpansModel", "thinks", "()V"⟩, 21) := ⟨⟨by decide +kernel, by decide +kernel⟩, List.mem_of_getElem? (i := 768) (by decide +kernel), List.mem_of_getElem? (i := 1071) (by decide +kernel), List.mem_of_getElem? (i := 1072) (by decide +kernel)⟩
theorem lw_p49 : lw_okq (⟨"BreadSpansModel", "areJoined", "(III)Z"⟩, 21) := ⟨⟨by decide +kernel, by decide +kernel⟩, List.mem_of_getElem? (i := 768) (by decide +kernel), List.mem_of_getElem? (i := 1078) (by decide +kernel), List.mem_of_getElem? (i := 1079) (by decide +kernel)⟩
theorem lw_p50 : lw_okq (⟨"BreadSpansModel", "putsBack", "()V"⟩, 21) := ⟨⟨by decide +kernel, by decide +kernel⟩, List.mem_of_getElem? (i := 768) (by decide +kernel), List.mem_of_getElem? (i := 1082) (by decide +kernel), List.mem_of_getElem? (i := 1083) (by decide +kernel)⟩
theorem lw_p51 : lw_okq (⟨"BreadSpansModel", "notThere", "(I)I"⟩, 21) := ⟨⟨by decide +kernel, by decide +kernel⟩, List.mem_of_getElem? (i := 768) (by decide +kernel), List.mem_of_getElem? (i := 1098) (by decide +kernel), List.mem_of_getElem? (i := 1099) (by decide +kernel)⟩
theorem lw_p52 : lw_okq (⟨"BreadSpansModel", "rightOf", "(I)I"⟩, 21) := ⟨⟨by decide +kernel, by decide +kernel⟩, List.mem_of_getElem? (i := 768) (by decide +kernel), List.mem_of_getElem? (i := 1105) (by decide +kernel), List.mem_of_getElem? (i := 1106) (by decide +kernel)⟩
theorem lw_p53 : lw_okq (⟨"BreadSpansModel", "crusts", "(II)I"⟩, 21) := ⟨⟨by decide +kernel, by decide +kernel⟩, List.mem_of_getElem? (i := 768) (by decide +kernel), List.mem_of_getElem? (i := 1113) (by decide +kernel), List.mem_of_getElem? (i := 1114) (by decide +kernel)⟩
theorem lw_p54 : lw_okq (⟨"BreadSpansModel", "ryeCrusts", "(II)I"⟩, 21) := ⟨⟨by decide +kernel, by decide +kernel⟩, List.mem_of_getElem? (i := 768) (by decide +kernel), List.mem_of_getElem? (i := 1117) (by decide +kernel), List.mem_of_getElem? (i := 1118) (by decide +kernel)⟩
theorem lw_p55 : lw_okq (⟨"BreadSpansModel", "begins", "(I)V"⟩, 21) := ⟨⟨by decide +kernel, by decide +kernel⟩, List.mem_of_getElem? (i := 768) (by decide +kernel), List.mem_of_getElem? (i := 1121) (by decide +kernel), List.mem_of_getElem? (i := 1122) (by decide +kernel)⟩
theorem lw_p56 : lw_okq (⟨"BreadSpansModel", "plainCrusts", "(II)I"⟩, 21) := ⟨⟨by decide +kernel, by decide +kernel⟩, List.mem_of_getElem? (i := 768) (by decide +kernel), List.mem_of_getElem? (i := 1125) (by decide +kernel), List.mem_of_getElem? (i := 1126) (by decide +kernel)⟩
theorem lw_p57 : lw_okq (⟨"BreadSpansModel", "steams", "(II)I"⟩, 21) := ⟨⟨by decide +kernel, by decide +kernel⟩, List.mem_of_getElem? (i := 768) (by decide +kernel), List.mem_of_getElem? (i := 1129) (by decide +kernel), List.mem_of_getElem? (i := 1130) (by decide +kernel)⟩
theorem lw_p58 : lw_okq (⟨"BreadSpansModel", "briocheSteams", "(II)I"⟩, 21) := ⟨⟨by decide +kernel, by decide +kernel⟩, List.mem_of_getElem? (i := 768) (by decide +kernel), List.mem_of_getElem? (i := 1133) (by decide +kernel), List.mem_of_getElem? (i := 1134) (by decide +kernel)⟩
theorem lw_p59 : lw_okq (⟨"BreadSpansModel", "plainSteams", "(II)I"⟩, 21) := ⟨⟨by decide +kernel, by decide +kernel⟩, List.mem_of_getElem? (i := 768) (by decide +kernel), List.mem_of_getElem? (i := 1137) (by decide +kernel), List.mem_of_getElem? (i := 1138) (by decide +kernel)⟩
theorem lw_p60 : lw_okq (⟨"BreadSpansModel", "crumbles", "(II)I"⟩, 21) := ⟨⟨by decide +kernel, by decide +kernel⟩, List.mem_of_getElem? (i := 768) (by decide +kernel), List.mem_of_getElem? (i := 1141) (by decide +kernel), List.mem_of_getElem? (i := 1142) (by decide +kernel)⟩
theorem lw_p61 : lw_okq (⟨"BreadSpansModel", "plainCrumbles", "(II)I"⟩, 21) := ⟨⟨by decide +kernel, by decide +kernel⟩, List.mem_of_getElem? (i := 768) (by decide +kernel), List.mem_of_getElem? (i := 1145) (by decide +kernel), List.mem_of_getElem? (i := 1146) (by decide +kernel)⟩
theorem lw_p62 : lw_okq (⟨"BreadSpansModel", "partsBy", "(II)I"⟩, 21) := ⟨⟨by decide +kernel, by decide +kernel⟩, List.mem_of_getElem? (i := 768) (by decide +kernel), List.mem_of_getElem? (i := 1149) (by decide +kernel), List.mem_of_getElem? (i := 1150) (by decide +kernel)⟩
theorem lw_p63 : lw_okq (⟨"BreadSpansModel", "plainParts", "(II)I"⟩, 21) := ⟨⟨by decide +kernel, by decide +kernel⟩, List.mem_of_getElem? (i := 768) (by decide +kernel), List.mem_of_getElem? (i := 1153) (by decide +kernel), List.mem_of_getElem? (i := 1154) (by decide +kernel)⟩
def lw_privs_4 : List (MethodName × Nat) := [(⟨"BreadSpansModel", "thinks", "()V"⟩, 21), (⟨"BreadSpansModel", "areJoined", "(III)Z"⟩, 21), (⟨"BreadSpansModel", "putsBack", "()V"⟩, 21), (⟨"BreadSpansModel", "notThere", "(I)I"⟩, 21), (⟨"BreadSpansModel", "rightOf", "(I)I"⟩, 21), (⟨"BreadSpansModel", "crusts", "(II)I"⟩, 21), (⟨"BreadSpansModel", "ryeCrusts", "(II)I"⟩, 21), (⟨"BreadSpansModel", "begins", "(I)V"⟩, 21), (⟨"BreadSpansModel", "plainCrusts", "(II)I"⟩, 21), (⟨"BreadSpansModel", "steams", "(II)I"⟩, 21), (⟨"BreadSpansModel", "briocheSteams", "(II)I"⟩, 21), (⟨"BreadSpansModel", "plainSteams", "(II)I"⟩, 21), (⟨"BreadSpansModel", "crumbles", "(II)I"⟩, 21), (⟨"BreadSpansModel", "plainCrumbles", "(II)I"⟩, 21), (⟨"BreadSpansModel", "partsBy", "(II)I"⟩, 21), (⟨"BreadSpansModel", "plainParts", "(II)I"⟩, 21)]
theorem lw_r4 : ∀ q ∈ lw_privs_4, lw_okq q := List.forall_mem_cons.mpr ⟨lw_p48, List.forall_mem_cons.mpr ⟨lw_p49, List.forall_mem_cons.mpr ⟨lw_p50, List.forall_mem_cons.mpr ⟨lw_p51, List.forall_mem_cons.mpr ⟨lw_p52, List.forall_mem_cons.mpr ⟨lw_p53, List.forall_mem_cons.mpr ⟨lw_p54, List.forall_mem_cons.mpr ⟨lw_p55, List.forall_mem_cons.mpr ⟨lw_p56, List.forall_mem_cons.mpr ⟨lw_p57, List.forall_mem_cons.mpr ⟨lw_p58, List.forall_mem_cons.mpr ⟨lw_p59, List.forall_mem_cons.mpr ⟨lw_p60, List.forall_mem_cons.mpr ⟨lw_p61, List.forall_mem_cons.mpr ⟨lw_p62, List.forall_mem_cons.mpr ⟨lw_p63, fun _ h => absurd h List.not_mem_nil⟩⟩⟩⟩⟩⟩⟩⟩⟩⟩⟩⟩⟩⟩⟩⟩
theorem lw_p64 : lw_okq (⟨"BreadSpansModel", "notMoved", "(IIIII)I"⟩, 21) := ⟨⟨by decide +kernel, by decide +kernel⟩, List.mem_of_getElem? (i := 768) (by decide +kernel), List.mem_of_getElem? (i := 1174) (by decide +kernel), List.mem_of_getElem? (i := 1175) (by decide +kernel)⟩
def lw_privs_5 : List (MethodName × Nat) := [(⟨"BreadSpansModel", "notMoved", "(IIIII)I"⟩, 21)]
theorem lw_r5 : ∀ q ∈ lw_privs_5, lw_okq q := List.forall_mem_cons.mpr ⟨lw_p64, fun _ h => absurd h List.not_mem_nil⟩
def lw_privs : List (MethodName × Nat) := lw_privs_1 ++ (lw_privs_2 ++ (lw_privs_3 ++ (lw_privs_4 ++ (lw_privs_5))))
def lw_tbl : List Cond := k2_sels lw_privs ++ tables_1
theorem lw_privs_ok : ∀ q ∈ lw_privs, lw_okq q := by
  show ∀ q ∈ lw_privs_1 ++ (lw_privs_2 ++ (lw_privs_3 ++ (lw_privs_4 ++ (lw_privs_5)))), lw_okq q
  exact List.forall_mem_append.mpr ⟨lw_r1, List.forall_mem_append.mpr ⟨lw_r2, List.forall_mem_append.mpr ⟨lw_r3, List.forall_mem_append.mpr ⟨lw_r4, lw_r5⟩⟩⟩⟩
-- ===== end of PART A; then your names; then what follows =====
end
section
/-! ===== BEGIN words of one list among another's, by their places ===== -/
theorem goodIn_r {big : List Cond} (ws : List Cond) (ps : List Nat) (hp : ws = ps.filterMap (fun i => big[i]?)) (h : ws.all goodWord = true) : GoodIn big ws := by
  intro w hw
  have h1 := List.all_eq_true.mp h w hw
  rw [hp] at hw
  obtain ⟨i, -, hi⟩ := List.mem_filterMap.mp hw
  have hm : w ∈ big := by first | exact List.mem_of_getElem? hi | exact List.getElem?_mem hi
  exact ⟨hm, good_of_word h1⟩
theorem goodIn_app {big a b : List Cond} (ha : GoodIn big a) (hb : GoodIn big b) : GoodIn big (a ++ b) := fun w h => (List.mem_append.mp h).elim (ha w) (hb w)
theorem goodIn_ca {big a b : List Cond} {c : Cond} (ha : GoodIn big (c :: a)) (hb : GoodIn big b) : GoodIn big (c :: (a ++ b)) := fun w h => (List.mem_cons.mp h).elim (fun e => ha w (List.mem_cons.mpr (Or.inl e))) (fun h => (List.mem_append.mp h).elim (fun h => ha w (List.mem_cons.mpr (Or.inr h))) (hb w))
theorem goodIn_sub {big ws : List Cond} (hm : ∀ w ∈ ws, w ∈ big) (h : ws.all goodWord = true) : GoodIn big ws := fun w hw => ⟨hm w hw, good_of_word (List.all_eq_true.mp h w hw)⟩
/-! ===== END ===== -/

/-! ===== BEGIN printed: names, fields, word lists, decode rows ===== -/
def RX0 : String := "BreadSpans$Delta"
def TX0 : u_T := fun k => match k with
  | 0 => ("BreadSpans$Delta", "spans", "[LBreadSpans$Span;", true)
  | 1 => ("BreadSpans$Delta", "many", "I", false)
  | 2 => ("BreadSpans$Delta", "rain", "I", false)
  | 3 => ("BreadSpans$Delta", "flour", "I", false)
  | 4 => ("BreadSpans$Delta", "day", "I", false)
  | 5 => ("BreadSpans$Delta", "lost", "I", false)
  | 6 => ("BreadSpans$Delta", "toll", "I", false)
  | 7 => ("BreadSpans$Delta", "z", "I", false)
  | 8 => ("BreadSpans$Delta", "laws", "[LBreadSpans$Law;", true)
  | 9 => ("BreadSpans$Delta", "tape", "[C", true)
  | 10 => ("BreadSpans$Delta", "taped", "I", false)
  | 11 => ("BreadSpans$Delta", "waiting", "[I", true)
  | _ => ("BreadSpans$Delta", "waits", "I", false)
def tyX0 : Nat → FieldType := fun k => match k with
  | 0 => .array (.object "BreadSpans$Span")
  | 1 => .int
  | 2 => .int
  | 3 => .int
  | 4 => .int
  | 5 => .int
  | 6 => .int
  | 7 => .int
  | 8 => .array (.object "BreadSpans$Law")
  | 9 => .array .char
  | 10 => .int
  | 11 => .array .int
  | _ => .int
abbrev wsX00 : List Cond := u_ws RX0 TX0 13
theorem nmX0 : ∀ a, a < 13 → ∀ b, b < 13 → a ≠ b → (TX0 a).2.1 ≠ (TX0 b).2.1 := by decide +kernel
theorem tyX0_ok : ∀ k, k < 13 → parseFieldDescriptor (TX0 k).2.2.1 = some (tyX0 k) := by decide +kernel
abbrev cX0_init : ByteArray := prog_2_method_1_code
def yX0_init : MethodName := ⟨RX0, "<init>", "()V"⟩
abbrev cX0_takeFrom : ByteArray := prog_2_method_2_code
def yX0_takeFrom : MethodName := ⟨RX0, "takeFrom", "(LBreadSpans$Delta;)V"⟩
abbrev cX0_hasSpan : ByteArray := prog_2_method_3_code
def yX0_hasSpan : MethodName := ⟨RX0, "hasSpan", "(I)Z"⟩
abbrev cX0_addSpan : ByteArray := prog_2_method_4_code
def yX0_addSpan : MethodName := ⟨RX0, "addSpan", "(III)I"⟩
abbrev cX0_addToTape : ByteArray := prog_2_method_5_code
def yX0_addToTape : MethodName := ⟨RX0, "addToTape", "(JI)I"⟩
abbrev cX0_gives : ByteArray := prog_2_method_6_code
def yX0_gives : MethodName := ⟨RX0, "gives", "(IIII)I"⟩
abbrev cX0_carryOver : ByteArray := prog_2_method_7_code
def yX0_carryOver : MethodName := ⟨RX0, "carryOver", "(LBreadSpans$Span;I)I"⟩
abbrev cX0_passDay : ByteArray := prog_2_method_8_code
def yX0_passDay : MethodName := ⟨RX0, "passDay", "()V"⟩
abbrev cX0_passDayByDraws : ByteArray := prog_2_method_9_code
def yX0_passDayByDraws : MethodName := ⟨RX0, "passDayByDraws", "()I"⟩
abbrev cX0_draw : ByteArray := prog_2_method_10_code
def yX0_draw : MethodName := ⟨RX0, "draw", "()I"⟩
abbrev cX0_bearing : ByteArray := prog_2_method_11_code
def yX0_bearing : MethodName := ⟨RX0, "bearing", "(I)I"⟩
abbrev cX0_reachOver : ByteArray := prog_2_method_12_code
def yX0_reachOver : MethodName := ⟨RX0, "reachOver", "(II)I"⟩
abbrev cX0_joins : ByteArray := prog_2_method_13_code
def yX0_joins : MethodName := ⟨RX0, "joins", "(III)Z"⟩
abbrev cX0_flourFor : ByteArray := prog_2_method_14_code
def yX0_flourFor : MethodName := ⟨RX0, "flourFor", "(I)I"⟩
abbrev cX0_bakeAllAnew : ByteArray := prog_2_method_15_code
def yX0_bakeAllAnew : MethodName := ⟨RX0, "bakeAllAnew", "()V"⟩
abbrev cX0_rightOnes : ByteArray := prog_2_method_16_code
def yX0_rightOnes : MethodName := ⟨RX0, "rightOnes", "(LBreadSpans$Sheet;)I"⟩
def RX1 : String := "BreadSpans$Law"
def TX1 : u_T := fun k => match k with
  | 0 => ("BreadSpans$Law", "written", "Z", false)
  | 1 => ("BreadSpans$Law", "length", "I", false)
  | 2 => ("BreadSpans$Law", "code", "[I", true)
  | _ => ("BreadSpans$Law", "open", "[I", true)
def tyX1 : Nat → FieldType := fun k => match k with
  | 0 => .boolean
  | 1 => .int
  | 2 => .array .int
  | _ => .array .int
abbrev wsX10 : List Cond := u_ws RX1 TX1 4
theorem nmX1 : ∀ a, a < 4 → ∀ b, b < 4 → a ≠ b → (TX1 a).2.1 ≠ (TX1 b).2.1 := by decide +kernel
theorem tyX1_ok : ∀ k, k < 4 → parseFieldDescriptor (TX1 k).2.2.1 = some (tyX1 k) := by decide +kernel
abbrev cX1_init : ByteArray := prog_3_method_1_code
def yX1_init : MethodName := ⟨RX1, "<init>", "()V"⟩
abbrev cX1_write : ByteArray := prog_3_method_2_code
def yX1_write : MethodName := ⟨RX1, "write", "([II)V"⟩
abbrev cX1_takeFrom : ByteArray := prog_3_method_3_code
def yX1_takeFrom : MethodName := ⟨RX1, "takeFrom", "(LBreadSpans$Law;)V"⟩
abbrev cX1_workOut : ByteArray := prog_3_method_4_code
def yX1_workOut : MethodName := ⟨RX1, "workOut", "(III)I"⟩
abbrev cX1_join : ByteArray := prog_3_method_5_code
def yX1_join : MethodName := ⟨RX1, "join", "(III)I"⟩
abbrev cX1_truth : ByteArray := prog_3_method_6_code
def yX1_truth : MethodName := ⟨RX1, "truth", "(Z)I"⟩
def RX2 : String := "BreadSpans$Reader"
def TX2 : u_T := fun k => match k with
  | 0 => ("BreadSpans$Reader", "code", "[I", true)
  | 1 => ("BreadSpans$Reader", "made", "I", false)
  | 2 => ("BreadSpans$Reader", "at", "I", false)
  | 3 => ("BreadSpans$Reader", "bytes", "[C", true)
  | 4 => ("BreadSpans$Reader", "n", "I", false)
  | _ => ("BreadSpans$Reader", "names", "Ljava/lang/String;", false)
def tyX2 : Nat → FieldType := fun k => match k with
  | 0 => .array .int
  | 1 => .int
  | 2 => .int
  | 3 => .array .char
  | 4 => .int
  | _ => .object "java/lang/String"
abbrev wsX20 : List Cond := u_ws RX2 TX2 6
theorem nmX2 : ∀ a, a < 6 → ∀ b, b < 6 → a ≠ b → (TX2 a).2.1 ≠ (TX2 b).2.1 := by decide +kernel
theorem tyX2_ok : ∀ k, k < 6 → parseFieldDescriptor (TX2 k).2.2.1 = some (tyX2 k) := by decide +kernel
abbrev cX2_init : ByteArray := prog_4_method_1_code
def yX2_init : MethodName := ⟨RX2, "<init>", "()V"⟩
abbrev cX2_reads : ByteArray := prog_4_method_2_code
def yX2_reads : MethodName := ⟨RX2, "reads", "([CII)Z"⟩
abbrev cX2_ahead : ByteArray := prog_4_method_3_code
def yX2_ahead : MethodName := ⟨RX2, "ahead", "()C"⟩
abbrev cX2_make : ByteArray := prog_4_method_4_code
def yX2_make : MethodName := ⟨RX2, "make", "(I)V"⟩
abbrev cX2_readAny : ByteArray := prog_4_method_5_code
def yX2_readAny : MethodName := ⟨RX2, "readAny", "(I)Z"⟩
abbrev cX2_readAll : ByteArray := prog_4_method_6_code
def yX2_readAll : MethodName := ⟨RX2, "readAll", "(I)Z"⟩
abbrev cX2_readCompared : ByteArray := prog_4_method_7_code
def yX2_readCompared : MethodName := ⟨RX2, "readCompared", "(I)Z"⟩
abbrev cX2_readSum : ByteArray := prog_4_method_8_code
def yX2_readSum : MethodName := ⟨RX2, "readSum", "(I)Z"⟩
abbrev cX2_readProduct : ByteArray := prog_4_method_9_code
def yX2_readProduct : MethodName := ⟨RX2, "readProduct", "(I)Z"⟩
abbrev cX2_isOfProducts : ByteArray := prog_4_method_10_code
def yX2_isOfProducts : MethodName := ⟨RX2, "isOfProducts", "(C)Z"⟩
abbrev cX2_readOne : ByteArray := prog_4_method_11_code
def yX2_readOne : MethodName := ⟨RX2, "readOne", "(I)Z"⟩
abbrev cX2_readNot : ByteArray := prog_4_method_12_code
def yX2_readNot : MethodName := ⟨RX2, "readNot", "(I)Z"⟩
abbrev cX2_readWithin : ByteArray := prog_4_method_13_code
def yX2_readWithin : MethodName := ⟨RX2, "readWithin", "(I)Z"⟩
abbrev cX2_readNumber : ByteArray := prog_4_method_14_code
def yX2_readNumber : MethodName := ⟨RX2, "readNumber", "()V"⟩
abbrev cX2_isDigit : ByteArray := prog_4_method_15_code
def yX2_isDigit : MethodName := ⟨RX2, "isDigit", "(C)Z"⟩
def RX3 : String := "BreadSpans$Sheet"
def TX3 : u_T := fun k => match k with
  | 0 => ("BreadSpans$Sheet", "bits", "I", false)
  | 1 => ("BreadSpans$Sheet", "n", "I", false)
  | _ => ("BreadSpans$Sheet", "numbers", "[I", true)
def tyX3 : Nat → FieldType := fun k => match k with
  | 0 => .int
  | 1 => .int
  | _ => .array .int
abbrev wsX30 : List Cond := u_ws RX3 TX3 3
theorem nmX3 : ∀ a, a < 3 → ∀ b, b < 3 → a ≠ b → (TX3 a).2.1 ≠ (TX3 b).2.1 := by decide +kernel
theorem tyX3_ok : ∀ k, k < 3 → parseFieldDescriptor (TX3 k).2.2.1 = some (tyX3 k) := by decide +kernel
abbrev cX3_init : ByteArray := prog_5_method_1_code
def yX3_init : MethodName := ⟨RX3, "<init>", "()V"⟩
abbrev cX3_isMissing : ByteArray := prog_5_method_2_code
def yX3_isMissing : MethodName := ⟨RX3, "isMissing", "()Z"⟩
abbrev cX3_renew : ByteArray := prog_5_method_3_code
def yX3_renew : MethodName := ⟨RX3, "renew", "(II)V"⟩
abbrev cX3_write : ByteArray := prog_5_method_4_code
def yX3_write : MethodName := ⟨RX3, "write", "(II)V"⟩
abbrev cX3_hasRow : ByteArray := prog_5_method_5_code
def yX3_hasRow : MethodName := ⟨RX3, "hasRow", "(II)Z"⟩
def RX4 : String := "BreadSpans$Span"
def TX4 : u_T := fun k => match k with
  | 0 => ("BreadSpans$Span", "kind", "I", false)
  | 1 => ("BreadSpans$Span", "m", "I", false)
  | 2 => ("BreadSpans$Span", "one", "I", false)
  | 3 => ("BreadSpans$Span", "other", "I", false)
  | 4 => ("BreadSpans$Span", "age", "I", false)
  | 5 => ("BreadSpans$Span", "wet", "I", false)
  | _ => ("BreadSpans$Span", "gone", "Z", false)
def tyX4 : Nat → FieldType := fun k => match k with
  | 0 => .int
  | 1 => .int
  | 2 => .int
  | 3 => .int
  | 4 => .int
  | 5 => .int
  | _ => .boolean
abbrev wsX40 : List Cond := u_ws RX4 TX4 7
theorem nmX4 : ∀ a, a < 7 → ∀ b, b < 7 → a ≠ b → (TX4 a).2.1 ≠ (TX4 b).2.1 := by decide +kernel
theorem tyX4_ok : ∀ k, k < 7 → parseFieldDescriptor (TX4 k).2.2.1 = some (tyX4 k) := by decide +kernel
abbrev cX4_init : ByteArray := prog_6_method_1_code
def yX4_init : MethodName := ⟨RX4, "<init>", "()V"⟩
abbrev cX4_takeFrom : ByteArray := prog_6_method_2_code
def yX4_takeFrom : MethodName := ⟨RX4, "takeFrom", "(LBreadSpans$Span;)V"⟩
abbrev cX4_bakeAnew : ByteArray := prog_6_method_3_code
def yX4_bakeAnew : MethodName := ⟨RX4, "bakeAnew", "()V"⟩
abbrev cX4_bearsOn : ByteArray := prog_6_method_4_code
def yX4_bearsOn : MethodName := ⟨RX4, "bearsOn", "(I)I"⟩
abbrev cX4_bearsAsLoaf : ByteArray := prog_6_method_5_code
def yX4_bearsAsLoaf : MethodName := ⟨RX4, "bearsAsLoaf", "()I"⟩
abbrev cX4_bearsAsRye : ByteArray := prog_6_method_6_code
def yX4_bearsAsRye : MethodName := ⟨RX4, "bearsAsRye", "()I"⟩
abbrev cX4_bearsAsBrioche : ByteArray := prog_6_method_7_code
def yX4_bearsAsBrioche : MethodName := ⟨RX4, "bearsAsBrioche", "()I"⟩
abbrev cX4_takes : ByteArray := prog_6_method_8_code
def yX4_takes : MethodName := ⟨RX4, "takes", "()I"⟩
abbrev cX4_ends : ByteArray := prog_6_method_9_code
def yX4_ends : MethodName := ⟨RX4, "ends", "()I"⟩
def RX5 : String := "BreadSpans$Voices"
def TX5 : u_T := fun k => match k with
  | 0 => ("BreadSpans$Voices", "trace", "[I", true)
  | 1 => ("BreadSpans$Voices", "traced", "I", false)
  | 2 => ("BreadSpans$Voices", "parted", "Z", false)
  | 3 => ("BreadSpans$Voices", "kind", "I", false)
  | 4 => ("BreadSpans$Voices", "m", "I", false)
  | _ => ("BreadSpans$Voices", "k", "I", false)
def tyX5 : Nat → FieldType := fun k => match k with
  | 0 => .array .int
  | 1 => .int
  | 2 => .boolean
  | 3 => .int
  | 4 => .int
  | _ => .int
abbrev wsX50 : List Cond := u_ws RX5 TX5 6
theorem nmX5 : ∀ a, a < 6 → ∀ b, b < 6 → a ≠ b → (TX5 a).2.1 ≠ (TX5 b).2.1 := by decide +kernel
theorem tyX5_ok : ∀ k, k < 6 → parseFieldDescriptor (TX5 k).2.2.1 = some (tyX5 k) := by decide +kernel
abbrev cX5_init : ByteArray := prog_7_method_1_code
def yX5_init : MethodName := ⟨RX5, "<init>", "()V"⟩
abbrev cX5_speak : ByteArray := prog_7_method_2_code
def yX5_speak : MethodName := ⟨RX5, "speak", "(LBreadSpans$Span;III)I"⟩
abbrev cX5_say : ByteArray := prog_7_method_3_code
def yX5_say : MethodName := ⟨RX5, "say", "(IIII)I"⟩
abbrev cX5_begin : ByteArray := prog_7_method_4_code
def yX5_begin : MethodName := ⟨RX5, "begin", "(IIII)I"⟩
abbrev cX5_part : ByteArray := prog_7_method_5_code
def yX5_part : MethodName := ⟨RX5, "part", "(II)I"⟩
def RX6 : String := "BreadSpans"
def TX6 : u_T := fun k => match k with
  | 0 => ("BreadSpans", "now", "LBreadSpans$Delta;", true)
  | 1 => ("BreadSpans", "kept", "LBreadSpans$Delta;", true)
  | 2 => ("BreadSpans", "thought", "LBreadSpans$Delta;", true)
  | 3 => ("BreadSpans", "reader", "LBreadSpans$Reader;", true)
  | 4 => ("BreadSpans", "voices", "LBreadSpans$Voices;", true)
  | 5 => ("BreadSpans", "sheets", "[LBreadSpans$Sheet;", true)
  | 6 => ("BreadSpans", "errors", "[I", true)
  | _ => ("BreadSpans", "images", "I", false)
def tyX6 : Nat → FieldType := fun k => match k with
  | 0 => .object "BreadSpans$Delta"
  | 1 => .object "BreadSpans$Delta"
  | 2 => .object "BreadSpans$Delta"
  | 3 => .object "BreadSpans$Reader"
  | 4 => .object "BreadSpans$Voices"
  | 5 => .array (.object "BreadSpans$Sheet")
  | 6 => .array .int
  | _ => .int
abbrev wsX60 : List Cond := u_ws RX6 TX6 8
theorem nmX6 : ∀ a, a < 8 → ∀ b, b < 8 → a ≠ b → (TX6 a).2.1 ≠ (TX6 b).2.1 := by decide +kernel
theorem tyX6_ok : ∀ k, k < 8 → parseFieldDescriptor (TX6 k).2.2.1 = some (tyX6 k) := by decide +kernel
abbrev cX6_init : ByteArray := prog_1_method_1_code
def yX6_init : MethodName := ⟨RX6, "<init>", "()V"⟩
abbrev cX6_span : ByteArray := prog_1_method_2_code
def yX6_span : MethodName := ⟨RX6, "span", "(III)I"⟩
abbrev cX6_spanIs : ByteArray := prog_1_method_3_code
def yX6_spanIs : MethodName := ⟨RX6, "spanIs", "(II)I"⟩
abbrev cX6_become : ByteArray := prog_1_method_4_code
def yX6_become : MethodName := ⟨RX6, "become", "(II)I"⟩
abbrev cX6_as : ByteArray := prog_1_method_5_code
def yX6_as : MethodName := ⟨RX6, "as", "(II)I"⟩
abbrev cX6_soak : ByteArray := prog_1_method_6_code
def yX6_soak : MethodName := ⟨RX6, "soak", "(II)I"⟩
abbrev cX6_bakes : ByteArray := prog_1_method_7_code
def yX6_bakes : MethodName := ⟨RX6, "bakes", "(I)I"⟩
abbrev cX6_eat : ByteArray := prog_1_method_8_code
def yX6_eat : MethodName := ⟨RX6, "eat", "(I)I"⟩
abbrev cX6_store : ByteArray := prog_1_method_9_code
def yX6_store : MethodName := ⟨RX6, "store", "(II)I"⟩
abbrev cX6_cross : ByteArray := prog_1_method_10_code
def yX6_cross : MethodName := ⟨RX6, "cross", "(II)I"⟩
abbrev cX6_feed : ByteArray := prog_1_method_11_code
def yX6_feed : MethodName := ⟨RX6, "feed", "(JI)I"⟩
abbrev cX6_text : ByteArray := prog_1_method_12_code
def yX6_text : MethodName := ⟨RX6, "text", "(I)I"⟩
abbrev cX6_untell : ByteArray := prog_1_method_13_code
def yX6_untell : MethodName := ⟨RX6, "untell", "(I)I"⟩
abbrev cX6_law : ByteArray := prog_1_method_14_code
def yX6_law : MethodName := ⟨RX6, "law", "(IIII)I"⟩
abbrev cX6_days : ByteArray := prog_1_method_15_code
def yX6_days : MethodName := ⟨RX6, "days", "(I)I"⟩
abbrev cX6_loose : ByteArray := prog_1_method_16_code
def yX6_loose : MethodName := ⟨RX6, "loose", "(I)I"⟩
abbrev cX6_seed : ByteArray := prog_1_method_17_code
def yX6_seed : MethodName := ⟨RX6, "seed", "(I)I"⟩
abbrev cX6_joined : ByteArray := prog_1_method_18_code
def yX6_joined : MethodName := ⟨RX6, "joined", "(II)I"⟩
abbrev cX6_load : ByteArray := prog_1_method_19_code
def yX6_load : MethodName := ⟨RX6, "load", "(II)I"⟩
abbrev cX6_baking : ByteArray := prog_1_method_20_code
def yX6_baking : MethodName := ⟨RX6, "baking", "(IIII)I"⟩
abbrev cX6_eating : ByteArray := prog_1_method_21_code
def yX6_eating : MethodName := ⟨RX6, "eating", "(IIII)I"⟩
abbrev cX6_lasts : ByteArray := prog_1_method_22_code
def yX6_lasts : MethodName := ⟨RX6, "lasts", "(III)I"⟩
abbrev cX6_then : ByteArray := prog_1_method_23_code
def yX6_then : MethodName := ⟨RX6, "then", "(II)I"⟩
abbrev cX6_odds : ByteArray := prog_1_method_24_code
def yX6_odds : MethodName := ⟨RX6, "odds", "(IIII)I"⟩
abbrev cX6_fits : ByteArray := prog_1_method_25_code
def yX6_fits : MethodName := ⟨RX6, "fits", "(I)I"⟩
abbrev cX6_voice : ByteArray := prog_1_method_26_code
def yX6_voice : MethodName := ⟨RX6, "voice", "(III)I"⟩
abbrev cX6_body : ByteArray := prog_1_method_27_code
def yX6_body : MethodName := ⟨RX6, "body", "(I)I"⟩
abbrev cX6_sheet : ByteArray := prog_1_method_28_code
def yX6_sheet : MethodName := ⟨RX6, "sheet", "(III)I"⟩
abbrev cX6_put : ByteArray := prog_1_method_29_code
def yX6_put : MethodName := ⟨RX6, "put", "(III)I"⟩
abbrev cX6_move : ByteArray := prog_1_method_30_code
def yX6_move : MethodName := ⟨RX6, "move", "(IIIII)I"⟩
abbrev cX6_soaks : ByteArray := prog_1_method_31_code
def yX6_soaks : MethodName := ⟨RX6, "soaks", "(I)I"⟩
abbrev cX6_judge : ByteArray := prog_1_method_32_code
def yX6_judge : MethodName := ⟨RX6, "judge", "(I)I"⟩
abbrev cX6_image : ByteArray := prog_1_method_33_code
def yX6_image : MethodName := ⟨RX6, "image", "()I"⟩
abbrev cX6_restore : ByteArray := prog_1_method_34_code
def yX6_restore : MethodName := ⟨RX6, "restore", "()I"⟩
abbrev cX6_tell : ByteArray := prog_1_method_35_code
def yX6_tell : MethodName := ⟨RX6, "tell", "(I)I"⟩
abbrev cX6_check : ByteArray := prog_1_method_36_code
def yX6_check : MethodName := ⟨RX6, "check", "()I"⟩
abbrev cX6_count : ByteArray := prog_1_method_37_code
def yX6_count : MethodName := ⟨RX6, "count", "(I)I"⟩
abbrev cX6_told : ByteArray := prog_1_method_38_code
def yX6_told : MethodName := ⟨RX6, "told", "(I)I"⟩
abbrev cX6_error : ByteArray := prog_1_method_39_code
def yX6_error : MethodName := ⟨RX6, "error", "(I)I"⟩
abbrev cX6_within : ByteArray := prog_1_method_40_code
def yX6_within : MethodName := ⟨RX6, "within", "(III)Z"⟩
abbrev cX6_held : ByteArray := prog_1_method_41_code
def yX6_held : MethodName := ⟨RX6, "held", "(III)I"⟩
abbrev cX6_isPlace : ByteArray := prog_1_method_42_code
def yX6_isPlace : MethodName := ⟨RX6, "isPlace", "(I)Z"⟩
abbrev cX6_areTwoPlaces : ByteArray := prog_1_method_43_code
def yX6_areTwoPlaces : MethodName := ⟨RX6, "areTwoPlaces", "(II)Z"⟩
abbrev cX6_isLoad : ByteArray := prog_1_method_44_code
def yX6_isLoad : MethodName := ⟨RX6, "isLoad", "(I)Z"⟩
abbrev cX6_isUse : ByteArray := prog_1_method_45_code
def yX6_isUse : MethodName := ⟨RX6, "isUse", "(I)Z"⟩
abbrev cX6_isSheet : ByteArray := prog_1_method_46_code
def yX6_isSheet : MethodName := ⟨RX6, "isSheet", "(I)Z"⟩
abbrev cX6_isKindAndNumber : ByteArray := prog_1_method_47_code
def yX6_isKindAndNumber : MethodName := ⟨RX6, "isKindAndNumber", "(I)Z"⟩
abbrev cX6_kindAbove : ByteArray := prog_1_method_48_code
def yX6_kindAbove : MethodName := ⟨RX6, "kindAbove", "(I)I"⟩
abbrev cX6_isUnder : ByteArray := prog_1_method_49_code
def yX6_isUnder : MethodName := ⟨RX6, "isUnder", "(II)Z"⟩
abbrev cX6_greatestCommon : ByteArray := prog_1_method_50_code
def yX6_greatestCommon : MethodName := ⟨RX6, "greatestCommon", "(II)I"⟩
def RX7 : String := "BreadSpansModel"
def TX7 : u_T := fun k => match k with
  | 0 => ("BreadSpansModel", "row", "[I", true)
  | 1 => ("BreadSpansModel", "kept", "[I", true)
  | 2 => ("BreadSpansModel", "before", "[I", true)
  | 3 => ("BreadSpansModel", "images", "I", false)
  | 4 => ("BreadSpansModel", "errors", "[I", true)
  | 5 => ("BreadSpansModel", "bitsOf", "[I", true)
  | 6 => ("BreadSpansModel", "sizeOf", "[I", true)
  | 7 => ("BreadSpansModel", "cells", "[I", true)
  | 8 => ("BreadSpansModel", "act", "[I", true)
  | 9 => ("BreadSpansModel", "with", "[I", true)
  | 10 => ("BreadSpansModel", "facts", "[I", true)
  | 11 => ("BreadSpansModel", "pile", "[I", true)
  | 12 => ("BreadSpansModel", "laid", "I", false)
  | 13 => ("BreadSpansModel", "here", "I", false)
  | 14 => ("BreadSpansModel", "opened", "I", false)
  | 15 => ("BreadSpansModel", "bad", "Z", false)
  | 16 => ("BreadSpansModel", "using", "I", false)
  | 17 => ("BreadSpansModel", "bearing", "[I", true)
  | 18 => ("BreadSpansModel", "trace", "[I", true)
  | 19 => ("BreadSpansModel", "traced", "I", false)
  | _ => ("BreadSpansModel", "isParted", "Z", false)
def tyX7 : Nat → FieldType := fun k => match k with
  | 0 => .array .int
  | 1 => .array .int
  | 2 => .array .int
  | 3 => .int
  | 4 => .array .int
  | 5 => .array .int
  | 6 => .array .int
  | 7 => .array .int
  | 8 => .array .int
  | 9 => .array .int
  | 10 => .array .int
  | 11 => .array .int
  | 12 => .int
  | 13 => .int
  | 14 => .int
  | 15 => .boolean
  | 16 => .int
  | 17 => .array .int
  | 18 => .array .int
  | 19 => .int
  | _ => .boolean
abbrev wsX70 : List Cond := u_ws RX7 TX7 21
theorem nmX7 : ∀ a, a < 21 → ∀ b, b < 21 → a ≠ b → (TX7 a).2.1 ≠ (TX7 b).2.1 := by decide +kernel
theorem tyX7_ok : ∀ k, k < 21 → parseFieldDescriptor (TX7 k).2.2.1 = some (tyX7 k) := by decide +kernel
abbrev cX7_init : ByteArray := prog_9_method_1_code
def yX7_init : MethodName := ⟨RX7, "<init>", "()V"⟩
abbrev cX7_error : ByteArray := prog_9_method_2_code
def yX7_error : MethodName := ⟨RX7, "error", "(I)I"⟩
abbrev cX7_in : ByteArray := prog_9_method_3_code
def yX7_in : MethodName := ⟨RX7, "in", "(III)Z"⟩
abbrev cX7_held : ByteArray := prog_9_method_4_code
def yX7_held : MethodName := ⟨RX7, "held", "(III)I"⟩
abbrev cX7_copyAll : ByteArray := prog_9_method_5_code
def yX7_copyAll : MethodName := ⟨RX7, "copyAll", "([I[I)V"⟩
abbrev cX7_thinks : ByteArray := prog_9_method_6_code
def yX7_thinks : MethodName := ⟨RX7, "thinks", "()V"⟩
abbrev cX7_putsBack : ByteArray := prog_9_method_7_code
def yX7_putsBack : MethodName := ⟨RX7, "putsBack", "()V"⟩
abbrev cX7_bits : ByteArray := prog_9_method_8_code
def yX7_bits : MethodName := ⟨RX7, "bits", "(I)I"⟩
abbrev cX7_isSpan : ByteArray := prog_9_method_9_code
def yX7_isSpan : MethodName := ⟨RX7, "isSpan", "(I)Z"⟩
abbrev cX7_isPlace : ByteArray := prog_9_method_10_code
def yX7_isPlace : MethodName := ⟨RX7, "isPlace", "(I)Z"⟩
abbrev cX7_areTwo : ByteArray := prog_9_method_11_code
def yX7_areTwo : MethodName := ⟨RX7, "areTwo", "(II)Z"⟩
abbrev cX7_isLoad : ByteArray := prog_9_method_12_code
def yX7_isLoad : MethodName := ⟨RX7, "isLoad", "(I)Z"⟩
abbrev cX7_becomes : ByteArray := prog_9_method_13_code
def yX7_becomes : MethodName := ⟨RX7, "becomes", "(II)I"⟩
abbrev cX7_of : ByteArray := prog_9_method_14_code
def yX7_of : MethodName := ⟨RX7, "of", "(II)I"⟩
abbrev cX7_lets : ByteArray := prog_9_method_15_code
def yX7_lets : MethodName := ⟨RX7, "lets", "(III)V"⟩
abbrev cX7_bearsBy : ByteArray := prog_9_method_16_code
def yX7_bearsBy : MethodName := ⟨RX7, "bearsBy", "(III)I"⟩
abbrev cX7_bearsOf : ByteArray := prog_9_method_17_code
def yX7_bearsOf : MethodName := ⟨RX7, "bearsOf", "(I)I"⟩
abbrev cX7_takesOf : ByteArray := prog_9_method_18_code
def yX7_takesOf : MethodName := ⟨RX7, "takesOf", "(I)I"⟩
abbrev cX7_isKm : ByteArray := prog_9_method_19_code
def yX7_isKm : MethodName := ⟨RX7, "isKm", "(I)Z"⟩
abbrev cX7_span : ByteArray := prog_9_method_20_code
def yX7_span : MethodName := ⟨RX7, "span", "(III)I"⟩
abbrev cX7_spanIs : ByteArray := prog_9_method_21_code
def yX7_spanIs : MethodName := ⟨RX7, "spanIs", "(II)I"⟩
abbrev cX7_become : ByteArray := prog_9_method_22_code
def yX7_become : MethodName := ⟨RX7, "become", "(II)I"⟩
abbrev cX7_as : ByteArray := prog_9_method_23_code
def yX7_as : MethodName := ⟨RX7, "as", "(II)I"⟩
abbrev cX7_soak : ByteArray := prog_9_method_24_code
def yX7_soak : MethodName := ⟨RX7, "soak", "(II)I"⟩
abbrev cX7_bakes : ByteArray := prog_9_method_25_code
def yX7_bakes : MethodName := ⟨RX7, "bakes", "(I)I"⟩
abbrev cX7_eat : ByteArray := prog_9_method_26_code
def yX7_eat : MethodName := ⟨RX7, "eat", "(I)I"⟩
abbrev cX7_store : ByteArray := prog_9_method_27_code
def yX7_store : MethodName := ⟨RX7, "store", "(II)I"⟩
abbrev cX7_crosses : ByteArray := prog_9_method_28_code
def yX7_crosses : MethodName := ⟨RX7, "crosses", "(II)I"⟩
abbrev cX7_cross : ByteArray := prog_9_method_29_code
def yX7_cross : MethodName := ⟨RX7, "cross", "(II)I"⟩
abbrev cX7_feed : ByteArray := prog_9_method_30_code
def yX7_feed : MethodName := ⟨RX7, "feed", "(JI)I"⟩
abbrev cX7_look : ByteArray := prog_9_method_31_code
def yX7_look : MethodName := ⟨RX7, "look", "()I"⟩
abbrev cX7_step : ByteArray := prog_9_method_32_code
def yX7_step : MethodName := ⟨RX7, "step", "(II)V"⟩
abbrev cX7_nameOf : ByteArray := prog_9_method_33_code
def yX7_nameOf : MethodName := ⟨RX7, "nameOf", "(I)I"⟩
abbrev cX7_number : ByteArray := prog_9_method_34_code
def yX7_number : MethodName := ⟨RX7, "number", "()V"⟩
abbrev cX7_opens : ByteArray := prog_9_method_35_code
def yX7_opens : MethodName := ⟨RX7, "opens", "(I)V"⟩
abbrev cX7_one : ByteArray := prog_9_method_36_code
def yX7_one : MethodName := ⟨RX7, "one", "()V"⟩
abbrev cX7_times : ByteArray := prog_9_method_37_code
def yX7_times : MethodName := ⟨RX7, "times", "()V"⟩
abbrev cX7_sum : ByteArray := prog_9_method_38_code
def yX7_sum : MethodName := ⟨RX7, "sum", "()V"⟩
abbrev cX7_compares : ByteArray := prog_9_method_39_code
def yX7_compares : MethodName := ⟨RX7, "compares", "()V"⟩
abbrev cX7_all : ByteArray := prog_9_method_40_code
def yX7_all : MethodName := ⟨RX7, "all", "()V"⟩
abbrev cX7_any : ByteArray := prog_9_method_41_code
def yX7_any : MethodName := ⟨RX7, "any", "()V"⟩
abbrev cX7_text : ByteArray := prog_9_method_42_code
def yX7_text : MethodName := ⟨RX7, "text", "(I)I"⟩
abbrev cX7_untell : ByteArray := prog_9_method_43_code
def yX7_untell : MethodName := ⟨RX7, "untell", "(I)I"⟩
abbrev cX7_twoOf : ByteArray := prog_9_method_44_code
def yX7_twoOf : MethodName := ⟨RX7, "twoOf", "(III)I"⟩
abbrev cX7_works : ByteArray := prog_9_method_45_code
def yX7_works : MethodName := ⟨RX7, "works", "(I)I"⟩
abbrev cX7_gives : ByteArray := prog_9_method_46_code
def yX7_gives : MethodName := ⟨RX7, "gives", "(IIII)I"⟩
abbrev cX7_law : ByteArray := prog_9_method_47_code
def yX7_law : MethodName := ⟨RX7, "law", "(IIII)I"⟩
abbrev cX7_goes : ByteArray := prog_9_method_48_code
def yX7_goes : MethodName := ⟨RX7, "goes", "()V"⟩
abbrev cX7_days : ByteArray := prog_9_method_49_code
def yX7_days : MethodName := ⟨RX7, "days", "(I)I"⟩
abbrev cX7_draw : ByteArray := prog_9_method_50_code
def yX7_draw : MethodName := ⟨RX7, "draw", "()I"⟩
abbrev cX7_drawn : ByteArray := prog_9_method_51_code
def yX7_drawn : MethodName := ⟨RX7, "drawn", "()I"⟩
abbrev cX7_loose : ByteArray := prog_9_method_52_code
def yX7_loose : MethodName := ⟨RX7, "loose", "(I)I"⟩
abbrev cX7_seed : ByteArray := prog_9_method_53_code
def yX7_seed : MethodName := ⟨RX7, "seed", "(I)I"⟩
abbrev cX7_findBearing : ByteArray := prog_9_method_54_code
def yX7_findBearing : MethodName := ⟨RX7, "findBearing", "()V"⟩
abbrev cX7_joinedBy : ByteArray := prog_9_method_55_code
def yX7_joinedBy : MethodName := ⟨RX7, "joinedBy", "(II)I"⟩
abbrev cX7_areJoinedBy : ByteArray := prog_9_method_56_code
def yX7_areJoinedBy : MethodName := ⟨RX7, "areJoinedBy", "(III)Z"⟩
abbrev cX7_areJoined : ByteArray := prog_9_method_57_code
def yX7_areJoined : MethodName := ⟨RX7, "areJoined", "(III)Z"⟩
abbrev cX7_joined : ByteArray := prog_9_method_58_code
def yX7_joined : MethodName := ⟨RX7, "joined", "(II)I"⟩
abbrev cX7_load : ByteArray := prog_9_method_59_code
def yX7_load : MethodName := ⟨RX7, "load", "(II)I"⟩
abbrev cX7_flourFor : ByteArray := prog_9_method_60_code
def yX7_flourFor : MethodName := ⟨RX7, "flourFor", "(I)I"⟩
abbrev cX7_baking : ByteArray := prog_9_method_61_code
def yX7_baking : MethodName := ⟨RX7, "baking", "(IIII)I"⟩
abbrev cX7_eating : ByteArray := prog_9_method_62_code
def yX7_eating : MethodName := ⟨RX7, "eating", "(IIII)I"⟩
abbrev cX7_lasts : ByteArray := prog_9_method_63_code
def yX7_lasts : MethodName := ⟨RX7, "lasts", "(III)I"⟩
abbrev cX7_then : ByteArray := prog_9_method_64_code
def yX7_then : MethodName := ⟨RX7, "then", "(II)I"⟩
abbrev cX7_odds : ByteArray := prog_9_method_65_code
def yX7_odds : MethodName := ⟨RX7, "odds", "(IIII)I"⟩
abbrev cX7_rightOf : ByteArray := prog_9_method_66_code
def yX7_rightOf : MethodName := ⟨RX7, "rightOf", "(I)I"⟩
abbrev cX7_fits : ByteArray := prog_9_method_67_code
def yX7_fits : MethodName := ⟨RX7, "fits", "(I)I"⟩
abbrev cX7_begins : ByteArray := prog_9_method_68_code
def yX7_begins : MethodName := ⟨RX7, "begins", "(I)V"⟩
abbrev cX7_plainCrusts : ByteArray := prog_9_method_69_code
def yX7_plainCrusts : MethodName := ⟨RX7, "plainCrusts", "(II)I"⟩
abbrev cX7_ryeCrusts : ByteArray := prog_9_method_70_code
def yX7_ryeCrusts : MethodName := ⟨RX7, "ryeCrusts", "(II)I"⟩
abbrev cX7_crusts : ByteArray := prog_9_method_71_code
def yX7_crusts : MethodName := ⟨RX7, "crusts", "(II)I"⟩
abbrev cX7_plainSteams : ByteArray := prog_9_method_72_code
def yX7_plainSteams : MethodName := ⟨RX7, "plainSteams", "(II)I"⟩
abbrev cX7_briocheSteams : ByteArray := prog_9_method_73_code
def yX7_briocheSteams : MethodName := ⟨RX7, "briocheSteams", "(II)I"⟩
abbrev cX7_steams : ByteArray := prog_9_method_74_code
def yX7_steams : MethodName := ⟨RX7, "steams", "(II)I"⟩
abbrev cX7_plainCrumbles : ByteArray := prog_9_method_75_code
def yX7_plainCrumbles : MethodName := ⟨RX7, "plainCrumbles", "(II)I"⟩
abbrev cX7_crumbles : ByteArray := prog_9_method_76_code
def yX7_crumbles : MethodName := ⟨RX7, "crumbles", "(II)I"⟩
abbrev cX7_plainParts : ByteArray := prog_9_method_77_code
def yX7_plainParts : MethodName := ⟨RX7, "plainParts", "(II)I"⟩
abbrev cX7_partsBy : ByteArray := prog_9_method_78_code
def yX7_partsBy : MethodName := ⟨RX7, "partsBy", "(II)I"⟩
abbrev cX7_voice : ByteArray := prog_9_method_79_code
def yX7_voice : MethodName := ⟨RX7, "voice", "(III)I"⟩
abbrev cX7_body : ByteArray := prog_9_method_80_code
def yX7_body : MethodName := ⟨RX7, "body", "(I)I"⟩
abbrev cX7_isSheet : ByteArray := prog_9_method_81_code
def yX7_isSheet : MethodName := ⟨RX7, "isSheet", "(I)Z"⟩
abbrev cX7_sheet : ByteArray := prog_9_method_82_code
def yX7_sheet : MethodName := ⟨RX7, "sheet", "(III)I"⟩
abbrev cX7_notThere : ByteArray := prog_9_method_83_code
def yX7_notThere : MethodName := ⟨RX7, "notThere", "(I)I"⟩
abbrev cX7_put : ByteArray := prog_9_method_84_code
def yX7_put : MethodName := ⟨RX7, "put", "(III)I"⟩
abbrev cX7_notMoved : ByteArray := prog_9_method_85_code
def yX7_notMoved : MethodName := ⟨RX7, "notMoved", "(IIIII)I"⟩
abbrev cX7_move : ByteArray := prog_9_method_86_code
def yX7_move : MethodName := ⟨RX7, "move", "(IIIII)I"⟩
abbrev cX7_soaks : ByteArray := prog_9_method_87_code
def yX7_soaks : MethodName := ⟨RX7, "soaks", "(I)I"⟩
abbrev cX7_judge : ByteArray := prog_9_method_88_code
def yX7_judge : MethodName := ⟨RX7, "judge", "(I)I"⟩
abbrev cX7_image : ByteArray := prog_9_method_89_code
def yX7_image : MethodName := ⟨RX7, "image", "()I"⟩
abbrev cX7_restore : ByteArray := prog_9_method_90_code
def yX7_restore : MethodName := ⟨RX7, "restore", "()I"⟩
abbrev cX7_tell : ByteArray := prog_9_method_91_code
def yX7_tell : MethodName := ⟨RX7, "tell", "(I)I"⟩
abbrev cX7_check : ByteArray := prog_9_method_92_code
def yX7_check : MethodName := ⟨RX7, "check", "()I"⟩
abbrev cX7_count : ByteArray := prog_9_method_93_code
def yX7_count : MethodName := ⟨RX7, "count", "(I)I"⟩
abbrev cX7_told : ByteArray := prog_9_method_94_code
def yX7_told : MethodName := ⟨RX7, "told", "(I)I"⟩
def RJ11 : String := "java/lang/Character"
def TJ11 : u_T := fun k => match k with
  | _ => ("", "", "", false)
def tyJ11 : Nat → FieldType := fun k => match k with
  | _ => .int
abbrev wsJ110 : List Cond := u_ws RJ11 TJ11 0
theorem nmJ11 : ∀ a, a < 0 → ∀ b, b < 0 → a ≠ b → (TJ11 a).2.1 ≠ (TJ11 b).2.1 := by decide +kernel
theorem tyJ11_ok : ∀ k, k < 0 → parseFieldDescriptor (TJ11 k).2.2.1 = some (tyJ11 k) := by decide +kernel
abbrev cJ11_isValidCodePoint_9a6ad : ByteArray := prog_10_method_11_code
def yJ11_isValidCodePoint_9a6ad : MethodName := ⟨RJ11, "isValidCodePoint", "(I)Z"⟩
abbrev cJ11_highSurrogate_5068e : ByteArray := prog_10_method_28_code
def yJ11_highSurrogate_5068e : MethodName := ⟨RJ11, "highSurrogate", "(I)C"⟩
abbrev cJ11_lowSurrogate_5068e : ByteArray := prog_10_method_29_code
def yJ11_lowSurrogate_5068e : MethodName := ⟨RJ11, "lowSurrogate", "(I)C"⟩
def RJ6 : String := "java/lang/Integer"
def TJ6 : u_T := fun k => match k with
  | _ => ("", "", "", false)
def tyJ6 : Nat → FieldType := fun k => match k with
  | _ => .int
abbrev wsJ60 : List Cond := u_ws RJ6 TJ6 0
theorem nmJ6 : ∀ a, a < 0 → ∀ b, b < 0 → a ≠ b → (TJ6 a).2.1 ≠ (TJ6 b).2.1 := by decide +kernel
theorem tyJ6_ok : ∀ k, k < 0 → parseFieldDescriptor (TJ6 k).2.2.1 = some (tyJ6 k) := by decide +kernel
abbrev cJ6_bitCount_0f7a4 : ByteArray := prog_11_method_49_code
def yJ6_bitCount_0f7a4 : MethodName := ⟨RJ6, "bitCount", "(I)I"⟩
def RJ9 : String := "java/lang/Math"
def TJ9 : u_T := fun k => match k with
  | _ => ("", "", "", false)
def tyJ9 : Nat → FieldType := fun k => match k with
  | _ => .int
abbrev wsJ90 : List Cond := u_ws RJ9 TJ9 0
theorem nmJ9 : ∀ a, a < 0 → ∀ b, b < 0 → a ≠ b → (TJ9 a).2.1 ≠ (TJ9 b).2.1 := by decide +kernel
theorem tyJ9_ok : ∀ k, k < 0 → parseFieldDescriptor (TJ9 k).2.2.1 = some (tyJ9 k) := by decide +kernel
abbrev cJ9_max_7cf53 : ByteArray := prog_12_method_65_code
def yJ9_max_7cf53 : MethodName := ⟨RJ9, "max", "(II)I"⟩
abbrev cJ9_min_7cf53 : ByteArray := prog_12_method_69_code
def yJ9_min_7cf53 : MethodName := ⟨RJ9, "min", "(II)I"⟩
def RJ0 : String := "java/lang/String"
def TJ0 : u_T := fun k => match k with
  | _ => ("", "", "", false)
def tyJ0 : Nat → FieldType := fun k => match k with
  | _ => .int
abbrev wsJ00 : List Cond := u_ws RJ0 TJ0 0
theorem nmJ0 : ∀ a, a < 0 → ∀ b, b < 0 → a ≠ b → (TJ0 a).2.1 ≠ (TJ0 b).2.1 := by decide +kernel
theorem tyJ0_ok : ∀ k, k < 0 → parseFieldDescriptor (TJ0 k).2.2.1 = some (tyJ0 k) := by decide +kernel
abbrev cJ0_length_8abf5 : ByteArray := prog_13_method_54_code
def yJ0_length_8abf5 : MethodName := ⟨RJ0, "length", "()I"⟩
abbrev cJ0_indexOf_0f7a4 : ByteArray := prog_13_method_79_code
def yJ0_indexOf_0f7a4 : MethodName := ⟨RJ0, "indexOf", "(I)I"⟩
abbrev cJ0_indexOf_7cf53 : ByteArray := prog_13_method_80_code
def yJ0_indexOf_7cf53 : MethodName := ⟨RJ0, "indexOf", "(II)I"⟩
abbrev cJ0_coder_7d493 : ByteArray := prog_13_method_152_code
def yJ0_coder_7d493 : MethodName := ⟨RJ0, "coder", "()B"⟩
abbrev cJ0_isLatin1_aae02 : ByteArray := prog_13_method_154_code
def yJ0_isLatin1_aae02 : MethodName := ⟨RJ0, "isLatin1", "()Z"⟩
abbrev cJ0_checkBoundsBeginEnd_23922 : ByteArray := prog_13_method_158_code
def yJ0_checkBoundsBeginEnd_23922 : MethodName := ⟨RJ0, "checkBoundsBeginEnd", "(III)V"⟩
def RJ1 : String := "java/lang/StringLatin1"
def TJ1 : u_T := fun k => match k with
  | _ => ("", "", "", false)
def tyJ1 : Nat → FieldType := fun k => match k with
  | _ => .int
abbrev wsJ10 : List Cond := u_ws RJ1 TJ1 0
theorem nmJ1 : ∀ a, a < 0 → ∀ b, b < 0 → a ≠ b → (TJ1 a).2.1 ≠ (TJ1 b).2.1 := by decide +kernel
theorem tyJ1_ok : ∀ k, k < 0 → parseFieldDescriptor (TJ1 k).2.2.1 = some (tyJ1 k) := by decide +kernel
abbrev cJ1_canEncode_9a6ad : ByteArray := prog_14_method_4_code
def yJ1_canEncode_9a6ad : MethodName := ⟨RJ1, "canEncode", "(I)Z"⟩
abbrev cJ1_indexOf_4cfef : ByteArray := prog_14_method_22_code
def yJ1_indexOf_4cfef : MethodName := ⟨RJ1, "indexOf", "([BIII)I"⟩
abbrev cJ1_indexOfChar_4cfef : ByteArray := prog_14_method_23_code
def yJ1_indexOfChar_4cfef : MethodName := ⟨RJ1, "indexOfChar", "([BIII)I"⟩
def RJ2 : String := "java/lang/StringUTF16"
def TJ2 : u_T := fun k => match k with
  | _ => ("", "", "", false)
def tyJ2 : Nat → FieldType := fun k => match k with
  | _ => .int
abbrev wsJ20 : List Cond := u_ws RJ2 TJ2 0
theorem nmJ2 : ∀ a, a < 0 → ∀ b, b < 0 → a ≠ b → (TJ2 a).2.1 ≠ (TJ2 b).2.1 := by decide +kernel
theorem tyJ2_ok : ∀ k, k < 0 → parseFieldDescriptor (TJ2 k).2.2.1 = some (tyJ2 k) := by decide +kernel
abbrev cJ2_getChar_3b067 : ByteArray := prog_15_method_5_code
def yJ2_getChar_3b067 : MethodName := ⟨RJ2, "getChar", "([BI)C"⟩
abbrev cJ2_length_9d52b : ByteArray := prog_15_method_6_code
def yJ2_length_9d52b : MethodName := ⟨RJ2, "length", "([B)I"⟩
abbrev cJ2_indexOf_4cfef : ByteArray := prog_15_method_40_code
def yJ2_indexOf_4cfef : MethodName := ⟨RJ2, "indexOf", "([BIII)I"⟩
abbrev cJ2_indexOfChar_4cfef : ByteArray := prog_15_method_47_code
def yJ2_indexOfChar_4cfef : MethodName := ⟨RJ2, "indexOfChar", "([BIII)I"⟩
abbrev cJ2_indexOfCharUnsafe_4cfef : ByteArray := prog_15_method_48_code
def yJ2_indexOfCharUnsafe_4cfef : MethodName := ⟨RJ2, "indexOfCharUnsafe", "([BIII)I"⟩
abbrev cJ2_indexOfSupplementary_4cfef : ByteArray := prog_15_method_49_code
def yJ2_indexOfSupplementary_4cfef : MethodName := ⟨RJ2, "indexOfSupplementary", "([BIII)I"⟩
abbrev cJ2_checkBoundsBeginEnd_d044e : ByteArray := prog_15_method_93_code
def yJ2_checkBoundsBeginEnd_d044e : MethodName := ⟨RJ2, "checkBoundsBeginEnd", "(II[B)V"⟩
def RJ10 : String := "java/lang/System"
def TJ10 : u_T := fun k => match k with
  | _ => ("", "", "", false)
def tyJ10 : Nat → FieldType := fun k => match k with
  | _ => .int
abbrev wsJ100 : List Cond := u_ws RJ10 TJ10 0
theorem nmJ10 : ∀ a, a < 0 → ∀ b, b < 0 → a ≠ b → (TJ10 a).2.1 ≠ (TJ10 b).2.1 := by decide +kernel
theorem tyJ10_ok : ∀ k, k < 0 → parseFieldDescriptor (TJ10 k).2.2.1 = some (tyJ10 k) := by decide +kernel
def RJ3 : String := "jdk/internal/util/Preconditions"
def TJ3 : u_T := fun k => match k with
  | _ => ("", "", "", false)
def tyJ3 : Nat → FieldType := fun k => match k with
  | _ => .int
abbrev wsJ30 : List Cond := u_ws RJ3 TJ3 0
theorem nmJ3 : ∀ a, a < 0 → ∀ b, b < 0 → a ≠ b → (TJ3 a).2.1 ≠ (TJ3 b).2.1 := by decide +kernel
theorem tyJ3_ok : ∀ k, k < 0 → parseFieldDescriptor (TJ3 k).2.2.1 = some (tyJ3 k) := by decide +kernel
abbrev cJ3_checkFromToIndex_8c36e : ByteArray := prog_17_method_12_code
def yJ3_checkFromToIndex_8c36e : MethodName := ⟨RJ3, "checkFromToIndex", "(IIILjava/util/function/BiFunction;)I"⟩
def RL : String := "BreadSpansLaw"
abbrev cL_law : ByteArray := code
def yL_law : MethodName := ⟨RL, "law", "([I)Z"⟩
abbrev vwCl : List vw_C := [(RX0, TX0, 13), (RX1, TX1, 4), (RX2, TX2, 6), (RX3, TX3, 3), (RX4, TX4, 7), (RX5, TX5, 6), (RX6, TX6, 8), (RX7, TX7, 21)]
end
section
def WS : List Cond := lw_tbl.filter goodWord
theorem WS_in {w : Cond} (h : w ∈ lw_tbl) (h2 : goodWord w = true) : w ∈ WS := List.mem_filter.mpr ⟨h, h2⟩
theorem WS_tbl {w : Cond} (h : w ∈ WS) : w ∈ lw_tbl := (List.mem_filter.mp h).1
theorem WS_good : GoodIn WS WS := fun w h => ⟨h, good_of_word (List.mem_filter.mp h).2⟩
theorem tb_p {w : Cond} (h : w ∈ k2_sels lw_privs) : w ∈ lw_tbl := List.mem_append_left _ h
theorem tb_0 {w : Cond} (h : w ∈ tables_1) : w ∈ lw_tbl := List.mem_append_right _ h
theorem tb_1 {w : Cond} (h : w ∈ tables_1_1) : w ∈ lw_tbl := tb_0 (List.mem_append_left _ h)
theorem tb_2 {w : Cond} (h : w ∈ tables_1_2) : w ∈ lw_tbl := tb_0 (List.mem_append_right _ (List.mem_append_left _ h))
theorem tb_3 {w : Cond} (h : w ∈ tables_1_3) : w ∈ lw_tbl := tb_0 (List.mem_append_right _ (List.mem_append_right _ (List.mem_append_left _ h)))
theorem tb_4 {w : Cond} (h : w ∈ tables_1_4) : w ∈ lw_tbl := tb_0 (List.mem_append_right _ (List.mem_append_right _ (List.mem_append_right _ (List.mem_append_left _ h))))
theorem tb_5 {w : Cond} (h : w ∈ tables_1_5) : w ∈ lw_tbl := tb_0 (List.mem_append_right _ (List.mem_append_right _ (List.mem_append_right _ (List.mem_append_right _ (List.mem_append_left _ h)))))
theorem tb_6 {w : Cond} (h : w ∈ tables_1_6) : w ∈ lw_tbl := tb_0 (List.mem_append_right _ (List.mem_append_right _ (List.mem_append_right _ (List.mem_append_right _ (List.mem_append_right _ h)))))
theorem inW0 : ∀ w ∈ wsX00, w ∈ WS := fun w h => WS_in ((by decide +kernel : ∀ w ∈ wsX00, w ∈ lw_tbl) w h) ((by decide +kernel : ∀ w ∈ wsX00, goodWord w = true) w h)
theorem inW1 : ∀ w ∈ wsX10, w ∈ WS := fun w h => WS_in ((by decide +kernel : ∀ w ∈ wsX10, w ∈ lw_tbl) w h) ((by decide +kernel : ∀ w ∈ wsX10, goodWord w = true) w h)
theorem inW2 : ∀ w ∈ wsX20, w ∈ WS := fun w h => WS_in ((by decide +kernel : ∀ w ∈ wsX20, w ∈ lw_tbl) w h) ((by decide +kernel : ∀ w ∈ wsX20, goodWord w = true) w h)
theorem inW3 : ∀ w ∈ wsX30, w ∈ WS := fun w h => WS_in ((by decide +kernel : ∀ w ∈ wsX30, w ∈ lw_tbl) w h) ((by decide +kernel : ∀ w ∈ wsX30, goodWord w = true) w h)
theorem inW4 : ∀ w ∈ wsX40, w ∈ WS := fun w h => WS_in ((by decide +kernel : ∀ w ∈ wsX40, w ∈ lw_tbl) w h) ((by decide +kernel : ∀ w ∈ wsX40, goodWord w = true) w h)
theorem inW5 : ∀ w ∈ wsX50, w ∈ WS := fun w h => WS_in ((by decide +kernel : ∀ w ∈ wsX50, w ∈ lw_tbl) w h) ((by decide +kernel : ∀ w ∈ wsX50, goodWord w = true) w h)
theorem inW6 : ∀ w ∈ wsX60, w ∈ WS := fun w h => WS_in ((by decide +kernel : ∀ w ∈ wsX60, w ∈ lw_tbl) w h) ((by decide +kernel : ∀ w ∈ wsX60, goodWord w = true) w h)
theorem inW7 : ∀ w ∈ wsX70, w ∈ WS := fun w h => WS_in ((by decide +kernel : ∀ w ∈ wsX70, w ∈ lw_tbl) w h) ((by decide +kernel : ∀ w ∈ wsX70, goodWord w = true) w h)
theorem in_L : Cond.initialized RL ∈ WS := WS_in (tb_1 (List.mem_of_getElem? (i := 0) (by decide +kernel))) rfl
theorem in_X6 : Cond.initialized RX6 ∈ WS := WS_in (tb_1 (List.mem_of_getElem? (i := 1) (by decide +kernel))) rfl
theorem in_X0 : Cond.initialized RX0 ∈ WS := WS_in (tb_1 (List.mem_of_getElem? (i := 2) (by decide +kernel))) rfl
theorem in_X4 : Cond.initialized RX4 ∈ WS := WS_in (tb_1 (List.mem_of_getElem? (i := 3) (by decide +kernel))) rfl
theorem in_X1 : Cond.initialized RX1 ∈ WS := WS_in (tb_1 (List.mem_of_getElem? (i := 4) (by decide +kernel))) rfl
theorem in_X2 : Cond.initialized RX2 ∈ WS := WS_in (tb_1 (List.mem_of_getElem? (i := 5) (by decide +kernel))) rfl
theorem in_X5 : Cond.initialized RX5 ∈ WS := WS_in (tb_1 (List.mem_of_getElem? (i := 6) (by decide +kernel))) rfl
theorem in_X3 : Cond.initialized RX3 ∈ WS := WS_in (tb_1 (List.mem_of_getElem? (i := 7) (by decide +kernel))) rfl
theorem in_X7 : Cond.initialized RX7 ∈ WS := WS_in (tb_1 (List.mem_of_getElem? (i := 8) (by decide +kernel))) rfl
theorem in_J9 : Cond.initialized RJ9 ∈ WS := WS_in (tb_1 (List.mem_of_getElem? (i := 9) (by decide +kernel))) rfl
theorem in_J10 : Cond.initialized RJ10 ∈ WS := WS_in (tb_1 (List.mem_of_getElem? (i := 10) (by decide +kernel))) rfl
theorem in_J0 : Cond.initialized RJ0 ∈ WS := WS_in (tb_1 (List.mem_of_getElem? (i := 11) (by decide +kernel))) rfl
theorem in_J1 : Cond.initialized RJ1 ∈ WS := WS_in (tb_1 (List.mem_of_getElem? (i := 12) (by decide +kernel))) rfl
theorem in_J2 : Cond.initialized RJ2 ∈ WS := WS_in (tb_1 (List.mem_of_getElem? (i := 13) (by decide +kernel))) rfl
theorem in_J3 : Cond.initialized RJ3 ∈ WS := WS_in (tb_1 (List.mem_of_getElem? (i := 14) (by decide +kernel))) rfl
theorem in_J11 : Cond.initialized RJ11 ∈ WS := WS_in (tb_1 (List.mem_of_getElem? (i := 15) (by decide +kernel))) rfl
theorem in_J6 : Cond.initialized RJ6 ∈ WS := WS_in (tb_1 (List.mem_of_getElem? (i := 16) (by decide +kernel))) rfl
theorem ck_L_7 : Cond.classLink RL 7 RX6 ∈ WS := WS_in (tb_1 (List.mem_of_getElem? (i := 17) (by decide +kernel))) rfl
theorem it_X6 : Cond.instantiable RX6 8 ∈ WS := WS_in (tb_1 (List.mem_of_getElem? (i := 18) (by decide +kernel))) rfl
theorem mk_L_9 : Cond.methodLink RL 9 yX6_init ∈ WS := WS_in (tb_1 (List.mem_of_getElem? (i := 19) (by decide +kernel))) rfl
theorem im_yX6_init : Cond.instanceMethod yX6_init ∈ WS := WS_in (tb_1 (List.mem_of_getElem? (i := 20) (by decide +kernel))) rfl
theorem co_yX6_init : Cond.code yX6_init cX6_init 2 none ∈ WS := WS_in (tb_1 (List.mem_of_getElem? (i := 21) (by decide +kernel))) rfl
theorem mk_X6_1 : Cond.methodLink RX6 1 objectInit ∈ WS := WS_in (tb_1 (List.mem_of_getElem? (i := 22) (by decide +kernel))) rfl
theorem im_objectInit : Cond.instanceMethod objectInit ∈ WS := WS_in (tb_1 (List.mem_of_getElem? (i := 23) (by decide +kernel))) rfl
theorem ck_X6_7 : Cond.classLink RX6 7 RX0 ∈ WS := WS_in (tb_1 (List.mem_of_getElem? (i := 25) (by decide +kernel))) rfl
theorem it_X0 : Cond.instantiable RX0 13 ∈ WS := WS_in (tb_1 (List.mem_of_getElem? (i := 26) (by decide +kernel))) rfl
theorem mk_X6_9 : Cond.methodLink RX6 9 yX0_init ∈ WS := WS_in (tb_1 (List.mem_of_getElem? (i := 27) (by decide +kernel))) rfl
theorem im_yX0_init : Cond.instanceMethod yX0_init ∈ WS := WS_in (tb_1 (List.mem_of_getElem? (i := 28) (by decide +kernel))) rfl
theorem co_yX0_init : Cond.code yX0_init cX0_init 2 none ∈ WS := WS_in (tb_1 (List.mem_of_getElem? (i := 29) (by decide +kernel))) rfl
theorem mk_X0_3 : Cond.methodLink RX0 3 objectInit ∈ WS := WS_in (tb_1 (List.mem_of_getElem? (i := 30) (by decide +kernel))) rfl
theorem ck_X0_9 : Cond.classLink RX0 9 RX4 ∈ WS := WS_in (tb_1 (List.mem_of_getElem? (i := 31) (by decide +kernel))) rfl
theorem ck_X0_39 : Cond.classLink RX0 39 RX1 ∈ WS := WS_in (tb_1 (List.mem_of_getElem? (i := 33) (by decide +kernel))) rfl
theorem it_X4 : Cond.instantiable RX4 7 ∈ WS := WS_in (tb_1 (List.mem_of_getElem? (i := 35) (by decide +kernel))) rfl
theorem im_yX4_init : Cond.instanceMethod yX4_init ∈ WS := WS_in (tb_1 (List.mem_of_getElem? (i := 37) (by decide +kernel))) rfl
theorem co_yX4_init : Cond.code yX4_init cX4_init 1 none ∈ WS := WS_in (tb_1 (List.mem_of_getElem? (i := 38) (by decide +kernel))) rfl
theorem mk_X4_3 : Cond.methodLink RX4 3 objectInit ∈ WS := WS_in (tb_1 (List.mem_of_getElem? (i := 39) (by decide +kernel))) rfl
theorem fk_X4_9 : Cond.fieldLink RX4 9 "BreadSpans$Span" "kind" "I" ∈ WS := WS_in (tb_1 (List.mem_of_getElem? (i := 40) (by decide +kernel))) rfl
theorem fk_X5_32 : Cond.fieldLink RX5 32 "BreadSpans$Span" "kind" "I" ∈ WS := WS_in (tb_1 (List.mem_of_getElem? (i := 41) (by decide +kernel))) rfl
theorem fk_X6_81 : Cond.fieldLink RX6 81 "BreadSpans$Span" "kind" "I" ∈ WS := WS_in (tb_1 (List.mem_of_getElem? (i := 42) (by decide +kernel))) rfl
theorem fk_X0_81 : Cond.fieldLink RX0 81 "BreadSpans$Span" "kind" "I" ∈ WS := WS_in (tb_1 (List.mem_of_getElem? (i := 43) (by decide +kernel))) rfl
theorem fk_X4_15 : Cond.fieldLink RX4 15 "BreadSpans$Span" "m" "I" ∈ WS := WS_in (tb_1 (List.mem_of_getElem? (i := 44) (by decide +kernel))) rfl
theorem fk_X5_35 : Cond.fieldLink RX5 35 "BreadSpans$Span" "m" "I" ∈ WS := WS_in (tb_1 (List.mem_of_getElem? (i := 45) (by decide +kernel))) rfl
theorem fk_X6_86 : Cond.fieldLink RX6 86 "BreadSpans$Span" "m" "I" ∈ WS := WS_in (tb_1 (List.mem_of_getElem? (i := 46) (by decide +kernel))) rfl
theorem fk_X0_84 : Cond.fieldLink RX0 84 "BreadSpans$Span" "m" "I" ∈ WS := WS_in (tb_1 (List.mem_of_getElem? (i := 47) (by decide +kernel))) rfl
theorem fk_X4_18 : Cond.fieldLink RX4 18 "BreadSpans$Span" "one" "I" ∈ WS := WS_in (tb_1 (List.mem_of_getElem? (i := 48) (by decide +kernel))) rfl
theorem fk_X6_89 : Cond.fieldLink RX6 89 "BreadSpans$Span" "one" "I" ∈ WS := WS_in (tb_1 (List.mem_of_getElem? (i := 49) (by decide +kernel))) rfl
theorem fk_X0_87 : Cond.fieldLink RX0 87 "BreadSpans$Span" "one" "I" ∈ WS := WS_in (tb_1 (List.mem_of_getElem? (i := 50) (by decide +kernel))) rfl
theorem fk_X4_21 : Cond.fieldLink RX4 21 "BreadSpans$Span" "other" "I" ∈ WS := WS_in (tb_1 (List.mem_of_getElem? (i := 51) (by decide +kernel))) rfl
theorem fk_X6_92 : Cond.fieldLink RX6 92 "BreadSpans$Span" "other" "I" ∈ WS := WS_in (tb_1 (List.mem_of_getElem? (i := 52) (by decide +kernel))) rfl
theorem fk_X0_90 : Cond.fieldLink RX0 90 "BreadSpans$Span" "other" "I" ∈ WS := WS_in (tb_1 (List.mem_of_getElem? (i := 53) (by decide +kernel))) rfl
theorem fk_X4_24 : Cond.fieldLink RX4 24 "BreadSpans$Span" "age" "I" ∈ WS := WS_in (tb_1 (List.mem_of_getElem? (i := 54) (by decide +kernel))) rfl
theorem fk_X6_95 : Cond.fieldLink RX6 95 "BreadSpans$Span" "age" "I" ∈ WS := WS_in (tb_1 (List.mem_of_getElem? (i := 55) (by decide +kernel))) rfl
theorem fk_X0_127 : Cond.fieldLink RX0 127 "BreadSpans$Span" "age" "I" ∈ WS := WS_in (tb_1 (List.mem_of_getElem? (i := 56) (by decide +kernel))) rfl
theorem fk_X4_27 : Cond.fieldLink RX4 27 "BreadSpans$Span" "wet" "I" ∈ WS := WS_in (tb_1 (List.mem_of_getElem? (i := 57) (by decide +kernel))) rfl
theorem fk_X6_98 : Cond.fieldLink RX6 98 "BreadSpans$Span" "wet" "I" ∈ WS := WS_in (tb_1 (List.mem_of_getElem? (i := 58) (by decide +kernel))) rfl
theorem fk_X0_124 : Cond.fieldLink RX0 124 "BreadSpans$Span" "wet" "I" ∈ WS := WS_in (tb_1 (List.mem_of_getElem? (i := 59) (by decide +kernel))) rfl
theorem fk_X4_30 : Cond.fieldLink RX4 30 "BreadSpans$Span" "gone" "Z" ∈ WS := WS_in (tb_1 (List.mem_of_getElem? (i := 60) (by decide +kernel))) rfl
theorem fk_X6_101 : Cond.fieldLink RX6 101 "BreadSpans$Span" "gone" "Z" ∈ WS := WS_in (tb_1 (List.mem_of_getElem? (i := 61) (by decide +kernel))) rfl
theorem fk_X0_110 : Cond.fieldLink RX0 110 "BreadSpans$Span" "gone" "Z" ∈ WS := WS_in (tb_1 (List.mem_of_getElem? (i := 62) (by decide +kernel))) rfl
theorem ac_char : Cond.arrayClass .char ∈ WS := WS_in (tb_1 (List.mem_of_getElem? (i := 78) (by decide +kernel))) rfl
theorem ac_int : Cond.arrayClass .int ∈ WS := WS_in (tb_1 (List.mem_of_getElem? (i := 79) (by decide +kernel))) rfl
theorem it_X1 : Cond.instantiable RX1 4 ∈ WS := WS_in (tb_1 (List.mem_of_getElem? (i := 80) (by decide +kernel))) rfl
theorem im_yX1_init : Cond.instanceMethod yX1_init ∈ WS := WS_in (tb_1 (List.mem_of_getElem? (i := 82) (by decide +kernel))) rfl
theorem co_yX1_init : Cond.code yX1_init cX1_init 1 none ∈ WS := WS_in (tb_1 (List.mem_of_getElem? (i := 83) (by decide +kernel))) rfl
theorem mk_X1_3 : Cond.methodLink RX1 3 objectInit ∈ WS := WS_in (tb_1 (List.mem_of_getElem? (i := 84) (by decide +kernel))) rfl
theorem fk_X1_9 : Cond.fieldLink RX1 9 "BreadSpans$Law" "written" "Z" ∈ WS := WS_in (tb_1 (List.mem_of_getElem? (i := 85) (by decide +kernel))) rfl
theorem fk_X0_95 : Cond.fieldLink RX0 95 "BreadSpans$Law" "written" "Z" ∈ WS := WS_in (tb_1 (List.mem_of_getElem? (i := 86) (by decide +kernel))) rfl
theorem fk_X6_171 : Cond.fieldLink RX6 171 "BreadSpans$Law" "written" "Z" ∈ WS := WS_in (tb_1 (List.mem_of_getElem? (i := 87) (by decide +kernel))) rfl
theorem fk_X1_15 : Cond.fieldLink RX1 15 "BreadSpans$Law" "length" "I" ∈ WS := WS_in (tb_1 (List.mem_of_getElem? (i := 88) (by decide +kernel))) rfl
theorem fk_X1_19 : Cond.fieldLink RX1 19 "BreadSpans$Law" "code" "[I" ∈ WS := WS_in (tb_1 (List.mem_of_getElem? (i := 89) (by decide +kernel))) rfl
theorem fk_X1_23 : Cond.fieldLink RX1 23 "BreadSpans$Law" "open" "[I" ∈ WS := WS_in (tb_1 (List.mem_of_getElem? (i := 90) (by decide +kernel))) rfl
theorem fk_X0_11 : Cond.fieldLink RX0 11 "BreadSpans$Delta" "spans" "[LBreadSpans$Span;" ∈ WS := WS_in (tb_1 (List.mem_of_getElem? (i := 100) (by decide +kernel))) rfl
theorem fk_X6_77 : Cond.fieldLink RX6 77 "BreadSpans$Delta" "spans" "[LBreadSpans$Span;" ∈ WS := WS_in (tb_1 (List.mem_of_getElem? (i := 101) (by decide +kernel))) rfl
theorem fk_X0_17 : Cond.fieldLink RX0 17 "BreadSpans$Delta" "many" "I" ∈ WS := WS_in (tb_1 (List.mem_of_getElem? (i := 102) (by decide +kernel))) rfl
theorem fk_X6_63 : Cond.fieldLink RX6 63 "BreadSpans$Delta" "many" "I" ∈ WS := WS_in (tb_1 (List.mem_of_getElem? (i := 103) (by decide +kernel))) rfl
theorem fk_X0_21 : Cond.fieldLink RX0 21 "BreadSpans$Delta" "rain" "I" ∈ WS := WS_in (tb_1 (List.mem_of_getElem? (i := 104) (by decide +kernel))) rfl
theorem fk_X6_124 : Cond.fieldLink RX6 124 "BreadSpans$Delta" "rain" "I" ∈ WS := WS_in (tb_1 (List.mem_of_getElem? (i := 105) (by decide +kernel))) rfl
theorem fk_X0_24 : Cond.fieldLink RX0 24 "BreadSpans$Delta" "flour" "I" ∈ WS := WS_in (tb_1 (List.mem_of_getElem? (i := 106) (by decide +kernel))) rfl
theorem fk_X6_118 : Cond.fieldLink RX6 118 "BreadSpans$Delta" "flour" "I" ∈ WS := WS_in (tb_1 (List.mem_of_getElem? (i := 107) (by decide +kernel))) rfl
theorem fk_X0_27 : Cond.fieldLink RX0 27 "BreadSpans$Delta" "day" "I" ∈ WS := WS_in (tb_1 (List.mem_of_getElem? (i := 108) (by decide +kernel))) rfl
theorem fk_X6_105 : Cond.fieldLink RX6 105 "BreadSpans$Delta" "day" "I" ∈ WS := WS_in (tb_1 (List.mem_of_getElem? (i := 109) (by decide +kernel))) rfl
theorem fk_X0_30 : Cond.fieldLink RX0 30 "BreadSpans$Delta" "lost" "I" ∈ WS := WS_in (tb_1 (List.mem_of_getElem? (i := 110) (by decide +kernel))) rfl
theorem fk_X6_277 : Cond.fieldLink RX6 277 "BreadSpans$Delta" "lost" "I" ∈ WS := WS_in (tb_1 (List.mem_of_getElem? (i := 111) (by decide +kernel))) rfl
theorem fk_X0_33 : Cond.fieldLink RX0 33 "BreadSpans$Delta" "toll" "I" ∈ WS := WS_in (tb_1 (List.mem_of_getElem? (i := 112) (by decide +kernel))) rfl
theorem fk_X6_280 : Cond.fieldLink RX6 280 "BreadSpans$Delta" "toll" "I" ∈ WS := WS_in (tb_1 (List.mem_of_getElem? (i := 113) (by decide +kernel))) rfl
theorem fk_X0_36 : Cond.fieldLink RX0 36 "BreadSpans$Delta" "z" "I" ∈ WS := WS_in (tb_1 (List.mem_of_getElem? (i := 114) (by decide +kernel))) rfl
theorem fk_X6_184 : Cond.fieldLink RX6 184 "BreadSpans$Delta" "z" "I" ∈ WS := WS_in (tb_1 (List.mem_of_getElem? (i := 115) (by decide +kernel))) rfl
theorem fk_X0_41 : Cond.fieldLink RX0 41 "BreadSpans$Delta" "laws" "[LBreadSpans$Law;" ∈ WS := WS_in (tb_1 (List.mem_of_getElem? (i := 116) (by decide +kernel))) rfl
theorem fk_X6_155 : Cond.fieldLink RX6 155 "BreadSpans$Delta" "laws" "[LBreadSpans$Law;" ∈ WS := WS_in (tb_1 (List.mem_of_getElem? (i := 117) (by decide +kernel))) rfl
theorem fk_X0_45 : Cond.fieldLink RX0 45 "BreadSpans$Delta" "tape" "[C" ∈ WS := WS_in (tb_1 (List.mem_of_getElem? (i := 118) (by decide +kernel))) rfl
theorem fk_X6_144 : Cond.fieldLink RX6 144 "BreadSpans$Delta" "tape" "[C" ∈ WS := WS_in (tb_1 (List.mem_of_getElem? (i := 119) (by decide +kernel))) rfl
theorem fk_X0_49 : Cond.fieldLink RX0 49 "BreadSpans$Delta" "taped" "I" ∈ WS := WS_in (tb_1 (List.mem_of_getElem? (i := 120) (by decide +kernel))) rfl
theorem fk_X6_134 : Cond.fieldLink RX6 134 "BreadSpans$Delta" "taped" "I" ∈ WS := WS_in (tb_1 (List.mem_of_getElem? (i := 121) (by decide +kernel))) rfl
theorem fk_X0_52 : Cond.fieldLink RX0 52 "BreadSpans$Delta" "waiting" "[I" ∈ WS := WS_in (tb_1 (List.mem_of_getElem? (i := 122) (by decide +kernel))) rfl
theorem fk_X6_274 : Cond.fieldLink RX6 274 "BreadSpans$Delta" "waiting" "[I" ∈ WS := WS_in (tb_1 (List.mem_of_getElem? (i := 123) (by decide +kernel))) rfl
theorem fk_X0_56 : Cond.fieldLink RX0 56 "BreadSpans$Delta" "waits" "I" ∈ WS := WS_in (tb_1 (List.mem_of_getElem? (i := 124) (by decide +kernel))) rfl
theorem fk_X6_271 : Cond.fieldLink RX6 271 "BreadSpans$Delta" "waits" "I" ∈ WS := WS_in (tb_1 (List.mem_of_getElem? (i := 125) (by decide +kernel))) rfl
theorem ck_X6_22 : Cond.classLink RX6 22 RX2 ∈ WS := WS_in (tb_1 (List.mem_of_getElem? (i := 153) (by decide +kernel))) rfl
theorem it_X2 : Cond.instantiable RX2 6 ∈ WS := WS_in (tb_1 (List.mem_of_getElem? (i := 154) (by decide +kernel))) rfl
theorem im_yX2_init : Cond.instanceMethod yX2_init ∈ WS := WS_in (tb_1 (List.mem_of_getElem? (i := 156) (by decide +kernel))) rfl
theorem co_yX2_init : Cond.code yX2_init cX2_init 1 none ∈ WS := WS_in (tb_1 (List.mem_of_getElem? (i := 157) (by decide +kernel))) rfl
theorem mk_X2_3 : Cond.methodLink RX2 3 objectInit ∈ WS := WS_in (tb_1 (List.mem_of_getElem? (i := 158) (by decide +kernel))) rfl
theorem fk_X2_9 : Cond.fieldLink RX2 9 "BreadSpans$Reader" "code" "[I" ∈ WS := WS_in (tb_1 (List.mem_of_getElem? (i := 160) (by decide +kernel))) rfl
theorem fk_X6_159 : Cond.fieldLink RX6 159 "BreadSpans$Reader" "code" "[I" ∈ WS := WS_in (tb_1 (List.mem_of_getElem? (i := 161) (by decide +kernel))) rfl
theorem fk_X2_15 : Cond.fieldLink RX2 15 "BreadSpans$Reader" "made" "I" ∈ WS := WS_in (tb_1 (List.mem_of_getElem? (i := 162) (by decide +kernel))) rfl
theorem fk_X6_162 : Cond.fieldLink RX6 162 "BreadSpans$Reader" "made" "I" ∈ WS := WS_in (tb_1 (List.mem_of_getElem? (i := 163) (by decide +kernel))) rfl
theorem fk_X2_19 : Cond.fieldLink RX2 19 "BreadSpans$Reader" "at" "I" ∈ WS := WS_in (tb_1 (List.mem_of_getElem? (i := 164) (by decide +kernel))) rfl
theorem fk_X6_152 : Cond.fieldLink RX6 152 "BreadSpans$Reader" "at" "I" ∈ WS := WS_in (tb_1 (List.mem_of_getElem? (i := 165) (by decide +kernel))) rfl
theorem fk_X2_22 : Cond.fieldLink RX2 22 "BreadSpans$Reader" "bytes" "[C" ∈ WS := WS_in (tb_1 (List.mem_of_getElem? (i := 166) (by decide +kernel))) rfl
theorem fk_X2_26 : Cond.fieldLink RX2 26 "BreadSpans$Reader" "n" "I" ∈ WS := WS_in (tb_1 (List.mem_of_getElem? (i := 167) (by decide +kernel))) rfl
theorem fk_X2_31 : Cond.fieldLink RX2 31 "BreadSpans$Reader" "names" "Ljava/lang/String;" ∈ WS := WS_in (tb_1 (List.mem_of_getElem? (i := 168) (by decide +kernel))) rfl
theorem ck_X6_29 : Cond.classLink RX6 29 RX5 ∈ WS := WS_in (tb_1 (List.mem_of_getElem? (i := 183) (by decide +kernel))) rfl
theorem it_X5 : Cond.instantiable RX5 6 ∈ WS := WS_in (tb_1 (List.mem_of_getElem? (i := 184) (by decide +kernel))) rfl
theorem im_yX5_init : Cond.instanceMethod yX5_init ∈ WS := WS_in (tb_1 (List.mem_of_getElem? (i := 186) (by decide +kernel))) rfl
theorem co_yX5_init : Cond.code yX5_init cX5_init 1 none ∈ WS := WS_in (tb_1 (List.mem_of_getElem? (i := 187) (by decide +kernel))) rfl
theorem mk_X5_3 : Cond.methodLink RX5 3 objectInit ∈ WS := WS_in (tb_1 (List.mem_of_getElem? (i := 188) (by decide +kernel))) rfl
theorem fk_X5_9 : Cond.fieldLink RX5 9 "BreadSpans$Voices" "trace" "[I" ∈ WS := WS_in (tb_1 (List.mem_of_getElem? (i := 189) (by decide +kernel))) rfl
theorem fk_X6_247 : Cond.fieldLink RX6 247 "BreadSpans$Voices" "trace" "[I" ∈ WS := WS_in (tb_1 (List.mem_of_getElem? (i := 190) (by decide +kernel))) rfl
theorem fk_X5_15 : Cond.fieldLink RX5 15 "BreadSpans$Voices" "traced" "I" ∈ WS := WS_in (tb_1 (List.mem_of_getElem? (i := 191) (by decide +kernel))) rfl
theorem fk_X6_244 : Cond.fieldLink RX6 244 "BreadSpans$Voices" "traced" "I" ∈ WS := WS_in (tb_1 (List.mem_of_getElem? (i := 192) (by decide +kernel))) rfl
theorem fk_X5_19 : Cond.fieldLink RX5 19 "BreadSpans$Voices" "parted" "Z" ∈ WS := WS_in (tb_1 (List.mem_of_getElem? (i := 193) (by decide +kernel))) rfl
theorem fk_X6_241 : Cond.fieldLink RX6 241 "BreadSpans$Voices" "parted" "Z" ∈ WS := WS_in (tb_1 (List.mem_of_getElem? (i := 194) (by decide +kernel))) rfl
theorem fk_X5_23 : Cond.fieldLink RX5 23 "BreadSpans$Voices" "kind" "I" ∈ WS := WS_in (tb_1 (List.mem_of_getElem? (i := 195) (by decide +kernel))) rfl
theorem fk_X5_26 : Cond.fieldLink RX5 26 "BreadSpans$Voices" "m" "I" ∈ WS := WS_in (tb_1 (List.mem_of_getElem? (i := 196) (by decide +kernel))) rfl
theorem fk_X5_29 : Cond.fieldLink RX5 29 "BreadSpans$Voices" "k" "I" ∈ WS := WS_in (tb_1 (List.mem_of_getElem? (i := 197) (by decide +kernel))) rfl
theorem ck_X6_36 : Cond.classLink RX6 36 RX3 ∈ WS := WS_in (tb_1 (List.mem_of_getElem? (i := 211) (by decide +kernel))) rfl
theorem it_X3 : Cond.instantiable RX3 3 ∈ WS := WS_in (tb_1 (List.mem_of_getElem? (i := 213) (by decide +kernel))) rfl
theorem im_yX3_init : Cond.instanceMethod yX3_init ∈ WS := WS_in (tb_1 (List.mem_of_getElem? (i := 215) (by decide +kernel))) rfl
theorem co_yX3_init : Cond.code yX3_init cX3_init 1 none ∈ WS := WS_in (tb_1 (List.mem_of_getElem? (i := 216) (by decide +kernel))) rfl
theorem mk_X3_3 : Cond.methodLink RX3 3 objectInit ∈ WS := WS_in (tb_1 (List.mem_of_getElem? (i := 217) (by decide +kernel))) rfl
theorem fk_X3_9 : Cond.fieldLink RX3 9 "BreadSpans$Sheet" "bits" "I" ∈ WS := WS_in (tb_1 (List.mem_of_getElem? (i := 218) (by decide +kernel))) rfl
theorem fk_X6_256 : Cond.fieldLink RX6 256 "BreadSpans$Sheet" "bits" "I" ∈ WS := WS_in (tb_1 (List.mem_of_getElem? (i := 219) (by decide +kernel))) rfl
theorem fk_X3_15 : Cond.fieldLink RX3 15 "BreadSpans$Sheet" "n" "I" ∈ WS := WS_in (tb_1 (List.mem_of_getElem? (i := 220) (by decide +kernel))) rfl
theorem fk_X0_154 : Cond.fieldLink RX0 154 "BreadSpans$Sheet" "n" "I" ∈ WS := WS_in (tb_1 (List.mem_of_getElem? (i := 221) (by decide +kernel))) rfl
theorem fk_X6_234 : Cond.fieldLink RX6 234 "BreadSpans$Sheet" "n" "I" ∈ WS := WS_in (tb_1 (List.mem_of_getElem? (i := 222) (by decide +kernel))) rfl
theorem fk_X3_18 : Cond.fieldLink RX3 18 "BreadSpans$Sheet" "numbers" "[I" ∈ WS := WS_in (tb_1 (List.mem_of_getElem? (i := 223) (by decide +kernel))) rfl
theorem fk_X0_163 : Cond.fieldLink RX0 163 "BreadSpans$Sheet" "numbers" "[I" ∈ WS := WS_in (tb_1 (List.mem_of_getElem? (i := 224) (by decide +kernel))) rfl
theorem fk_X6_262 : Cond.fieldLink RX6 262 "BreadSpans$Sheet" "numbers" "[I" ∈ WS := WS_in (tb_1 (List.mem_of_getElem? (i := 225) (by decide +kernel))) rfl
theorem fk_X6_10 : Cond.fieldLink RX6 10 "BreadSpans" "now" "LBreadSpans$Delta;" ∈ WS := WS_in (tb_1 (List.mem_of_getElem? (i := 233) (by decide +kernel))) rfl
theorem fk_X6_16 : Cond.fieldLink RX6 16 "BreadSpans" "kept" "LBreadSpans$Delta;" ∈ WS := WS_in (tb_1 (List.mem_of_getElem? (i := 234) (by decide +kernel))) rfl
theorem fk_X6_19 : Cond.fieldLink RX6 19 "BreadSpans" "thought" "LBreadSpans$Delta;" ∈ WS := WS_in (tb_1 (List.mem_of_getElem? (i := 235) (by decide +kernel))) rfl
theorem fk_X6_25 : Cond.fieldLink RX6 25 "BreadSpans" "reader" "LBreadSpans$Reader;" ∈ WS := WS_in (tb_1 (List.mem_of_getElem? (i := 236) (by decide +kernel))) rfl
theorem fk_X6_32 : Cond.fieldLink RX6 32 "BreadSpans" "voices" "LBreadSpans$Voices;" ∈ WS := WS_in (tb_1 (List.mem_of_getElem? (i := 237) (by decide +kernel))) rfl
theorem fk_X6_38 : Cond.fieldLink RX6 38 "BreadSpans" "sheets" "[LBreadSpans$Sheet;" ∈ WS := WS_in (tb_1 (List.mem_of_getElem? (i := 238) (by decide +kernel))) rfl
theorem fk_X6_42 : Cond.fieldLink RX6 42 "BreadSpans" "errors" "[I" ∈ WS := WS_in (tb_1 (List.mem_of_getElem? (i := 239) (by decide +kernel))) rfl
theorem fk_X6_46 : Cond.fieldLink RX6 46 "BreadSpans" "images" "I" ∈ WS := WS_in (tb_2 (List.mem_of_getElem? (i := 0) (by decide +kernel))) rfl
theorem mk_L_13 : Cond.methodLink RL 13 yX6_span ∈ WS := WS_in (tb_2 (List.mem_of_getElem? (i := 18) (by decide +kernel))) rfl
theorem im_yX6_span : Cond.instanceMethod yX6_span ∈ WS := WS_in (tb_2 (List.mem_of_getElem? (i := 19) (by decide +kernel))) rfl
theorem se_yX6_span : Cond.selects RX6 yX6_span yX6_span ∈ WS := WS_in (tb_2 (List.mem_of_getElem? (i := 20) (by decide +kernel))) rfl
theorem co_yX6_span : Cond.code yX6_span cX6_span 4 (some .int) ∈ WS := WS_in (tb_2 (List.mem_of_getElem? (i := 21) (by decide +kernel))) rfl
theorem mk_X6_51 : Cond.methodLink RX6 51 yX6_isKindAndNumber ∈ WS := WS_in (tb_2 (List.mem_of_getElem? (i := 22) (by decide +kernel))) rfl
theorem st_yX6_isKindAndNumber : Cond.static yX6_isKindAndNumber ∈ WS := WS_in (tb_2 (List.mem_of_getElem? (i := 23) (by decide +kernel))) rfl
theorem co_yX6_isKindAndNumber : Cond.code yX6_isKindAndNumber cX6_isKindAndNumber 1 (some .boolean) ∈ WS := WS_in (tb_2 (List.mem_of_getElem? (i := 24) (by decide +kernel))) rfl
theorem mk_X6_73 : Cond.methodLink RX6 73 yX6_within ∈ WS := WS_in (tb_2 (List.mem_of_getElem? (i := 25) (by decide +kernel))) rfl
theorem st_yX6_within : Cond.static yX6_within ∈ WS := WS_in (tb_2 (List.mem_of_getElem? (i := 26) (by decide +kernel))) rfl
theorem co_yX6_within : Cond.code yX6_within cX6_within 3 (some .boolean) ∈ WS := WS_in (tb_2 (List.mem_of_getElem? (i := 27) (by decide +kernel))) rfl
theorem mk_X6_55 : Cond.methodLink RX6 55 yX6_areTwoPlaces ∈ WS := WS_in (tb_2 (List.mem_of_getElem? (i := 28) (by decide +kernel))) rfl
theorem st_yX6_areTwoPlaces : Cond.static yX6_areTwoPlaces ∈ WS := WS_in (tb_2 (List.mem_of_getElem? (i := 29) (by decide +kernel))) rfl
theorem co_yX6_areTwoPlaces : Cond.code yX6_areTwoPlaces cX6_areTwoPlaces 2 (some .boolean) ∈ WS := WS_in (tb_2 (List.mem_of_getElem? (i := 30) (by decide +kernel))) rfl
theorem mk_X6_187 : Cond.methodLink RX6 187 yX6_isPlace ∈ WS := WS_in (tb_2 (List.mem_of_getElem? (i := 31) (by decide +kernel))) rfl
theorem st_yX6_isPlace : Cond.static yX6_isPlace ∈ WS := WS_in (tb_2 (List.mem_of_getElem? (i := 32) (by decide +kernel))) rfl
theorem co_yX6_isPlace : Cond.code yX6_isPlace cX6_isPlace 1 (some .boolean) ∈ WS := WS_in (tb_2 (List.mem_of_getElem? (i := 33) (by decide +kernel))) rfl
theorem mk_X6_59 : Cond.methodLink RX6 59 yX6_error ∈ WS := WS_in (tb_2 (List.mem_of_getElem? (i := 34) (by decide +kernel))) rfl
theorem im_yX6_error : Cond.instanceMethod yX6_error ∈ WS := WS_in (tb_2 (List.mem_of_getElem? (i := 36) (by decide +kernel))) rfl
theorem co_yX6_error : Cond.code yX6_error cX6_error 2 (some .int) ∈ WS := WS_in (tb_2 (List.mem_of_getElem? (i := 37) (by decide +kernel))) rfl
theorem kn_X6_283 : Cond.constant RX6 283 (-1000000000) ∈ WS := WS_in (tb_2 (List.mem_of_getElem? (i := 38) (by decide +kernel))) rfl
theorem mk_X6_66 : Cond.methodLink RX6 66 yX0_addSpan ∈ WS := WS_in (tb_2 (List.mem_of_getElem? (i := 39) (by decide +kernel))) rfl
theorem im_yX0_addSpan : Cond.instanceMethod yX0_addSpan ∈ WS := WS_in (tb_2 (List.mem_of_getElem? (i := 40) (by decide +kernel))) rfl
theorem se_yX0_addSpan : Cond.selects RX0 yX0_addSpan yX0_addSpan ∈ WS := WS_in (tb_2 (List.mem_of_getElem? (i := 41) (by decide +kernel))) rfl
theorem co_yX0_addSpan : Cond.code yX0_addSpan cX0_addSpan 5 (some .int) ∈ WS := WS_in (tb_2 (List.mem_of_getElem? (i := 42) (by decide +kernel))) rfl
theorem mk_X0_78 : Cond.methodLink RX0 78 yX4_bakeAnew ∈ WS := WS_in (tb_2 (List.mem_of_getElem? (i := 43) (by decide +kernel))) rfl
theorem im_yX4_bakeAnew : Cond.instanceMethod yX4_bakeAnew ∈ WS := WS_in (tb_2 (List.mem_of_getElem? (i := 44) (by decide +kernel))) rfl
theorem se_yX4_bakeAnew : Cond.selects RX4 yX4_bakeAnew yX4_bakeAnew ∈ WS := WS_in (tb_2 (List.mem_of_getElem? (i := 45) (by decide +kernel))) rfl
theorem co_yX4_bakeAnew : Cond.code yX4_bakeAnew cX4_bakeAnew 1 none ∈ WS := WS_in (tb_2 (List.mem_of_getElem? (i := 46) (by decide +kernel))) rfl
theorem mk_L_18 : Cond.methodLink RL 18 yX6_spanIs ∈ WS := WS_in (tb_2 (List.mem_of_getElem? (i := 47) (by decide +kernel))) rfl
theorem im_yX6_spanIs : Cond.instanceMethod yX6_spanIs ∈ WS := WS_in (tb_2 (List.mem_of_getElem? (i := 48) (by decide +kernel))) rfl
theorem se_yX6_spanIs : Cond.selects RX6 yX6_spanIs yX6_spanIs ∈ WS := WS_in (tb_2 (List.mem_of_getElem? (i := 49) (by decide +kernel))) rfl
theorem co_yX6_spanIs : Cond.code yX6_spanIs cX6_spanIs 4 (some .int) ∈ WS := WS_in (tb_2 (List.mem_of_getElem? (i := 50) (by decide +kernel))) rfl
theorem mk_X6_70 : Cond.methodLink RX6 70 yX0_hasSpan ∈ WS := WS_in (tb_2 (List.mem_of_getElem? (i := 51) (by decide +kernel))) rfl
theorem im_yX0_hasSpan : Cond.instanceMethod yX0_hasSpan ∈ WS := WS_in (tb_2 (List.mem_of_getElem? (i := 52) (by decide +kernel))) rfl
theorem se_yX0_hasSpan : Cond.selects RX0 yX0_hasSpan yX0_hasSpan ∈ WS := WS_in (tb_2 (List.mem_of_getElem? (i := 53) (by decide +kernel))) rfl
theorem co_yX0_hasSpan : Cond.code yX0_hasSpan cX0_hasSpan 2 (some .boolean) ∈ WS := WS_in (tb_2 (List.mem_of_getElem? (i := 54) (by decide +kernel))) rfl
theorem mk_X6_108 : Cond.methodLink RX6 108 yX4_bearsOn ∈ WS := WS_in (tb_2 (List.mem_of_getElem? (i := 56) (by decide +kernel))) rfl
theorem im_yX4_bearsOn : Cond.instanceMethod yX4_bearsOn ∈ WS := WS_in (tb_2 (List.mem_of_getElem? (i := 57) (by decide +kernel))) rfl
theorem se_yX4_bearsOn : Cond.selects RX4 yX4_bearsOn yX4_bearsOn ∈ WS := WS_in (tb_2 (List.mem_of_getElem? (i := 58) (by decide +kernel))) rfl
theorem co_yX4_bearsOn : Cond.code yX4_bearsOn cX4_bearsOn 2 (some .int) ∈ WS := WS_in (tb_2 (List.mem_of_getElem? (i := 59) (by decide +kernel))) rfl
theorem mk_X4_34 : Cond.methodLink RX4 34 yX4_bearsAsRye ∈ WS := WS_in (tb_2 (List.mem_of_getElem? (i := 60) (by decide +kernel))) rfl
theorem im_yX4_bearsAsRye : Cond.instanceMethod yX4_bearsAsRye ∈ WS := WS_in (tb_2 (List.mem_of_getElem? (i := 62) (by decide +kernel))) rfl
theorem co_yX4_bearsAsRye : Cond.code yX4_bearsAsRye cX4_bearsAsRye 1 (some .int) ∈ WS := WS_in (tb_2 (List.mem_of_getElem? (i := 63) (by decide +kernel))) rfl
theorem mk_X4_47 : Cond.methodLink RX4 47 yX4_bearsAsLoaf ∈ WS := WS_in (tb_2 (List.mem_of_getElem? (i := 64) (by decide +kernel))) rfl
theorem im_yX4_bearsAsLoaf : Cond.instanceMethod yX4_bearsAsLoaf ∈ WS := WS_in (tb_2 (List.mem_of_getElem? (i := 66) (by decide +kernel))) rfl
theorem co_yX4_bearsAsLoaf : Cond.code yX4_bearsAsLoaf cX4_bearsAsLoaf 1 (some .int) ∈ WS := WS_in (tb_2 (List.mem_of_getElem? (i := 67) (by decide +kernel))) rfl
theorem mk_X4_50 : Cond.methodLink RX4 50 yJ9_max_7cf53 ∈ WS := WS_in (tb_2 (List.mem_of_getElem? (i := 68) (by decide +kernel))) rfl
theorem st_yJ9_max_7cf53 : Cond.static yJ9_max_7cf53 ∈ WS := WS_in (tb_2 (List.mem_of_getElem? (i := 69) (by decide +kernel))) rfl
theorem co_yJ9_max_7cf53 : Cond.code yJ9_max_7cf53 cJ9_max_7cf53 2 (some .int) ∈ WS := WS_in (tb_2 (List.mem_of_getElem? (i := 70) (by decide +kernel))) rfl
theorem mk_X4_38 : Cond.methodLink RX4 38 yX4_bearsAsBrioche ∈ WS := WS_in (tb_2 (List.mem_of_getElem? (i := 71) (by decide +kernel))) rfl
theorem im_yX4_bearsAsBrioche : Cond.instanceMethod yX4_bearsAsBrioche ∈ WS := WS_in (tb_2 (List.mem_of_getElem? (i := 73) (by decide +kernel))) rfl
theorem co_yX4_bearsAsBrioche : Cond.code yX4_bearsAsBrioche cX4_bearsAsBrioche 1 (some .int) ∈ WS := WS_in (tb_2 (List.mem_of_getElem? (i := 74) (by decide +kernel))) rfl
theorem mk_X4_41 : Cond.methodLink RX4 41 yJ9_min_7cf53 ∈ WS := WS_in (tb_2 (List.mem_of_getElem? (i := 75) (by decide +kernel))) rfl
theorem st_yJ9_min_7cf53 : Cond.static yJ9_min_7cf53 ∈ WS := WS_in (tb_2 (List.mem_of_getElem? (i := 76) (by decide +kernel))) rfl
theorem co_yJ9_min_7cf53 : Cond.code yJ9_min_7cf53 cJ9_min_7cf53 2 (some .int) ∈ WS := WS_in (tb_2 (List.mem_of_getElem? (i := 77) (by decide +kernel))) rfl
theorem mk_X6_111 : Cond.methodLink RX6 111 yX4_takes ∈ WS := WS_in (tb_2 (List.mem_of_getElem? (i := 78) (by decide +kernel))) rfl
theorem im_yX4_takes : Cond.instanceMethod yX4_takes ∈ WS := WS_in (tb_2 (List.mem_of_getElem? (i := 79) (by decide +kernel))) rfl
theorem se_yX4_takes : Cond.selects RX4 yX4_takes yX4_takes ∈ WS := WS_in (tb_2 (List.mem_of_getElem? (i := 80) (by decide +kernel))) rfl
theorem co_yX4_takes : Cond.code yX4_takes cX4_takes 2 (some .int) ∈ WS := WS_in (tb_2 (List.mem_of_getElem? (i := 81) (by decide +kernel))) rfl
theorem mk_L_23 : Cond.methodLink RL 23 yX6_become ∈ WS := WS_in (tb_2 (List.mem_of_getElem? (i := 82) (by decide +kernel))) rfl
theorem im_yX6_become : Cond.instanceMethod yX6_become ∈ WS := WS_in (tb_2 (List.mem_of_getElem? (i := 83) (by decide +kernel))) rfl
theorem se_yX6_become : Cond.selects RX6 yX6_become yX6_become ∈ WS := WS_in (tb_2 (List.mem_of_getElem? (i := 84) (by decide +kernel))) rfl
theorem co_yX6_become : Cond.code yX6_become cX6_become 5 (some .int) ∈ WS := WS_in (tb_2 (List.mem_of_getElem? (i := 85) (by decide +kernel))) rfl
theorem mk_L_27 : Cond.methodLink RL 27 yX6_as ∈ WS := WS_in (tb_2 (List.mem_of_getElem? (i := 86) (by decide +kernel))) rfl
theorem im_yX6_as : Cond.instanceMethod yX6_as ∈ WS := WS_in (tb_2 (List.mem_of_getElem? (i := 87) (by decide +kernel))) rfl
theorem se_yX6_as : Cond.selects RX6 yX6_as yX6_as ∈ WS := WS_in (tb_2 (List.mem_of_getElem? (i := 88) (by decide +kernel))) rfl
theorem co_yX6_as : Cond.code yX6_as cX6_as 4 (some .int) ∈ WS := WS_in (tb_2 (List.mem_of_getElem? (i := 89) (by decide +kernel))) rfl
theorem mk_X6_115 : Cond.methodLink RX6 115 yX6_isUnder ∈ WS := WS_in (tb_2 (List.mem_of_getElem? (i := 90) (by decide +kernel))) rfl
theorem st_yX6_isUnder : Cond.static yX6_isUnder ∈ WS := WS_in (tb_2 (List.mem_of_getElem? (i := 91) (by decide +kernel))) rfl
theorem co_yX6_isUnder : Cond.code yX6_isUnder cX6_isUnder 4 (some .boolean) ∈ WS := WS_in (tb_2 (List.mem_of_getElem? (i := 92) (by decide +kernel))) rfl
theorem mk_X6_290 : Cond.methodLink RX6 290 yX6_kindAbove ∈ WS := WS_in (tb_2 (List.mem_of_getElem? (i := 93) (by decide +kernel))) rfl
theorem st_yX6_kindAbove : Cond.static yX6_kindAbove ∈ WS := WS_in (tb_2 (List.mem_of_getElem? (i := 94) (by decide +kernel))) rfl
theorem co_yX6_kindAbove : Cond.code yX6_kindAbove cX6_kindAbove 1 (some .int) ∈ WS := WS_in (tb_2 (List.mem_of_getElem? (i := 95) (by decide +kernel))) rfl
theorem fk_X6_287 : Cond.fieldLink RX6 287 "BreadSpans" "ABOVE" "[I" ∈ WS := WS_in (tb_2 (List.mem_of_getElem? (i := 96) (by decide +kernel))) rfl
theorem mk_L_31 : Cond.methodLink RL 31 yX6_soak ∈ WS := WS_in (tb_2 (List.mem_of_getElem? (i := 98) (by decide +kernel))) rfl
theorem im_yX6_soak : Cond.instanceMethod yX6_soak ∈ WS := WS_in (tb_2 (List.mem_of_getElem? (i := 99) (by decide +kernel))) rfl
theorem se_yX6_soak : Cond.selects RX6 yX6_soak yX6_soak ∈ WS := WS_in (tb_2 (List.mem_of_getElem? (i := 100) (by decide +kernel))) rfl
theorem co_yX6_soak : Cond.code yX6_soak cX6_soak 5 (some .int) ∈ WS := WS_in (tb_2 (List.mem_of_getElem? (i := 101) (by decide +kernel))) rfl
theorem mk_L_35 : Cond.methodLink RL 35 yX6_bakes ∈ WS := WS_in (tb_2 (List.mem_of_getElem? (i := 102) (by decide +kernel))) rfl
theorem im_yX6_bakes : Cond.instanceMethod yX6_bakes ∈ WS := WS_in (tb_2 (List.mem_of_getElem? (i := 103) (by decide +kernel))) rfl
theorem se_yX6_bakes : Cond.selects RX6 yX6_bakes yX6_bakes ∈ WS := WS_in (tb_2 (List.mem_of_getElem? (i := 104) (by decide +kernel))) rfl
theorem co_yX6_bakes : Cond.code yX6_bakes cX6_bakes 4 (some .int) ∈ WS := WS_in (tb_2 (List.mem_of_getElem? (i := 105) (by decide +kernel))) rfl
theorem mk_X6_121 : Cond.methodLink RX6 121 yX4_bakeAnew ∈ WS := WS_in (tb_2 (List.mem_of_getElem? (i := 106) (by decide +kernel))) rfl
theorem mk_L_40 : Cond.methodLink RL 40 yX6_eat ∈ WS := WS_in (tb_2 (List.mem_of_getElem? (i := 107) (by decide +kernel))) rfl
theorem im_yX6_eat : Cond.instanceMethod yX6_eat ∈ WS := WS_in (tb_2 (List.mem_of_getElem? (i := 108) (by decide +kernel))) rfl
theorem se_yX6_eat : Cond.selects RX6 yX6_eat yX6_eat ∈ WS := WS_in (tb_2 (List.mem_of_getElem? (i := 109) (by decide +kernel))) rfl
theorem co_yX6_eat : Cond.code yX6_eat cX6_eat 4 (some .int) ∈ WS := WS_in (tb_2 (List.mem_of_getElem? (i := 110) (by decide +kernel))) rfl
theorem mk_L_44 : Cond.methodLink RL 44 yX6_store ∈ WS := WS_in (tb_2 (List.mem_of_getElem? (i := 111) (by decide +kernel))) rfl
theorem im_yX6_store : Cond.instanceMethod yX6_store ∈ WS := WS_in (tb_2 (List.mem_of_getElem? (i := 112) (by decide +kernel))) rfl
theorem se_yX6_store : Cond.selects RX6 yX6_store yX6_store ∈ WS := WS_in (tb_2 (List.mem_of_getElem? (i := 113) (by decide +kernel))) rfl
theorem co_yX6_store : Cond.code yX6_store cX6_store 4 (some .int) ∈ WS := WS_in (tb_2 (List.mem_of_getElem? (i := 114) (by decide +kernel))) rfl
theorem mk_L_48 : Cond.methodLink RL 48 yX6_cross ∈ WS := WS_in (tb_2 (List.mem_of_getElem? (i := 115) (by decide +kernel))) rfl
theorem im_yX6_cross : Cond.instanceMethod yX6_cross ∈ WS := WS_in (tb_2 (List.mem_of_getElem? (i := 116) (by decide +kernel))) rfl
theorem se_yX6_cross : Cond.selects RX6 yX6_cross yX6_cross ∈ WS := WS_in (tb_2 (List.mem_of_getElem? (i := 117) (by decide +kernel))) rfl
theorem co_yX6_cross : Cond.code yX6_cross cX6_cross 4 (some .int) ∈ WS := WS_in (tb_2 (List.mem_of_getElem? (i := 118) (by decide +kernel))) rfl
theorem mk_X6_127 : Cond.methodLink RX6 127 yX6_isLoad ∈ WS := WS_in (tb_2 (List.mem_of_getElem? (i := 119) (by decide +kernel))) rfl
theorem st_yX6_isLoad : Cond.static yX6_isLoad ∈ WS := WS_in (tb_2 (List.mem_of_getElem? (i := 120) (by decide +kernel))) rfl
theorem co_yX6_isLoad : Cond.code yX6_isLoad cX6_isLoad 1 (some .boolean) ∈ WS := WS_in (tb_2 (List.mem_of_getElem? (i := 121) (by decide +kernel))) rfl
theorem mk_X6_130 : Cond.methodLink RX6 130 yX0_carryOver ∈ WS := WS_in (tb_2 (List.mem_of_getElem? (i := 122) (by decide +kernel))) rfl
theorem im_yX0_carryOver : Cond.instanceMethod yX0_carryOver ∈ WS := WS_in (tb_2 (List.mem_of_getElem? (i := 123) (by decide +kernel))) rfl
theorem se_yX0_carryOver : Cond.selects RX0 yX0_carryOver yX0_carryOver ∈ WS := WS_in (tb_2 (List.mem_of_getElem? (i := 124) (by decide +kernel))) rfl
theorem co_yX0_carryOver : Cond.code yX0_carryOver cX0_carryOver 5 (some .int) ∈ WS := WS_in (tb_2 (List.mem_of_getElem? (i := 125) (by decide +kernel))) rfl
theorem mk_X0_106 : Cond.methodLink RX0 106 yX4_bearsOn ∈ WS := WS_in (tb_2 (List.mem_of_getElem? (i := 126) (by decide +kernel))) rfl
theorem kn_X0_113 : Cond.constant RX0 113 99999 ∈ WS := WS_in (tb_2 (List.mem_of_getElem? (i := 127) (by decide +kernel))) rfl
theorem mk_X0_114 : Cond.methodLink RX0 114 yJ9_min_7cf53 ∈ WS := WS_in (tb_2 (List.mem_of_getElem? (i := 128) (by decide +kernel))) rfl
theorem mk_X0_120 : Cond.methodLink RX0 120 yX0_gives ∈ WS := WS_in (tb_2 (List.mem_of_getElem? (i := 129) (by decide +kernel))) rfl
theorem im_yX0_gives : Cond.instanceMethod yX0_gives ∈ WS := WS_in (tb_2 (List.mem_of_getElem? (i := 130) (by decide +kernel))) rfl
theorem se_yX0_gives : Cond.selects RX0 yX0_gives yX0_gives ∈ WS := WS_in (tb_2 (List.mem_of_getElem? (i := 131) (by decide +kernel))) rfl
theorem co_yX0_gives : Cond.code yX0_gives cX0_gives 6 (some .int) ∈ WS := WS_in (tb_2 (List.mem_of_getElem? (i := 132) (by decide +kernel))) rfl
theorem mk_X0_99 : Cond.methodLink RX0 99 yX1_workOut ∈ WS := WS_in (tb_2 (List.mem_of_getElem? (i := 133) (by decide +kernel))) rfl
theorem im_yX1_workOut : Cond.instanceMethod yX1_workOut ∈ WS := WS_in (tb_2 (List.mem_of_getElem? (i := 134) (by decide +kernel))) rfl
theorem se_yX1_workOut : Cond.selects RX1 yX1_workOut yX1_workOut ∈ WS := WS_in (tb_2 (List.mem_of_getElem? (i := 135) (by decide +kernel))) rfl
theorem co_yX1_workOut : Cond.code yX1_workOut cX1_workOut 7 (some .int) ∈ WS := WS_in (tb_2 (List.mem_of_getElem? (i := 136) (by decide +kernel))) rfl
theorem mk_X1_40 : Cond.methodLink RX1 40 yX1_truth ∈ WS := WS_in (tb_2 (List.mem_of_getElem? (i := 137) (by decide +kernel))) rfl
theorem st_yX1_truth : Cond.static yX1_truth ∈ WS := WS_in (tb_2 (List.mem_of_getElem? (i := 138) (by decide +kernel))) rfl
theorem co_yX1_truth : Cond.code yX1_truth cX1_truth 1 (some .int) ∈ WS := WS_in (tb_2 (List.mem_of_getElem? (i := 139) (by decide +kernel))) rfl
theorem mk_X1_44 : Cond.methodLink RX1 44 yX1_join ∈ WS := WS_in (tb_2 (List.mem_of_getElem? (i := 140) (by decide +kernel))) rfl
theorem st_yX1_join : Cond.static yX1_join ∈ WS := WS_in (tb_2 (List.mem_of_getElem? (i := 141) (by decide +kernel))) rfl
theorem co_yX1_join : Cond.code yX1_join cX1_join 3 (some .int) ∈ WS := WS_in (tb_2 (List.mem_of_getElem? (i := 142) (by decide +kernel))) rfl
theorem st_yX6_held : Cond.static yX6_held ∈ WS := WS_in (tb_2 (List.mem_of_getElem? (i := 144) (by decide +kernel))) rfl
theorem co_yX6_held : Cond.code yX6_held cX6_held 3 (some .int) ∈ WS := WS_in (tb_2 (List.mem_of_getElem? (i := 145) (by decide +kernel))) rfl
theorem mk_X6_284 : Cond.methodLink RX6 284 yJ9_min_7cf53 ∈ WS := WS_in (tb_2 (List.mem_of_getElem? (i := 146) (by decide +kernel))) rfl
theorem mk_X6_218 : Cond.methodLink RX6 218 yJ9_max_7cf53 ∈ WS := WS_in (tb_2 (List.mem_of_getElem? (i := 147) (by decide +kernel))) rfl
theorem mk_L_54 : Cond.methodLink RL 54 yX6_feed ∈ WS := WS_in (tb_2 (List.mem_of_getElem? (i := 148) (by decide +kernel))) rfl
theorem im_yX6_feed : Cond.instanceMethod yX6_feed ∈ WS := WS_in (tb_2 (List.mem_of_getElem? (i := 149) (by decide +kernel))) rfl
theorem se_yX6_feed : Cond.selects RX6 yX6_feed yX6_feed ∈ WS := WS_in (tb_2 (List.mem_of_getElem? (i := 150) (by decide +kernel))) rfl
theorem co_yX6_feed : Cond.code yX6_feed cX6_feed 4 (some .int) ∈ WS := WS_in (tb_2 (List.mem_of_getElem? (i := 151) (by decide +kernel))) rfl
theorem mk_X6_137 : Cond.methodLink RX6 137 yX0_addToTape ∈ WS := WS_in (tb_2 (List.mem_of_getElem? (i := 152) (by decide +kernel))) rfl
theorem im_yX0_addToTape : Cond.instanceMethod yX0_addToTape ∈ WS := WS_in (tb_2 (List.mem_of_getElem? (i := 153) (by decide +kernel))) rfl
theorem se_yX0_addToTape : Cond.selects RX0 yX0_addToTape yX0_addToTape ∈ WS := WS_in (tb_2 (List.mem_of_getElem? (i := 154) (by decide +kernel))) rfl
theorem co_yX0_addToTape : Cond.code yX0_addToTape cX0_addToTape 5 (some .int) ∈ WS := WS_in (tb_2 (List.mem_of_getElem? (i := 155) (by decide +kernel))) rfl
theorem kn_X0_93 : Cond.constantLong RX0 93 255 ∈ WS := WS_in (tb_2 (List.mem_of_getElem? (i := 156) (by decide +kernel))) rfl
theorem mk_L_59 : Cond.methodLink RL 59 yX6_text ∈ WS := WS_in (tb_2 (List.mem_of_getElem? (i := 157) (by decide +kernel))) rfl
theorem im_yX6_text : Cond.instanceMethod yX6_text ∈ WS := WS_in (tb_2 (List.mem_of_getElem? (i := 158) (by decide +kernel))) rfl
theorem se_yX6_text : Cond.selects RX6 yX6_text yX6_text ∈ WS := WS_in (tb_2 (List.mem_of_getElem? (i := 159) (by decide +kernel))) rfl
theorem co_yX6_text : Cond.code yX6_text cX6_text 3 (some .int) ∈ WS := WS_in (tb_2 (List.mem_of_getElem? (i := 160) (by decide +kernel))) rfl
theorem mk_X6_141 : Cond.methodLink RX6 141 yX6_isUse ∈ WS := WS_in (tb_2 (List.mem_of_getElem? (i := 161) (by decide +kernel))) rfl
theorem st_yX6_isUse : Cond.static yX6_isUse ∈ WS := WS_in (tb_2 (List.mem_of_getElem? (i := 162) (by decide +kernel))) rfl
theorem co_yX6_isUse : Cond.code yX6_isUse cX6_isUse 1 (some .boolean) ∈ WS := WS_in (tb_2 (List.mem_of_getElem? (i := 163) (by decide +kernel))) rfl
theorem mk_X6_148 : Cond.methodLink RX6 148 yX2_reads ∈ WS := WS_in (tb_2 (List.mem_of_getElem? (i := 164) (by decide +kernel))) rfl
theorem im_yX2_reads : Cond.instanceMethod yX2_reads ∈ WS := WS_in (tb_2 (List.mem_of_getElem? (i := 165) (by decide +kernel))) rfl
theorem se_yX2_reads : Cond.selects RX2 yX2_reads yX2_reads ∈ WS := WS_in (tb_2 (List.mem_of_getElem? (i := 166) (by decide +kernel))) rfl
theorem co_yX2_reads : Cond.code yX2_reads cX2_reads 4 (some .boolean) ∈ WS := WS_in (tb_2 (List.mem_of_getElem? (i := 167) (by decide +kernel))) rfl
theorem mk_X2_35 : Cond.methodLink RX2 35 yJ9_min_7cf53 ∈ WS := WS_in (tb_2 (List.mem_of_getElem? (i := 168) (by decide +kernel))) rfl
theorem mk_X2_45 : Cond.methodLink RX2 45 arraycopyName ∈ WS := WS_in (tb_2 (List.mem_of_getElem? (i := 170) (by decide +kernel))) rfl
theorem st_arraycopyName : Cond.static arraycopyName ∈ WS := WS_in (tb_2 (List.mem_of_getElem? (i := 171) (by decide +kernel))) rfl
theorem nt_arraycopyName : Cond.native arraycopyName ∈ WS := WS_in (tb_2 (List.mem_of_getElem? (i := 172) (by decide +kernel))) rfl
theorem mk_X2_53 : Cond.methodLink RX2 53 yX2_readAny ∈ WS := WS_in (tb_2 (List.mem_of_getElem? (i := 174) (by decide +kernel))) rfl
theorem im_yX2_readAny : Cond.instanceMethod yX2_readAny ∈ WS := WS_in (tb_2 (List.mem_of_getElem? (i := 176) (by decide +kernel))) rfl
theorem co_yX2_readAny : Cond.code yX2_readAny cX2_readAny 3 (some .boolean) ∈ WS := WS_in (tb_2 (List.mem_of_getElem? (i := 177) (by decide +kernel))) rfl
theorem mk_X2_57 : Cond.methodLink RX2 57 yX2_readAll ∈ WS := WS_in (tb_2 (List.mem_of_getElem? (i := 178) (by decide +kernel))) rfl
theorem im_yX2_readAll : Cond.instanceMethod yX2_readAll ∈ WS := WS_in (tb_2 (List.mem_of_getElem? (i := 180) (by decide +kernel))) rfl
theorem co_yX2_readAll : Cond.code yX2_readAll cX2_readAll 3 (some .boolean) ∈ WS := WS_in (tb_2 (List.mem_of_getElem? (i := 181) (by decide +kernel))) rfl
theorem mk_X2_68 : Cond.methodLink RX2 68 yX2_readCompared ∈ WS := WS_in (tb_2 (List.mem_of_getElem? (i := 182) (by decide +kernel))) rfl
theorem im_yX2_readCompared : Cond.instanceMethod yX2_readCompared ∈ WS := WS_in (tb_2 (List.mem_of_getElem? (i := 184) (by decide +kernel))) rfl
theorem co_yX2_readCompared : Cond.code yX2_readCompared cX2_readCompared 3 (some .boolean) ∈ WS := WS_in (tb_2 (List.mem_of_getElem? (i := 185) (by decide +kernel))) rfl
theorem mk_X2_71 : Cond.methodLink RX2 71 yX2_readSum ∈ WS := WS_in (tb_2 (List.mem_of_getElem? (i := 186) (by decide +kernel))) rfl
theorem im_yX2_readSum : Cond.instanceMethod yX2_readSum ∈ WS := WS_in (tb_2 (List.mem_of_getElem? (i := 188) (by decide +kernel))) rfl
theorem co_yX2_readSum : Cond.code yX2_readSum cX2_readSum 4 (some .boolean) ∈ WS := WS_in (tb_2 (List.mem_of_getElem? (i := 189) (by decide +kernel))) rfl
theorem mk_X2_74 : Cond.methodLink RX2 74 yX2_readProduct ∈ WS := WS_in (tb_2 (List.mem_of_getElem? (i := 190) (by decide +kernel))) rfl
theorem im_yX2_readProduct : Cond.instanceMethod yX2_readProduct ∈ WS := WS_in (tb_2 (List.mem_of_getElem? (i := 192) (by decide +kernel))) rfl
theorem co_yX2_readProduct : Cond.code yX2_readProduct cX2_readProduct 4 (some .boolean) ∈ WS := WS_in (tb_2 (List.mem_of_getElem? (i := 193) (by decide +kernel))) rfl
theorem mk_X2_77 : Cond.methodLink RX2 77 yX2_readOne ∈ WS := WS_in (tb_2 (List.mem_of_getElem? (i := 194) (by decide +kernel))) rfl
theorem im_yX2_readOne : Cond.instanceMethod yX2_readOne ∈ WS := WS_in (tb_2 (List.mem_of_getElem? (i := 196) (by decide +kernel))) rfl
theorem co_yX2_readOne : Cond.code yX2_readOne cX2_readOne 4 (some .boolean) ∈ WS := WS_in (tb_2 (List.mem_of_getElem? (i := 197) (by decide +kernel))) rfl
theorem mk_X2_60 : Cond.methodLink RX2 60 yX2_ahead ∈ WS := WS_in (tb_2 (List.mem_of_getElem? (i := 198) (by decide +kernel))) rfl
theorem im_yX2_ahead : Cond.instanceMethod yX2_ahead ∈ WS := WS_in (tb_2 (List.mem_of_getElem? (i := 200) (by decide +kernel))) rfl
theorem co_yX2_ahead : Cond.code yX2_ahead cX2_ahead 1 (some .char) ∈ WS := WS_in (tb_2 (List.mem_of_getElem? (i := 201) (by decide +kernel))) rfl
theorem mk_X2_84 : Cond.methodLink RX2 84 yX2_readNot ∈ WS := WS_in (tb_2 (List.mem_of_getElem? (i := 202) (by decide +kernel))) rfl
theorem im_yX2_readNot : Cond.instanceMethod yX2_readNot ∈ WS := WS_in (tb_2 (List.mem_of_getElem? (i := 204) (by decide +kernel))) rfl
theorem co_yX2_readNot : Cond.code yX2_readNot cX2_readNot 2 (some .boolean) ∈ WS := WS_in (tb_2 (List.mem_of_getElem? (i := 205) (by decide +kernel))) rfl
theorem mk_X2_64 : Cond.methodLink RX2 64 yX2_make ∈ WS := WS_in (tb_2 (List.mem_of_getElem? (i := 206) (by decide +kernel))) rfl
theorem im_yX2_make : Cond.instanceMethod yX2_make ∈ WS := WS_in (tb_2 (List.mem_of_getElem? (i := 208) (by decide +kernel))) rfl
theorem co_yX2_make : Cond.code yX2_make cX2_make 2 none ∈ WS := WS_in (tb_2 (List.mem_of_getElem? (i := 209) (by decide +kernel))) rfl
theorem mk_X2_87 : Cond.methodLink RX2 87 yX2_readWithin ∈ WS := WS_in (tb_2 (List.mem_of_getElem? (i := 210) (by decide +kernel))) rfl
theorem im_yX2_readWithin : Cond.instanceMethod yX2_readWithin ∈ WS := WS_in (tb_2 (List.mem_of_getElem? (i := 212) (by decide +kernel))) rfl
theorem co_yX2_readWithin : Cond.code yX2_readWithin cX2_readWithin 2 (some .boolean) ∈ WS := WS_in (tb_2 (List.mem_of_getElem? (i := 213) (by decide +kernel))) rfl
theorem mk_X2_90 : Cond.methodLink RX2 90 yX2_isDigit ∈ WS := WS_in (tb_2 (List.mem_of_getElem? (i := 214) (by decide +kernel))) rfl
theorem st_yX2_isDigit : Cond.static yX2_isDigit ∈ WS := WS_in (tb_2 (List.mem_of_getElem? (i := 215) (by decide +kernel))) rfl
theorem co_yX2_isDigit : Cond.code yX2_isDigit cX2_isDigit 1 (some .boolean) ∈ WS := WS_in (tb_2 (List.mem_of_getElem? (i := 216) (by decide +kernel))) rfl
theorem mk_X2_93 : Cond.methodLink RX2 93 yX2_readNumber ∈ WS := WS_in (tb_2 (List.mem_of_getElem? (i := 217) (by decide +kernel))) rfl
theorem im_yX2_readNumber : Cond.instanceMethod yX2_readNumber ∈ WS := WS_in (tb_2 (List.mem_of_getElem? (i := 219) (by decide +kernel))) rfl
theorem co_yX2_readNumber : Cond.code yX2_readNumber cX2_readNumber 3 none ∈ WS := WS_in (tb_2 (List.mem_of_getElem? (i := 220) (by decide +kernel))) rfl
theorem mk_X2_96 : Cond.methodLink RX2 96 yJ0_indexOf_0f7a4 ∈ WS := WS_in (tb_2 (List.mem_of_getElem? (i := 221) (by decide +kernel))) rfl
theorem im_yJ0_indexOf_0f7a4 : Cond.instanceMethod yJ0_indexOf_0f7a4 ∈ WS := WS_in (tb_2 (List.mem_of_getElem? (i := 222) (by decide +kernel))) rfl
theorem se_yJ0_indexOf_0f7a4 : Cond.selects RJ0 yJ0_indexOf_0f7a4 yJ0_indexOf_0f7a4 ∈ WS := WS_in (tb_2 (List.mem_of_getElem? (i := 223) (by decide +kernel))) rfl
theorem co_yJ0_indexOf_0f7a4 : Cond.code yJ0_indexOf_0f7a4 cJ0_indexOf_0f7a4 2 (some .int) ∈ WS := WS_in (tb_2 (List.mem_of_getElem? (i := 224) (by decide +kernel))) rfl
theorem mk_J0_633 : Cond.methodLink RJ0 633 yJ0_indexOf_7cf53 ∈ WS := WS_in (tb_2 (List.mem_of_getElem? (i := 225) (by decide +kernel))) rfl
theorem im_yJ0_indexOf_7cf53 : Cond.instanceMethod yJ0_indexOf_7cf53 ∈ WS := WS_in (tb_2 (List.mem_of_getElem? (i := 226) (by decide +kernel))) rfl
theorem se_yJ0_indexOf_7cf53 : Cond.selects RJ0 yJ0_indexOf_7cf53 yJ0_indexOf_7cf53 ∈ WS := WS_in (tb_2 (List.mem_of_getElem? (i := 227) (by decide +kernel))) rfl
theorem co_yJ0_indexOf_7cf53 : Cond.code yJ0_indexOf_7cf53 cJ0_indexOf_7cf53 3 (some .int) ∈ WS := WS_in (tb_2 (List.mem_of_getElem? (i := 228) (by decide +kernel))) rfl
theorem mk_J0_492 : Cond.methodLink RJ0 492 yJ0_isLatin1_aae02 ∈ WS := WS_in (tb_2 (List.mem_of_getElem? (i := 229) (by decide +kernel))) rfl
theorem im_yJ0_isLatin1_aae02 : Cond.instanceMethod yJ0_isLatin1_aae02 ∈ WS := WS_in (tb_2 (List.mem_of_getElem? (i := 230) (by decide +kernel))) rfl
theorem se_yJ0_isLatin1_aae02 : Cond.selects RJ0 yJ0_isLatin1_aae02 yJ0_isLatin1_aae02 ∈ WS := WS_in (tb_2 (List.mem_of_getElem? (i := 231) (by decide +kernel))) rfl
theorem co_yJ0_isLatin1_aae02 : Cond.code yJ0_isLatin1_aae02 cJ0_isLatin1_aae02 1 (some .boolean) ∈ WS := WS_in (tb_2 (List.mem_of_getElem? (i := 232) (by decide +kernel))) rfl
theorem fk_J0_38 : Cond.fieldLink RJ0 38 "java/lang/String" "COMPACT_STRINGS" "Z" ∈ WS := WS_in (tb_2 (List.mem_of_getElem? (i := 233) (by decide +kernel))) rfl
theorem mk_J0_505 : Cond.methodLink RJ0 505 yJ0_length_8abf5 ∈ WS := WS_in (tb_2 (List.mem_of_getElem? (i := 235) (by decide +kernel))) rfl
theorem im_yJ0_length_8abf5 : Cond.instanceMethod yJ0_length_8abf5 ∈ WS := WS_in (tb_2 (List.mem_of_getElem? (i := 236) (by decide +kernel))) rfl
theorem se_yJ0_length_8abf5 : Cond.selects RJ0 yJ0_length_8abf5 yJ0_length_8abf5 ∈ WS := WS_in (tb_2 (List.mem_of_getElem? (i := 237) (by decide +kernel))) rfl
theorem co_yJ0_length_8abf5 : Cond.code yJ0_length_8abf5 cJ0_length_8abf5 1 (some .int) ∈ WS := WS_in (tb_2 (List.mem_of_getElem? (i := 238) (by decide +kernel))) rfl
theorem mk_J0_335 : Cond.methodLink RJ0 335 yJ0_coder_7d493 ∈ WS := WS_in (tb_2 (List.mem_of_getElem? (i := 239) (by decide +kernel))) rfl
theorem im_yJ0_coder_7d493 : Cond.instanceMethod yJ0_coder_7d493 ∈ WS := WS_in (tb_3 (List.mem_of_getElem? (i := 0) (by decide +kernel))) rfl
theorem se_yJ0_coder_7d493 : Cond.selects RJ0 yJ0_coder_7d493 yJ0_coder_7d493 ∈ WS := WS_in (tb_3 (List.mem_of_getElem? (i := 1) (by decide +kernel))) rfl
theorem co_yJ0_coder_7d493 : Cond.code yJ0_coder_7d493 cJ0_coder_7d493 1 (some .byte) ∈ WS := WS_in (tb_3 (List.mem_of_getElem? (i := 2) (by decide +kernel))) rfl
theorem mk_J0_637 : Cond.methodLink RJ0 637 yJ1_indexOf_4cfef ∈ WS := WS_in (tb_3 (List.mem_of_getElem? (i := 3) (by decide +kernel))) rfl
theorem st_yJ1_indexOf_4cfef : Cond.static yJ1_indexOf_4cfef ∈ WS := WS_in (tb_3 (List.mem_of_getElem? (i := 4) (by decide +kernel))) rfl
theorem co_yJ1_indexOf_4cfef : Cond.code yJ1_indexOf_4cfef cJ1_indexOf_4cfef 4 (some .int) ∈ WS := WS_in (tb_3 (List.mem_of_getElem? (i := 5) (by decide +kernel))) rfl
theorem mk_J1_88 : Cond.methodLink RJ1 88 yJ1_canEncode_9a6ad ∈ WS := WS_in (tb_3 (List.mem_of_getElem? (i := 6) (by decide +kernel))) rfl
theorem st_yJ1_canEncode_9a6ad : Cond.static yJ1_canEncode_9a6ad ∈ WS := WS_in (tb_3 (List.mem_of_getElem? (i := 7) (by decide +kernel))) rfl
theorem co_yJ1_canEncode_9a6ad : Cond.code yJ1_canEncode_9a6ad cJ1_canEncode_9a6ad 1 (some .boolean) ∈ WS := WS_in (tb_3 (List.mem_of_getElem? (i := 8) (by decide +kernel))) rfl
theorem mk_J1_92 : Cond.methodLink RJ1 92 yJ9_max_7cf53 ∈ WS := WS_in (tb_3 (List.mem_of_getElem? (i := 9) (by decide +kernel))) rfl
theorem mk_J1_38 : Cond.methodLink RJ1 38 yJ9_min_7cf53 ∈ WS := WS_in (tb_3 (List.mem_of_getElem? (i := 10) (by decide +kernel))) rfl
theorem mk_J1_95 : Cond.methodLink RJ1 95 yJ1_indexOfChar_4cfef ∈ WS := WS_in (tb_3 (List.mem_of_getElem? (i := 11) (by decide +kernel))) rfl
theorem st_yJ1_indexOfChar_4cfef : Cond.static yJ1_indexOfChar_4cfef ∈ WS := WS_in (tb_3 (List.mem_of_getElem? (i := 12) (by decide +kernel))) rfl
theorem co_yJ1_indexOfChar_4cfef : Cond.code yJ1_indexOfChar_4cfef cJ1_indexOfChar_4cfef 6 (some .int) ∈ WS := WS_in (tb_3 (List.mem_of_getElem? (i := 13) (by decide +kernel))) rfl
theorem mk_J0_640 : Cond.methodLink RJ0 640 yJ2_indexOf_4cfef ∈ WS := WS_in (tb_3 (List.mem_of_getElem? (i := 14) (by decide +kernel))) rfl
theorem st_yJ2_indexOf_4cfef : Cond.static yJ2_indexOf_4cfef ∈ WS := WS_in (tb_3 (List.mem_of_getElem? (i := 15) (by decide +kernel))) rfl
theorem co_yJ2_indexOf_4cfef : Cond.code yJ2_indexOf_4cfef cJ2_indexOf_4cfef 4 (some .int) ∈ WS := WS_in (tb_3 (List.mem_of_getElem? (i := 16) (by decide +kernel))) rfl
theorem mk_J2_224 : Cond.methodLink RJ2 224 yJ9_max_7cf53 ∈ WS := WS_in (tb_3 (List.mem_of_getElem? (i := 17) (by decide +kernel))) rfl
theorem mk_J2_183 : Cond.methodLink RJ2 183 yJ9_min_7cf53 ∈ WS := WS_in (tb_3 (List.mem_of_getElem? (i := 18) (by decide +kernel))) rfl
theorem kn_J2_227 : Cond.constant RJ2 227 65536 ∈ WS := WS_in (tb_3 (List.mem_of_getElem? (i := 19) (by decide +kernel))) rfl
theorem mk_J2_228 : Cond.methodLink RJ2 228 yJ2_indexOfChar_4cfef ∈ WS := WS_in (tb_3 (List.mem_of_getElem? (i := 20) (by decide +kernel))) rfl
theorem st_yJ2_indexOfChar_4cfef : Cond.static yJ2_indexOfChar_4cfef ∈ WS := WS_in (tb_3 (List.mem_of_getElem? (i := 21) (by decide +kernel))) rfl
theorem co_yJ2_indexOfChar_4cfef : Cond.code yJ2_indexOfChar_4cfef cJ2_indexOfChar_4cfef 4 (some .int) ∈ WS := WS_in (tb_3 (List.mem_of_getElem? (i := 22) (by decide +kernel))) rfl
theorem mk_J2_96 : Cond.methodLink RJ2 96 yJ2_checkBoundsBeginEnd_d044e ∈ WS := WS_in (tb_3 (List.mem_of_getElem? (i := 23) (by decide +kernel))) rfl
theorem st_yJ2_checkBoundsBeginEnd_d044e : Cond.static yJ2_checkBoundsBeginEnd_d044e ∈ WS := WS_in (tb_3 (List.mem_of_getElem? (i := 24) (by decide +kernel))) rfl
theorem co_yJ2_checkBoundsBeginEnd_d044e : Cond.code yJ2_checkBoundsBeginEnd_d044e cJ2_checkBoundsBeginEnd_d044e 3 none ∈ WS := WS_in (tb_3 (List.mem_of_getElem? (i := 25) (by decide +kernel))) rfl
theorem mk_J2_48 : Cond.methodLink RJ2 48 yJ2_length_9d52b ∈ WS := WS_in (tb_3 (List.mem_of_getElem? (i := 26) (by decide +kernel))) rfl
theorem st_yJ2_length_9d52b : Cond.static yJ2_length_9d52b ∈ WS := WS_in (tb_3 (List.mem_of_getElem? (i := 27) (by decide +kernel))) rfl
theorem co_yJ2_length_9d52b : Cond.code yJ2_length_9d52b cJ2_length_9d52b 1 (some .int) ∈ WS := WS_in (tb_3 (List.mem_of_getElem? (i := 28) (by decide +kernel))) rfl
theorem mk_J2_241 : Cond.methodLink RJ2 241 yJ0_checkBoundsBeginEnd_23922 ∈ WS := WS_in (tb_3 (List.mem_of_getElem? (i := 29) (by decide +kernel))) rfl
theorem st_yJ0_checkBoundsBeginEnd_23922 : Cond.static yJ0_checkBoundsBeginEnd_23922 ∈ WS := WS_in (tb_3 (List.mem_of_getElem? (i := 30) (by decide +kernel))) rfl
theorem co_yJ0_checkBoundsBeginEnd_23922 : Cond.code yJ0_checkBoundsBeginEnd_23922 cJ0_checkBoundsBeginEnd_23922 3 none ∈ WS := WS_in (tb_3 (List.mem_of_getElem? (i := 31) (by decide +kernel))) rfl
theorem fk_J0_1053 : Cond.fieldLink RJ0 1053 "jdk/internal/util/Preconditions" "SIOOBE_FORMATTER" "Ljava/util/function/BiFunction;" ∈ WS := WS_in (tb_3 (List.mem_of_getElem? (i := 32) (by decide +kernel))) rfl
theorem mk_J0_1062 : Cond.methodLink RJ0 1062 yJ3_checkFromToIndex_8c36e ∈ WS := WS_in (tb_3 (List.mem_of_getElem? (i := 34) (by decide +kernel))) rfl
theorem st_yJ3_checkFromToIndex_8c36e : Cond.static yJ3_checkFromToIndex_8c36e ∈ WS := WS_in (tb_3 (List.mem_of_getElem? (i := 35) (by decide +kernel))) rfl
theorem co_yJ3_checkFromToIndex_8c36e : Cond.code yJ3_checkFromToIndex_8c36e cJ3_checkFromToIndex_8c36e 4 (some .int) ∈ WS := WS_in (tb_3 (List.mem_of_getElem? (i := 36) (by decide +kernel))) rfl
theorem mk_J2_244 : Cond.methodLink RJ2 244 yJ2_indexOfCharUnsafe_4cfef ∈ WS := WS_in (tb_3 (List.mem_of_getElem? (i := 37) (by decide +kernel))) rfl
theorem st_yJ2_indexOfCharUnsafe_4cfef : Cond.static yJ2_indexOfCharUnsafe_4cfef ∈ WS := WS_in (tb_3 (List.mem_of_getElem? (i := 38) (by decide +kernel))) rfl
theorem co_yJ2_indexOfCharUnsafe_4cfef : Cond.code yJ2_indexOfCharUnsafe_4cfef cJ2_indexOfCharUnsafe_4cfef 5 (some .int) ∈ WS := WS_in (tb_3 (List.mem_of_getElem? (i := 39) (by decide +kernel))) rfl
theorem mk_J2_71 : Cond.methodLink RJ2 71 yJ2_getChar_3b067 ∈ WS := WS_in (tb_3 (List.mem_of_getElem? (i := 40) (by decide +kernel))) rfl
theorem st_yJ2_getChar_3b067 : Cond.static yJ2_getChar_3b067 ∈ WS := WS_in (tb_3 (List.mem_of_getElem? (i := 41) (by decide +kernel))) rfl
theorem co_yJ2_getChar_3b067 : Cond.code yJ2_getChar_3b067 cJ2_getChar_3b067 2 (some .char) ∈ WS := WS_in (tb_3 (List.mem_of_getElem? (i := 42) (by decide +kernel))) rfl
theorem fk_J2_44 : Cond.fieldLink RJ2 44 "java/lang/StringUTF16" "$assertionsDisabled" "Z" ∈ WS := WS_in (tb_3 (List.mem_of_getElem? (i := 43) (by decide +kernel))) rfl
theorem fk_J2_59 : Cond.fieldLink RJ2 59 "java/lang/StringUTF16" "HI_BYTE_SHIFT" "I" ∈ WS := WS_in (tb_3 (List.mem_of_getElem? (i := 45) (by decide +kernel))) rfl
theorem fk_J2_63 : Cond.fieldLink RJ2 63 "java/lang/StringUTF16" "LO_BYTE_SHIFT" "I" ∈ WS := WS_in (tb_3 (List.mem_of_getElem? (i := 47) (by decide +kernel))) rfl
theorem mk_J2_232 : Cond.methodLink RJ2 232 yJ2_indexOfSupplementary_4cfef ∈ WS := WS_in (tb_3 (List.mem_of_getElem? (i := 49) (by decide +kernel))) rfl
theorem st_yJ2_indexOfSupplementary_4cfef : Cond.static yJ2_indexOfSupplementary_4cfef ∈ WS := WS_in (tb_3 (List.mem_of_getElem? (i := 50) (by decide +kernel))) rfl
theorem co_yJ2_indexOfSupplementary_4cfef : Cond.code yJ2_indexOfSupplementary_4cfef cJ2_indexOfSupplementary_4cfef 7 (some .int) ∈ WS := WS_in (tb_3 (List.mem_of_getElem? (i := 51) (by decide +kernel))) rfl
theorem mk_J2_164 : Cond.methodLink RJ2 164 yJ11_isValidCodePoint_9a6ad ∈ WS := WS_in (tb_3 (List.mem_of_getElem? (i := 52) (by decide +kernel))) rfl
theorem st_yJ11_isValidCodePoint_9a6ad : Cond.static yJ11_isValidCodePoint_9a6ad ∈ WS := WS_in (tb_3 (List.mem_of_getElem? (i := 53) (by decide +kernel))) rfl
theorem co_yJ11_isValidCodePoint_9a6ad : Cond.code yJ11_isValidCodePoint_9a6ad cJ11_isValidCodePoint_9a6ad 2 (some .boolean) ∈ WS := WS_in (tb_3 (List.mem_of_getElem? (i := 54) (by decide +kernel))) rfl
theorem mk_J2_157 : Cond.methodLink RJ2 157 yJ11_highSurrogate_5068e ∈ WS := WS_in (tb_3 (List.mem_of_getElem? (i := 55) (by decide +kernel))) rfl
theorem st_yJ11_highSurrogate_5068e : Cond.static yJ11_highSurrogate_5068e ∈ WS := WS_in (tb_3 (List.mem_of_getElem? (i := 56) (by decide +kernel))) rfl
end
section
theorem co_yJ11_highSurrogate_5068e : Cond.code yJ11_highSurrogate_5068e cJ11_highSurrogate_5068e 1 (some .char) ∈ WS := WS_in (tb_3 (List.mem_of_getElem? (i := 57) (by decide +kernel))) rfl
theorem kn_J11_110 : Cond.constant RJ11 110 55232 ∈ WS := WS_in (tb_3 (List.mem_of_getElem? (i := 58) (by decide +kernel))) rfl
theorem mk_J2_161 : Cond.methodLink RJ2 161 yJ11_lowSurrogate_5068e ∈ WS := WS_in (tb_3 (List.mem_of_getElem? (i := 59) (by decide +kernel))) rfl
theorem st_yJ11_lowSurrogate_5068e : Cond.static yJ11_lowSurrogate_5068e ∈ WS := WS_in (tb_3 (List.mem_of_getElem? (i := 60) (by decide +kernel))) rfl
theorem co_yJ11_lowSurrogate_5068e : Cond.code yJ11_lowSurrogate_5068e cJ11_lowSurrogate_5068e 1 (some .char) ∈ WS := WS_in (tb_3 (List.mem_of_getElem? (i := 61) (by decide +kernel))) rfl
theorem kn_J11_76 : Cond.constant RJ11 76 56320 ∈ WS := WS_in (tb_3 (List.mem_of_getElem? (i := 62) (by decide +kernel))) rfl
theorem mk_X2_80 : Cond.methodLink RX2 80 yX2_isOfProducts ∈ WS := WS_in (tb_3 (List.mem_of_getElem? (i := 63) (by decide +kernel))) rfl
theorem st_yX2_isOfProducts : Cond.static yX2_isOfProducts ∈ WS := WS_in (tb_3 (List.mem_of_getElem? (i := 64) (by decide +kernel))) rfl
theorem co_yX2_isOfProducts : Cond.code yX2_isOfProducts cX2_isOfProducts 1 (some .boolean) ∈ WS := WS_in (tb_3 (List.mem_of_getElem? (i := 65) (by decide +kernel))) rfl
theorem mk_X6_165 : Cond.methodLink RX6 165 yX1_write ∈ WS := WS_in (tb_3 (List.mem_of_getElem? (i := 66) (by decide +kernel))) rfl
theorem im_yX1_write : Cond.instanceMethod yX1_write ∈ WS := WS_in (tb_3 (List.mem_of_getElem? (i := 67) (by decide +kernel))) rfl
theorem se_yX1_write : Cond.selects RX1 yX1_write yX1_write ∈ WS := WS_in (tb_3 (List.mem_of_getElem? (i := 68) (by decide +kernel))) rfl
theorem co_yX1_write : Cond.code yX1_write cX1_write 3 none ∈ WS := WS_in (tb_3 (List.mem_of_getElem? (i := 69) (by decide +kernel))) rfl
theorem mk_X1_30 : Cond.methodLink RX1 30 arraycopyName ∈ WS := WS_in (tb_3 (List.mem_of_getElem? (i := 71) (by decide +kernel))) rfl
theorem mk_L_63 : Cond.methodLink RL 63 yX6_untell ∈ WS := WS_in (tb_3 (List.mem_of_getElem? (i := 72) (by decide +kernel))) rfl
theorem im_yX6_untell : Cond.instanceMethod yX6_untell ∈ WS := WS_in (tb_3 (List.mem_of_getElem? (i := 73) (by decide +kernel))) rfl
theorem se_yX6_untell : Cond.selects RX6 yX6_untell yX6_untell ∈ WS := WS_in (tb_3 (List.mem_of_getElem? (i := 74) (by decide +kernel))) rfl
theorem co_yX6_untell : Cond.code yX6_untell cX6_untell 3 (some .int) ∈ WS := WS_in (tb_3 (List.mem_of_getElem? (i := 75) (by decide +kernel))) rfl
theorem mk_L_67 : Cond.methodLink RL 67 yX6_law ∈ WS := WS_in (tb_3 (List.mem_of_getElem? (i := 76) (by decide +kernel))) rfl
theorem im_yX6_law : Cond.instanceMethod yX6_law ∈ WS := WS_in (tb_3 (List.mem_of_getElem? (i := 77) (by decide +kernel))) rfl
theorem se_yX6_law : Cond.selects RX6 yX6_law yX6_law ∈ WS := WS_in (tb_3 (List.mem_of_getElem? (i := 78) (by decide +kernel))) rfl
theorem co_yX6_law : Cond.code yX6_law cX6_law 5 (some .int) ∈ WS := WS_in (tb_3 (List.mem_of_getElem? (i := 79) (by decide +kernel))) rfl
theorem mk_X6_174 : Cond.methodLink RX6 174 yX0_gives ∈ WS := WS_in (tb_3 (List.mem_of_getElem? (i := 80) (by decide +kernel))) rfl
theorem mk_L_72 : Cond.methodLink RL 72 yX6_days ∈ WS := WS_in (tb_3 (List.mem_of_getElem? (i := 81) (by decide +kernel))) rfl
theorem im_yX6_days : Cond.instanceMethod yX6_days ∈ WS := WS_in (tb_3 (List.mem_of_getElem? (i := 82) (by decide +kernel))) rfl
theorem se_yX6_days : Cond.selects RX6 yX6_days yX6_days ∈ WS := WS_in (tb_3 (List.mem_of_getElem? (i := 83) (by decide +kernel))) rfl
theorem co_yX6_days : Cond.code yX6_days cX6_days 3 (some .int) ∈ WS := WS_in (tb_3 (List.mem_of_getElem? (i := 84) (by decide +kernel))) rfl
theorem mk_X6_178 : Cond.methodLink RX6 178 yX0_passDay ∈ WS := WS_in (tb_3 (List.mem_of_getElem? (i := 85) (by decide +kernel))) rfl
theorem im_yX0_passDay : Cond.instanceMethod yX0_passDay ∈ WS := WS_in (tb_3 (List.mem_of_getElem? (i := 86) (by decide +kernel))) rfl
theorem se_yX0_passDay : Cond.selects RX0 yX0_passDay yX0_passDay ∈ WS := WS_in (tb_3 (List.mem_of_getElem? (i := 87) (by decide +kernel))) rfl
theorem co_yX0_passDay : Cond.code yX0_passDay cX0_passDay 3 none ∈ WS := WS_in (tb_3 (List.mem_of_getElem? (i := 88) (by decide +kernel))) rfl
theorem mk_L_76 : Cond.methodLink RL 76 yX6_loose ∈ WS := WS_in (tb_3 (List.mem_of_getElem? (i := 89) (by decide +kernel))) rfl
theorem im_yX6_loose : Cond.instanceMethod yX6_loose ∈ WS := WS_in (tb_3 (List.mem_of_getElem? (i := 90) (by decide +kernel))) rfl
theorem se_yX6_loose : Cond.selects RX6 yX6_loose yX6_loose ∈ WS := WS_in (tb_3 (List.mem_of_getElem? (i := 91) (by decide +kernel))) rfl
theorem co_yX6_loose : Cond.code yX6_loose cX6_loose 4 (some .int) ∈ WS := WS_in (tb_3 (List.mem_of_getElem? (i := 92) (by decide +kernel))) rfl
theorem mk_X6_181 : Cond.methodLink RX6 181 yX0_passDayByDraws ∈ WS := WS_in (tb_3 (List.mem_of_getElem? (i := 93) (by decide +kernel))) rfl
theorem im_yX0_passDayByDraws : Cond.instanceMethod yX0_passDayByDraws ∈ WS := WS_in (tb_3 (List.mem_of_getElem? (i := 94) (by decide +kernel))) rfl
theorem se_yX0_passDayByDraws : Cond.selects RX0 yX0_passDayByDraws yX0_passDayByDraws ∈ WS := WS_in (tb_3 (List.mem_of_getElem? (i := 95) (by decide +kernel))) rfl
theorem co_yX0_passDayByDraws : Cond.code yX0_passDayByDraws cX0_passDayByDraws 4 (some .int) ∈ WS := WS_in (tb_3 (List.mem_of_getElem? (i := 96) (by decide +kernel))) rfl
theorem mk_X0_130 : Cond.methodLink RX0 130 yX0_draw ∈ WS := WS_in (tb_3 (List.mem_of_getElem? (i := 97) (by decide +kernel))) rfl
theorem im_yX0_draw : Cond.instanceMethod yX0_draw ∈ WS := WS_in (tb_3 (List.mem_of_getElem? (i := 99) (by decide +kernel))) rfl
theorem co_yX0_draw : Cond.code yX0_draw cX0_draw 1 (some .int) ∈ WS := WS_in (tb_3 (List.mem_of_getElem? (i := 100) (by decide +kernel))) rfl
theorem kn_X0_144 : Cond.constant RX0 144 1103515245 ∈ WS := WS_in (tb_3 (List.mem_of_getElem? (i := 101) (by decide +kernel))) rfl
theorem mk_X0_134 : Cond.methodLink RX0 134 yJ9_max_7cf53 ∈ WS := WS_in (tb_3 (List.mem_of_getElem? (i := 102) (by decide +kernel))) rfl
theorem mk_X0_137 : Cond.methodLink RX0 137 yX0_carryOver ∈ WS := WS_in (tb_3 (List.mem_of_getElem? (i := 103) (by decide +kernel))) rfl
theorem mk_X0_141 : Cond.methodLink RX0 141 yX0_passDay ∈ WS := WS_in (tb_3 (List.mem_of_getElem? (i := 104) (by decide +kernel))) rfl
theorem mk_L_80 : Cond.methodLink RL 80 yX6_seed ∈ WS := WS_in (tb_3 (List.mem_of_getElem? (i := 105) (by decide +kernel))) rfl
theorem im_yX6_seed : Cond.instanceMethod yX6_seed ∈ WS := WS_in (tb_3 (List.mem_of_getElem? (i := 106) (by decide +kernel))) rfl
theorem se_yX6_seed : Cond.selects RX6 yX6_seed yX6_seed ∈ WS := WS_in (tb_3 (List.mem_of_getElem? (i := 107) (by decide +kernel))) rfl
theorem co_yX6_seed : Cond.code yX6_seed cX6_seed 3 (some .int) ∈ WS := WS_in (tb_3 (List.mem_of_getElem? (i := 108) (by decide +kernel))) rfl
theorem mk_L_84 : Cond.methodLink RL 84 yX6_joined ∈ WS := WS_in (tb_3 (List.mem_of_getElem? (i := 109) (by decide +kernel))) rfl
theorem im_yX6_joined : Cond.instanceMethod yX6_joined ∈ WS := WS_in (tb_3 (List.mem_of_getElem? (i := 110) (by decide +kernel))) rfl
theorem se_yX6_joined : Cond.selects RX6 yX6_joined yX6_joined ∈ WS := WS_in (tb_3 (List.mem_of_getElem? (i := 111) (by decide +kernel))) rfl
theorem co_yX6_joined : Cond.code yX6_joined cX6_joined 3 (some .int) ∈ WS := WS_in (tb_3 (List.mem_of_getElem? (i := 112) (by decide +kernel))) rfl
theorem mk_X6_190 : Cond.methodLink RX6 190 yX0_bearing ∈ WS := WS_in (tb_3 (List.mem_of_getElem? (i := 113) (by decide +kernel))) rfl
theorem im_yX0_bearing : Cond.instanceMethod yX0_bearing ∈ WS := WS_in (tb_3 (List.mem_of_getElem? (i := 114) (by decide +kernel))) rfl
theorem se_yX0_bearing : Cond.selects RX0 yX0_bearing yX0_bearing ∈ WS := WS_in (tb_3 (List.mem_of_getElem? (i := 115) (by decide +kernel))) rfl
theorem co_yX0_bearing : Cond.code yX0_bearing cX0_bearing 4 (some .int) ∈ WS := WS_in (tb_3 (List.mem_of_getElem? (i := 116) (by decide +kernel))) rfl
theorem mk_X6_193 : Cond.methodLink RX6 193 yX0_reachOver ∈ WS := WS_in (tb_3 (List.mem_of_getElem? (i := 117) (by decide +kernel))) rfl
theorem im_yX0_reachOver : Cond.instanceMethod yX0_reachOver ∈ WS := WS_in (tb_3 (List.mem_of_getElem? (i := 118) (by decide +kernel))) rfl
theorem se_yX0_reachOver : Cond.selects RX0 yX0_reachOver yX0_reachOver ∈ WS := WS_in (tb_3 (List.mem_of_getElem? (i := 119) (by decide +kernel))) rfl
theorem co_yX0_reachOver : Cond.code yX0_reachOver cX0_reachOver 8 (some .int) ∈ WS := WS_in (tb_3 (List.mem_of_getElem? (i := 120) (by decide +kernel))) rfl
theorem mk_X0_145 : Cond.methodLink RX0 145 yX4_ends ∈ WS := WS_in (tb_3 (List.mem_of_getElem? (i := 121) (by decide +kernel))) rfl
theorem im_yX4_ends : Cond.instanceMethod yX4_ends ∈ WS := WS_in (tb_3 (List.mem_of_getElem? (i := 122) (by decide +kernel))) rfl
theorem se_yX4_ends : Cond.selects RX4 yX4_ends yX4_ends ∈ WS := WS_in (tb_3 (List.mem_of_getElem? (i := 123) (by decide +kernel))) rfl
theorem co_yX4_ends : Cond.code yX4_ends cX4_ends 1 (some .int) ∈ WS := WS_in (tb_3 (List.mem_of_getElem? (i := 124) (by decide +kernel))) rfl
theorem mk_L_88 : Cond.methodLink RL 88 yX6_load ∈ WS := WS_in (tb_3 (List.mem_of_getElem? (i := 125) (by decide +kernel))) rfl
theorem im_yX6_load : Cond.instanceMethod yX6_load ∈ WS := WS_in (tb_3 (List.mem_of_getElem? (i := 126) (by decide +kernel))) rfl
theorem se_yX6_load : Cond.selects RX6 yX6_load yX6_load ∈ WS := WS_in (tb_3 (List.mem_of_getElem? (i := 127) (by decide +kernel))) rfl
theorem co_yX6_load : Cond.code yX6_load cX6_load 4 (some .int) ∈ WS := WS_in (tb_3 (List.mem_of_getElem? (i := 128) (by decide +kernel))) rfl
theorem mk_X6_197 : Cond.methodLink RX6 197 yX0_joins ∈ WS := WS_in (tb_3 (List.mem_of_getElem? (i := 129) (by decide +kernel))) rfl
theorem im_yX0_joins : Cond.instanceMethod yX0_joins ∈ WS := WS_in (tb_3 (List.mem_of_getElem? (i := 130) (by decide +kernel))) rfl
theorem se_yX0_joins : Cond.selects RX0 yX0_joins yX0_joins ∈ WS := WS_in (tb_3 (List.mem_of_getElem? (i := 131) (by decide +kernel))) rfl
theorem co_yX0_joins : Cond.code yX0_joins cX0_joins 4 (some .boolean) ∈ WS := WS_in (tb_3 (List.mem_of_getElem? (i := 132) (by decide +kernel))) rfl
theorem mk_X0_148 : Cond.methodLink RX0 148 yX0_reachOver ∈ WS := WS_in (tb_3 (List.mem_of_getElem? (i := 133) (by decide +kernel))) rfl
theorem mk_L_92 : Cond.methodLink RL 92 yX6_baking ∈ WS := WS_in (tb_3 (List.mem_of_getElem? (i := 134) (by decide +kernel))) rfl
theorem im_yX6_baking : Cond.instanceMethod yX6_baking ∈ WS := WS_in (tb_3 (List.mem_of_getElem? (i := 135) (by decide +kernel))) rfl
theorem se_yX6_baking : Cond.selects RX6 yX6_baking yX6_baking ∈ WS := WS_in (tb_3 (List.mem_of_getElem? (i := 136) (by decide +kernel))) rfl
theorem co_yX6_baking : Cond.code yX6_baking cX6_baking 11 (some .int) ∈ WS := WS_in (tb_3 (List.mem_of_getElem? (i := 137) (by decide +kernel))) rfl
theorem mk_X6_200 : Cond.methodLink RX6 200 yX0_takeFrom ∈ WS := WS_in (tb_3 (List.mem_of_getElem? (i := 138) (by decide +kernel))) rfl
theorem im_yX0_takeFrom : Cond.instanceMethod yX0_takeFrom ∈ WS := WS_in (tb_3 (List.mem_of_getElem? (i := 139) (by decide +kernel))) rfl
theorem se_yX0_takeFrom : Cond.selects RX0 yX0_takeFrom yX0_takeFrom ∈ WS := WS_in (tb_3 (List.mem_of_getElem? (i := 140) (by decide +kernel))) rfl
theorem co_yX0_takeFrom : Cond.code yX0_takeFrom cX0_takeFrom 3 none ∈ WS := WS_in (tb_3 (List.mem_of_getElem? (i := 141) (by decide +kernel))) rfl
theorem mk_X0_61 : Cond.methodLink RX0 61 yX4_takeFrom ∈ WS := WS_in (tb_3 (List.mem_of_getElem? (i := 142) (by decide +kernel))) rfl
theorem im_yX4_takeFrom : Cond.instanceMethod yX4_takeFrom ∈ WS := WS_in (tb_3 (List.mem_of_getElem? (i := 143) (by decide +kernel))) rfl
theorem se_yX4_takeFrom : Cond.selects RX4 yX4_takeFrom yX4_takeFrom ∈ WS := WS_in (tb_3 (List.mem_of_getElem? (i := 144) (by decide +kernel))) rfl
theorem co_yX4_takeFrom : Cond.code yX4_takeFrom cX4_takeFrom 2 none ∈ WS := WS_in (tb_3 (List.mem_of_getElem? (i := 145) (by decide +kernel))) rfl
theorem mk_X0_65 : Cond.methodLink RX0 65 yX1_takeFrom ∈ WS := WS_in (tb_3 (List.mem_of_getElem? (i := 146) (by decide +kernel))) rfl
theorem im_yX1_takeFrom : Cond.instanceMethod yX1_takeFrom ∈ WS := WS_in (tb_3 (List.mem_of_getElem? (i := 147) (by decide +kernel))) rfl
theorem se_yX1_takeFrom : Cond.selects RX1 yX1_takeFrom yX1_takeFrom ∈ WS := WS_in (tb_3 (List.mem_of_getElem? (i := 148) (by decide +kernel))) rfl
theorem co_yX1_takeFrom : Cond.code yX1_takeFrom cX1_takeFrom 2 none ∈ WS := WS_in (tb_3 (List.mem_of_getElem? (i := 149) (by decide +kernel))) rfl
theorem mk_X1_36 : Cond.methodLink RX1 36 yX1_write ∈ WS := WS_in (tb_3 (List.mem_of_getElem? (i := 150) (by decide +kernel))) rfl
theorem mk_X0_68 : Cond.methodLink RX0 68 arraycopyName ∈ WS := WS_in (tb_3 (List.mem_of_getElem? (i := 151) (by decide +kernel))) rfl
theorem mk_X6_204 : Cond.methodLink RX6 204 yX0_bakeAllAnew ∈ WS := WS_in (tb_3 (List.mem_of_getElem? (i := 152) (by decide +kernel))) rfl
theorem im_yX0_bakeAllAnew : Cond.instanceMethod yX0_bakeAllAnew ∈ WS := WS_in (tb_3 (List.mem_of_getElem? (i := 153) (by decide +kernel))) rfl
theorem se_yX0_bakeAllAnew : Cond.selects RX0 yX0_bakeAllAnew yX0_bakeAllAnew ∈ WS := WS_in (tb_3 (List.mem_of_getElem? (i := 154) (by decide +kernel))) rfl
theorem co_yX0_bakeAllAnew : Cond.code yX0_bakeAllAnew cX0_bakeAllAnew 2 none ∈ WS := WS_in (tb_3 (List.mem_of_getElem? (i := 155) (by decide +kernel))) rfl
theorem mk_X6_207 : Cond.methodLink RX6 207 yX0_flourFor ∈ WS := WS_in (tb_3 (List.mem_of_getElem? (i := 156) (by decide +kernel))) rfl
theorem im_yX0_flourFor : Cond.instanceMethod yX0_flourFor ∈ WS := WS_in (tb_3 (List.mem_of_getElem? (i := 157) (by decide +kernel))) rfl
theorem se_yX0_flourFor : Cond.selects RX0 yX0_flourFor yX0_flourFor ∈ WS := WS_in (tb_3 (List.mem_of_getElem? (i := 158) (by decide +kernel))) rfl
theorem co_yX0_flourFor : Cond.code yX0_flourFor cX0_flourFor 4 (some .int) ∈ WS := WS_in (tb_3 (List.mem_of_getElem? (i := 159) (by decide +kernel))) rfl
theorem mk_X0_151 : Cond.methodLink RX0 151 yX4_takes ∈ WS := WS_in (tb_3 (List.mem_of_getElem? (i := 160) (by decide +kernel))) rfl
theorem mk_L_96 : Cond.methodLink RL 96 yX6_eating ∈ WS := WS_in (tb_3 (List.mem_of_getElem? (i := 161) (by decide +kernel))) rfl
theorem im_yX6_eating : Cond.instanceMethod yX6_eating ∈ WS := WS_in (tb_3 (List.mem_of_getElem? (i := 162) (by decide +kernel))) rfl
theorem se_yX6_eating : Cond.selects RX6 yX6_eating yX6_eating ∈ WS := WS_in (tb_3 (List.mem_of_getElem? (i := 163) (by decide +kernel))) rfl
theorem co_yX6_eating : Cond.code yX6_eating cX6_eating 10 (some .int) ∈ WS := WS_in (tb_3 (List.mem_of_getElem? (i := 164) (by decide +kernel))) rfl
theorem mk_X6_210 : Cond.methodLink RX6 210 yJ6_bitCount_0f7a4 ∈ WS := WS_in (tb_3 (List.mem_of_getElem? (i := 165) (by decide +kernel))) rfl
theorem st_yJ6_bitCount_0f7a4 : Cond.static yJ6_bitCount_0f7a4 ∈ WS := WS_in (tb_3 (List.mem_of_getElem? (i := 166) (by decide +kernel))) rfl
theorem co_yJ6_bitCount_0f7a4 : Cond.code yJ6_bitCount_0f7a4 cJ6_bitCount_0f7a4 1 (some .int) ∈ WS := WS_in (tb_3 (List.mem_of_getElem? (i := 167) (by decide +kernel))) rfl
theorem kn_J6_265 : Cond.constant RJ6 265 1431655765 ∈ WS := WS_in (tb_3 (List.mem_of_getElem? (i := 168) (by decide +kernel))) rfl
theorem kn_J6_266 : Cond.constant RJ6 266 858993459 ∈ WS := WS_in (tb_3 (List.mem_of_getElem? (i := 169) (by decide +kernel))) rfl
theorem kn_J6_267 : Cond.constant RJ6 267 252645135 ∈ WS := WS_in (tb_3 (List.mem_of_getElem? (i := 170) (by decide +kernel))) rfl
theorem mk_L_100 : Cond.methodLink RL 100 yX6_lasts ∈ WS := WS_in (tb_3 (List.mem_of_getElem? (i := 171) (by decide +kernel))) rfl
theorem im_yX6_lasts : Cond.instanceMethod yX6_lasts ∈ WS := WS_in (tb_3 (List.mem_of_getElem? (i := 172) (by decide +kernel))) rfl
theorem se_yX6_lasts : Cond.selects RX6 yX6_lasts yX6_lasts ∈ WS := WS_in (tb_3 (List.mem_of_getElem? (i := 173) (by decide +kernel))) rfl
theorem co_yX6_lasts : Cond.code yX6_lasts cX6_lasts 5 (some .int) ∈ WS := WS_in (tb_3 (List.mem_of_getElem? (i := 174) (by decide +kernel))) rfl
theorem mk_L_104 : Cond.methodLink RL 104 yX6_then ∈ WS := WS_in (tb_3 (List.mem_of_getElem? (i := 175) (by decide +kernel))) rfl
theorem im_yX6_then : Cond.instanceMethod yX6_then ∈ WS := WS_in (tb_3 (List.mem_of_getElem? (i := 176) (by decide +kernel))) rfl
theorem se_yX6_then : Cond.selects RX6 yX6_then yX6_then ∈ WS := WS_in (tb_3 (List.mem_of_getElem? (i := 177) (by decide +kernel))) rfl
theorem co_yX6_then : Cond.code yX6_then cX6_then 4 (some .int) ∈ WS := WS_in (tb_3 (List.mem_of_getElem? (i := 178) (by decide +kernel))) rfl
theorem mk_L_108 : Cond.methodLink RL 108 yX6_odds ∈ WS := WS_in (tb_3 (List.mem_of_getElem? (i := 179) (by decide +kernel))) rfl
theorem im_yX6_odds : Cond.instanceMethod yX6_odds ∈ WS := WS_in (tb_3 (List.mem_of_getElem? (i := 180) (by decide +kernel))) rfl
theorem se_yX6_odds : Cond.selects RX6 yX6_odds yX6_odds ∈ WS := WS_in (tb_3 (List.mem_of_getElem? (i := 181) (by decide +kernel))) rfl
theorem co_yX6_odds : Cond.code yX6_odds cX6_odds 8 (some .int) ∈ WS := WS_in (tb_3 (List.mem_of_getElem? (i := 182) (by decide +kernel))) rfl
theorem mk_X6_215 : Cond.methodLink RX6 215 yX6_greatestCommon ∈ WS := WS_in (tb_3 (List.mem_of_getElem? (i := 183) (by decide +kernel))) rfl
theorem st_yX6_greatestCommon : Cond.static yX6_greatestCommon ∈ WS := WS_in (tb_3 (List.mem_of_getElem? (i := 184) (by decide +kernel))) rfl
theorem co_yX6_greatestCommon : Cond.code yX6_greatestCommon cX6_greatestCommon 3 (some .int) ∈ WS := WS_in (tb_3 (List.mem_of_getElem? (i := 185) (by decide +kernel))) rfl
theorem mk_L_112 : Cond.methodLink RL 112 yX6_fits ∈ WS := WS_in (tb_3 (List.mem_of_getElem? (i := 186) (by decide +kernel))) rfl
theorem im_yX6_fits : Cond.instanceMethod yX6_fits ∈ WS := WS_in (tb_3 (List.mem_of_getElem? (i := 187) (by decide +kernel))) rfl
theorem se_yX6_fits : Cond.selects RX6 yX6_fits yX6_fits ∈ WS := WS_in (tb_3 (List.mem_of_getElem? (i := 188) (by decide +kernel))) rfl
theorem co_yX6_fits : Cond.code yX6_fits cX6_fits 4 (some .int) ∈ WS := WS_in (tb_3 (List.mem_of_getElem? (i := 189) (by decide +kernel))) rfl
theorem mk_X6_223 : Cond.methodLink RX6 223 yX6_isSheet ∈ WS := WS_in (tb_3 (List.mem_of_getElem? (i := 190) (by decide +kernel))) rfl
theorem st_yX6_isSheet : Cond.static yX6_isSheet ∈ WS := WS_in (tb_3 (List.mem_of_getElem? (i := 191) (by decide +kernel))) rfl
theorem co_yX6_isSheet : Cond.code yX6_isSheet cX6_isSheet 1 (some .boolean) ∈ WS := WS_in (tb_3 (List.mem_of_getElem? (i := 192) (by decide +kernel))) rfl
theorem mk_X6_226 : Cond.methodLink RX6 226 yX3_isMissing ∈ WS := WS_in (tb_3 (List.mem_of_getElem? (i := 193) (by decide +kernel))) rfl
theorem im_yX3_isMissing : Cond.instanceMethod yX3_isMissing ∈ WS := WS_in (tb_3 (List.mem_of_getElem? (i := 194) (by decide +kernel))) rfl
theorem se_yX3_isMissing : Cond.selects RX3 yX3_isMissing yX3_isMissing ∈ WS := WS_in (tb_3 (List.mem_of_getElem? (i := 195) (by decide +kernel))) rfl
theorem co_yX3_isMissing : Cond.code yX3_isMissing cX3_isMissing 1 (some .boolean) ∈ WS := WS_in (tb_3 (List.mem_of_getElem? (i := 196) (by decide +kernel))) rfl
theorem mk_X6_230 : Cond.methodLink RX6 230 yX0_rightOnes ∈ WS := WS_in (tb_3 (List.mem_of_getElem? (i := 197) (by decide +kernel))) rfl
theorem im_yX0_rightOnes : Cond.instanceMethod yX0_rightOnes ∈ WS := WS_in (tb_3 (List.mem_of_getElem? (i := 198) (by decide +kernel))) rfl
theorem se_yX0_rightOnes : Cond.selects RX0 yX0_rightOnes yX0_rightOnes ∈ WS := WS_in (tb_3 (List.mem_of_getElem? (i := 199) (by decide +kernel))) rfl
theorem co_yX0_rightOnes : Cond.code yX0_rightOnes cX0_rightOnes 3 (some .int) ∈ WS := WS_in (tb_3 (List.mem_of_getElem? (i := 200) (by decide +kernel))) rfl
theorem mk_X0_159 : Cond.methodLink RX0 159 yX0_hasSpan ∈ WS := WS_in (tb_3 (List.mem_of_getElem? (i := 201) (by decide +kernel))) rfl
theorem mk_L_116 : Cond.methodLink RL 116 yX6_voice ∈ WS := WS_in (tb_3 (List.mem_of_getElem? (i := 202) (by decide +kernel))) rfl
theorem im_yX6_voice : Cond.instanceMethod yX6_voice ∈ WS := WS_in (tb_3 (List.mem_of_getElem? (i := 203) (by decide +kernel))) rfl
theorem se_yX6_voice : Cond.selects RX6 yX6_voice yX6_voice ∈ WS := WS_in (tb_3 (List.mem_of_getElem? (i := 204) (by decide +kernel))) rfl
theorem co_yX6_voice : Cond.code yX6_voice cX6_voice 5 (some .int) ∈ WS := WS_in (tb_3 (List.mem_of_getElem? (i := 205) (by decide +kernel))) rfl
theorem mk_X6_237 : Cond.methodLink RX6 237 yX5_speak ∈ WS := WS_in (tb_3 (List.mem_of_getElem? (i := 206) (by decide +kernel))) rfl
theorem im_yX5_speak : Cond.instanceMethod yX5_speak ∈ WS := WS_in (tb_3 (List.mem_of_getElem? (i := 207) (by decide +kernel))) rfl
theorem se_yX5_speak : Cond.selects RX5 yX5_speak yX5_speak ∈ WS := WS_in (tb_3 (List.mem_of_getElem? (i := 208) (by decide +kernel))) rfl
theorem co_yX5_speak : Cond.code yX5_speak cX5_speak 5 (some .int) ∈ WS := WS_in (tb_3 (List.mem_of_getElem? (i := 209) (by decide +kernel))) rfl
theorem mk_X5_36 : Cond.methodLink RX5 36 yX5_say ∈ WS := WS_in (tb_3 (List.mem_of_getElem? (i := 210) (by decide +kernel))) rfl
theorem im_yX5_say : Cond.instanceMethod yX5_say ∈ WS := WS_in (tb_3 (List.mem_of_getElem? (i := 212) (by decide +kernel))) rfl
theorem co_yX5_say : Cond.code yX5_say cX5_say 8 (some .int) ∈ WS := WS_in (tb_3 (List.mem_of_getElem? (i := 213) (by decide +kernel))) rfl
theorem mk_X5_51 : Cond.methodLink RX5 51 yX5_begin ∈ WS := WS_in (tb_3 (List.mem_of_getElem? (i := 218) (by decide +kernel))) rfl
theorem im_yX5_begin : Cond.instanceMethod yX5_begin ∈ WS := WS_in (tb_3 (List.mem_of_getElem? (i := 220) (by decide +kernel))) rfl
theorem co_yX5_begin : Cond.code yX5_begin cX5_begin 6 (some .int) ∈ WS := WS_in (tb_3 (List.mem_of_getElem? (i := 221) (by decide +kernel))) rfl
theorem mk_X5_54 : Cond.methodLink RX5 54 yX5_part ∈ WS := WS_in (tb_3 (List.mem_of_getElem? (i := 222) (by decide +kernel))) rfl
theorem im_yX5_part : Cond.instanceMethod yX5_part ∈ WS := WS_in (tb_3 (List.mem_of_getElem? (i := 224) (by decide +kernel))) rfl
theorem co_yX5_part : Cond.code yX5_part cX5_part 3 (some .int) ∈ WS := WS_in (tb_3 (List.mem_of_getElem? (i := 225) (by decide +kernel))) rfl
theorem mk_L_120 : Cond.methodLink RL 120 yX6_body ∈ WS := WS_in (tb_3 (List.mem_of_getElem? (i := 226) (by decide +kernel))) rfl
theorem im_yX6_body : Cond.instanceMethod yX6_body ∈ WS := WS_in (tb_3 (List.mem_of_getElem? (i := 227) (by decide +kernel))) rfl
theorem se_yX6_body : Cond.selects RX6 yX6_body yX6_body ∈ WS := WS_in (tb_3 (List.mem_of_getElem? (i := 228) (by decide +kernel))) rfl
theorem co_yX6_body : Cond.code yX6_body cX6_body 2 (some .int) ∈ WS := WS_in (tb_3 (List.mem_of_getElem? (i := 229) (by decide +kernel))) rfl
theorem mk_L_124 : Cond.methodLink RL 124 yX6_sheet ∈ WS := WS_in (tb_3 (List.mem_of_getElem? (i := 230) (by decide +kernel))) rfl
theorem im_yX6_sheet : Cond.instanceMethod yX6_sheet ∈ WS := WS_in (tb_3 (List.mem_of_getElem? (i := 231) (by decide +kernel))) rfl
theorem se_yX6_sheet : Cond.selects RX6 yX6_sheet yX6_sheet ∈ WS := WS_in (tb_3 (List.mem_of_getElem? (i := 232) (by decide +kernel))) rfl
theorem co_yX6_sheet : Cond.code yX6_sheet cX6_sheet 4 (some .int) ∈ WS := WS_in (tb_3 (List.mem_of_getElem? (i := 233) (by decide +kernel))) rfl
theorem mk_X6_250 : Cond.methodLink RX6 250 yX3_renew ∈ WS := WS_in (tb_3 (List.mem_of_getElem? (i := 234) (by decide +kernel))) rfl
theorem im_yX3_renew : Cond.instanceMethod yX3_renew ∈ WS := WS_in (tb_3 (List.mem_of_getElem? (i := 235) (by decide +kernel))) rfl
theorem se_yX3_renew : Cond.selects RX3 yX3_renew yX3_renew ∈ WS := WS_in (tb_3 (List.mem_of_getElem? (i := 236) (by decide +kernel))) rfl
theorem co_yX3_renew : Cond.code yX3_renew cX3_renew 4 none ∈ WS := WS_in (tb_3 (List.mem_of_getElem? (i := 237) (by decide +kernel))) rfl
theorem mk_L_128 : Cond.methodLink RL 128 yX6_put ∈ WS := WS_in (tb_3 (List.mem_of_getElem? (i := 238) (by decide +kernel))) rfl
theorem im_yX6_put : Cond.instanceMethod yX6_put ∈ WS := WS_in (tb_3 (List.mem_of_getElem? (i := 239) (by decide +kernel))) rfl
theorem se_yX6_put : Cond.selects RX6 yX6_put yX6_put ∈ WS := WS_in (tb_4 (List.mem_of_getElem? (i := 0) (by decide +kernel))) rfl
theorem co_yX6_put : Cond.code yX6_put cX6_put 5 (some .int) ∈ WS := WS_in (tb_4 (List.mem_of_getElem? (i := 1) (by decide +kernel))) rfl
theorem mk_X6_254 : Cond.methodLink RX6 254 yX3_write ∈ WS := WS_in (tb_4 (List.mem_of_getElem? (i := 2) (by decide +kernel))) rfl
theorem im_yX3_write : Cond.instanceMethod yX3_write ∈ WS := WS_in (tb_4 (List.mem_of_getElem? (i := 3) (by decide +kernel))) rfl
theorem se_yX3_write : Cond.selects RX3 yX3_write yX3_write ∈ WS := WS_in (tb_4 (List.mem_of_getElem? (i := 4) (by decide +kernel))) rfl
theorem co_yX3_write : Cond.code yX3_write cX3_write 3 none ∈ WS := WS_in (tb_4 (List.mem_of_getElem? (i := 5) (by decide +kernel))) rfl
theorem mk_L_132 : Cond.methodLink RL 132 yX6_move ∈ WS := WS_in (tb_4 (List.mem_of_getElem? (i := 6) (by decide +kernel))) rfl
theorem im_yX6_move : Cond.instanceMethod yX6_move ∈ WS := WS_in (tb_4 (List.mem_of_getElem? (i := 7) (by decide +kernel))) rfl
theorem se_yX6_move : Cond.selects RX6 yX6_move yX6_move ∈ WS := WS_in (tb_4 (List.mem_of_getElem? (i := 8) (by decide +kernel))) rfl
theorem co_yX6_move : Cond.code yX6_move cX6_move 8 (some .int) ∈ WS := WS_in (tb_4 (List.mem_of_getElem? (i := 9) (by decide +kernel))) rfl
theorem mk_X6_259 : Cond.methodLink RX6 259 yX3_hasRow ∈ WS := WS_in (tb_4 (List.mem_of_getElem? (i := 10) (by decide +kernel))) rfl
theorem im_yX3_hasRow : Cond.instanceMethod yX3_hasRow ∈ WS := WS_in (tb_4 (List.mem_of_getElem? (i := 11) (by decide +kernel))) rfl
theorem se_yX3_hasRow : Cond.selects RX3 yX3_hasRow yX3_hasRow ∈ WS := WS_in (tb_4 (List.mem_of_getElem? (i := 12) (by decide +kernel))) rfl
theorem co_yX3_hasRow : Cond.code yX3_hasRow cX3_hasRow 3 (some .boolean) ∈ WS := WS_in (tb_4 (List.mem_of_getElem? (i := 13) (by decide +kernel))) rfl
theorem mk_X6_265 : Cond.methodLink RX6 265 arraycopyName ∈ WS := WS_in (tb_4 (List.mem_of_getElem? (i := 14) (by decide +kernel))) rfl
theorem mk_L_137 : Cond.methodLink RL 137 yX6_soaks ∈ WS := WS_in (tb_4 (List.mem_of_getElem? (i := 15) (by decide +kernel))) rfl
theorem im_yX6_soaks : Cond.instanceMethod yX6_soaks ∈ WS := WS_in (tb_4 (List.mem_of_getElem? (i := 16) (by decide +kernel))) rfl
theorem se_yX6_soaks : Cond.selects RX6 yX6_soaks yX6_soaks ∈ WS := WS_in (tb_4 (List.mem_of_getElem? (i := 17) (by decide +kernel))) rfl
theorem co_yX6_soaks : Cond.code yX6_soaks cX6_soaks 5 (some .int) ∈ WS := WS_in (tb_4 (List.mem_of_getElem? (i := 18) (by decide +kernel))) rfl
theorem mk_L_141 : Cond.methodLink RL 141 yX6_judge ∈ WS := WS_in (tb_4 (List.mem_of_getElem? (i := 19) (by decide +kernel))) rfl
theorem im_yX6_judge : Cond.instanceMethod yX6_judge ∈ WS := WS_in (tb_4 (List.mem_of_getElem? (i := 20) (by decide +kernel))) rfl
theorem se_yX6_judge : Cond.selects RX6 yX6_judge yX6_judge ∈ WS := WS_in (tb_4 (List.mem_of_getElem? (i := 21) (by decide +kernel))) rfl
theorem co_yX6_judge : Cond.code yX6_judge cX6_judge 3 (some .int) ∈ WS := WS_in (tb_4 (List.mem_of_getElem? (i := 22) (by decide +kernel))) rfl
theorem mk_L_145 : Cond.methodLink RL 145 yX6_image ∈ WS := WS_in (tb_4 (List.mem_of_getElem? (i := 23) (by decide +kernel))) rfl
theorem im_yX6_image : Cond.instanceMethod yX6_image ∈ WS := WS_in (tb_4 (List.mem_of_getElem? (i := 24) (by decide +kernel))) rfl
theorem se_yX6_image : Cond.selects RX6 yX6_image yX6_image ∈ WS := WS_in (tb_4 (List.mem_of_getElem? (i := 25) (by decide +kernel))) rfl
theorem co_yX6_image : Cond.code yX6_image cX6_image 1 (some .int) ∈ WS := WS_in (tb_4 (List.mem_of_getElem? (i := 26) (by decide +kernel))) rfl
theorem mk_L_150 : Cond.methodLink RL 150 yX6_restore ∈ WS := WS_in (tb_4 (List.mem_of_getElem? (i := 27) (by decide +kernel))) rfl
theorem im_yX6_restore : Cond.instanceMethod yX6_restore ∈ WS := WS_in (tb_4 (List.mem_of_getElem? (i := 28) (by decide +kernel))) rfl
theorem se_yX6_restore : Cond.selects RX6 yX6_restore yX6_restore ∈ WS := WS_in (tb_4 (List.mem_of_getElem? (i := 29) (by decide +kernel))) rfl
theorem co_yX6_restore : Cond.code yX6_restore cX6_restore 1 (some .int) ∈ WS := WS_in (tb_4 (List.mem_of_getElem? (i := 30) (by decide +kernel))) rfl
theorem mk_L_154 : Cond.methodLink RL 154 yX6_tell ∈ WS := WS_in (tb_4 (List.mem_of_getElem? (i := 31) (by decide +kernel))) rfl
theorem im_yX6_tell : Cond.instanceMethod yX6_tell ∈ WS := WS_in (tb_4 (List.mem_of_getElem? (i := 32) (by decide +kernel))) rfl
theorem se_yX6_tell : Cond.selects RX6 yX6_tell yX6_tell ∈ WS := WS_in (tb_4 (List.mem_of_getElem? (i := 33) (by decide +kernel))) rfl
theorem co_yX6_tell : Cond.code yX6_tell cX6_tell 2 (some .int) ∈ WS := WS_in (tb_4 (List.mem_of_getElem? (i := 34) (by decide +kernel))) rfl
theorem mk_L_158 : Cond.methodLink RL 158 yX6_check ∈ WS := WS_in (tb_4 (List.mem_of_getElem? (i := 35) (by decide +kernel))) rfl
theorem im_yX6_check : Cond.instanceMethod yX6_check ∈ WS := WS_in (tb_4 (List.mem_of_getElem? (i := 36) (by decide +kernel))) rfl
theorem se_yX6_check : Cond.selects RX6 yX6_check yX6_check ∈ WS := WS_in (tb_4 (List.mem_of_getElem? (i := 37) (by decide +kernel))) rfl
theorem co_yX6_check : Cond.code yX6_check cX6_check 3 (some .int) ∈ WS := WS_in (tb_4 (List.mem_of_getElem? (i := 38) (by decide +kernel))) rfl
theorem mk_L_162 : Cond.methodLink RL 162 yX6_count ∈ WS := WS_in (tb_4 (List.mem_of_getElem? (i := 39) (by decide +kernel))) rfl
theorem im_yX6_count : Cond.instanceMethod yX6_count ∈ WS := WS_in (tb_4 (List.mem_of_getElem? (i := 40) (by decide +kernel))) rfl
theorem se_yX6_count : Cond.selects RX6 yX6_count yX6_count ∈ WS := WS_in (tb_4 (List.mem_of_getElem? (i := 41) (by decide +kernel))) rfl
theorem co_yX6_count : Cond.code yX6_count cX6_count 2 (some .int) ∈ WS := WS_in (tb_4 (List.mem_of_getElem? (i := 42) (by decide +kernel))) rfl
theorem mk_L_166 : Cond.methodLink RL 166 yX6_told ∈ WS := WS_in (tb_4 (List.mem_of_getElem? (i := 43) (by decide +kernel))) rfl
theorem im_yX6_told : Cond.instanceMethod yX6_told ∈ WS := WS_in (tb_4 (List.mem_of_getElem? (i := 44) (by decide +kernel))) rfl
theorem se_yX6_told : Cond.selects RX6 yX6_told yX6_told ∈ WS := WS_in (tb_4 (List.mem_of_getElem? (i := 45) (by decide +kernel))) rfl
theorem co_yX6_told : Cond.code yX6_told cX6_told 2 (some .int) ∈ WS := WS_in (tb_4 (List.mem_of_getElem? (i := 46) (by decide +kernel))) rfl
theorem ck_L_10 : Cond.classLink RL 10 RX7 ∈ WS := WS_in (tb_4 (List.mem_of_getElem? (i := 47) (by decide +kernel))) rfl
theorem it_X7 : Cond.instantiable RX7 21 ∈ WS := WS_in (tb_4 (List.mem_of_getElem? (i := 48) (by decide +kernel))) rfl
theorem mk_L_12 : Cond.methodLink RL 12 yX7_init ∈ WS := WS_in (tb_4 (List.mem_of_getElem? (i := 49) (by decide +kernel))) rfl
theorem im_yX7_init : Cond.instanceMethod yX7_init ∈ WS := WS_in (tb_4 (List.mem_of_getElem? (i := 50) (by decide +kernel))) rfl
theorem co_yX7_init : Cond.code yX7_init cX7_init 1 none ∈ WS := WS_in (tb_4 (List.mem_of_getElem? (i := 51) (by decide +kernel))) rfl
theorem mk_X7_3 : Cond.methodLink RX7 3 objectInit ∈ WS := WS_in (tb_4 (List.mem_of_getElem? (i := 52) (by decide +kernel))) rfl
theorem fk_X7_9 : Cond.fieldLink RX7 9 "BreadSpansModel" "row" "[I" ∈ WS := WS_in (tb_4 (List.mem_of_getElem? (i := 53) (by decide +kernel))) rfl
theorem fk_X7_13 : Cond.fieldLink RX7 13 "BreadSpansModel" "kept" "[I" ∈ WS := WS_in (tb_4 (List.mem_of_getElem? (i := 54) (by decide +kernel))) rfl
theorem fk_X7_16 : Cond.fieldLink RX7 16 "BreadSpansModel" "before" "[I" ∈ WS := WS_in (tb_4 (List.mem_of_getElem? (i := 55) (by decide +kernel))) rfl
theorem fk_X7_264 : Cond.fieldLink RX7 264 "BreadSpansModel" "images" "I" ∈ WS := WS_in (tb_4 (List.mem_of_getElem? (i := 56) (by decide +kernel))) rfl
theorem fk_X7_19 : Cond.fieldLink RX7 19 "BreadSpansModel" "errors" "[I" ∈ WS := WS_in (tb_4 (List.mem_of_getElem? (i := 57) (by decide +kernel))) rfl
theorem fk_X7_22 : Cond.fieldLink RX7 22 "BreadSpansModel" "bitsOf" "[I" ∈ WS := WS_in (tb_4 (List.mem_of_getElem? (i := 58) (by decide +kernel))) rfl
theorem fk_X7_25 : Cond.fieldLink RX7 25 "BreadSpansModel" "sizeOf" "[I" ∈ WS := WS_in (tb_4 (List.mem_of_getElem? (i := 59) (by decide +kernel))) rfl
theorem fk_X7_28 : Cond.fieldLink RX7 28 "BreadSpansModel" "cells" "[I" ∈ WS := WS_in (tb_4 (List.mem_of_getElem? (i := 60) (by decide +kernel))) rfl
theorem fk_X7_31 : Cond.fieldLink RX7 31 "BreadSpansModel" "act" "[I" ∈ WS := WS_in (tb_4 (List.mem_of_getElem? (i := 61) (by decide +kernel))) rfl
theorem fk_X7_34 : Cond.fieldLink RX7 34 "BreadSpansModel" "with" "[I" ∈ WS := WS_in (tb_4 (List.mem_of_getElem? (i := 62) (by decide +kernel))) rfl
theorem fk_X7_37 : Cond.fieldLink RX7 37 "BreadSpansModel" "facts" "[I" ∈ WS := WS_in (tb_4 (List.mem_of_getElem? (i := 63) (by decide +kernel))) rfl
theorem fk_X7_40 : Cond.fieldLink RX7 40 "BreadSpansModel" "pile" "[I" ∈ WS := WS_in (tb_4 (List.mem_of_getElem? (i := 64) (by decide +kernel))) rfl
theorem fk_X7_121 : Cond.fieldLink RX7 121 "BreadSpansModel" "laid" "I" ∈ WS := WS_in (tb_4 (List.mem_of_getElem? (i := 65) (by decide +kernel))) rfl
theorem fk_X7_117 : Cond.fieldLink RX7 117 "BreadSpansModel" "here" "I" ∈ WS := WS_in (tb_4 (List.mem_of_getElem? (i := 66) (by decide +kernel))) rfl
theorem fk_X7_139 : Cond.fieldLink RX7 139 "BreadSpansModel" "opened" "I" ∈ WS := WS_in (tb_4 (List.mem_of_getElem? (i := 67) (by decide +kernel))) rfl
theorem fk_X7_131 : Cond.fieldLink RX7 131 "BreadSpansModel" "bad" "Z" ∈ WS := WS_in (tb_4 (List.mem_of_getElem? (i := 68) (by decide +kernel))) rfl
theorem fk_X7_124 : Cond.fieldLink RX7 124 "BreadSpansModel" "using" "I" ∈ WS := WS_in (tb_4 (List.mem_of_getElem? (i := 69) (by decide +kernel))) rfl
theorem fk_X7_43 : Cond.fieldLink RX7 43 "BreadSpansModel" "bearing" "[I" ∈ WS := WS_in (tb_4 (List.mem_of_getElem? (i := 70) (by decide +kernel))) rfl
theorem fk_X7_46 : Cond.fieldLink RX7 46 "BreadSpansModel" "trace" "[I" ∈ WS := WS_in (tb_4 (List.mem_of_getElem? (i := 71) (by decide +kernel))) rfl
theorem fk_X7_217 : Cond.fieldLink RX7 217 "BreadSpansModel" "traced" "I" ∈ WS := WS_in (tb_4 (List.mem_of_getElem? (i := 72) (by decide +kernel))) rfl
theorem fk_X7_244 : Cond.fieldLink RX7 244 "BreadSpansModel" "isParted" "Z" ∈ WS := WS_in (tb_4 (List.mem_of_getElem? (i := 73) (by decide +kernel))) rfl
theorem mk_L_17 : Cond.methodLink RL 17 yX7_span ∈ WS := WS_in (tb_4 (List.mem_of_getElem? (i := 117) (by decide +kernel))) rfl
theorem im_yX7_span : Cond.instanceMethod yX7_span ∈ WS := WS_in (tb_4 (List.mem_of_getElem? (i := 118) (by decide +kernel))) rfl
theorem se_yX7_span : Cond.selects RX7 yX7_span yX7_span ∈ WS := WS_in (tb_4 (List.mem_of_getElem? (i := 119) (by decide +kernel))) rfl
theorem co_yX7_span : Cond.code yX7_span cX7_span 5 (some .int) ∈ WS := WS_in (tb_4 (List.mem_of_getElem? (i := 120) (by decide +kernel))) rfl
theorem mk_X7_73 : Cond.methodLink RX7 73 yX7_isKm ∈ WS := WS_in (tb_4 (List.mem_of_getElem? (i := 121) (by decide +kernel))) rfl
theorem st_yX7_isKm : Cond.static yX7_isKm ∈ WS := WS_in (tb_4 (List.mem_of_getElem? (i := 122) (by decide +kernel))) rfl
theorem co_yX7_isKm : Cond.code yX7_isKm cX7_isKm 1 (some .boolean) ∈ WS := WS_in (tb_4 (List.mem_of_getElem? (i := 123) (by decide +kernel))) rfl
theorem mk_X7_54 : Cond.methodLink RX7 54 yX7_in ∈ WS := WS_in (tb_4 (List.mem_of_getElem? (i := 124) (by decide +kernel))) rfl
theorem st_yX7_in : Cond.static yX7_in ∈ WS := WS_in (tb_4 (List.mem_of_getElem? (i := 125) (by decide +kernel))) rfl
theorem co_yX7_in : Cond.code yX7_in cX7_in 3 (some .boolean) ∈ WS := WS_in (tb_4 (List.mem_of_getElem? (i := 126) (by decide +kernel))) rfl
theorem mk_X7_76 : Cond.methodLink RX7 76 yX7_areTwo ∈ WS := WS_in (tb_4 (List.mem_of_getElem? (i := 127) (by decide +kernel))) rfl
theorem st_yX7_areTwo : Cond.static yX7_areTwo ∈ WS := WS_in (tb_4 (List.mem_of_getElem? (i := 128) (by decide +kernel))) rfl
theorem co_yX7_areTwo : Cond.code yX7_areTwo cX7_areTwo 2 (some .boolean) ∈ WS := WS_in (tb_4 (List.mem_of_getElem? (i := 129) (by decide +kernel))) rfl
theorem mk_X7_58 : Cond.methodLink RX7 58 yX7_isPlace ∈ WS := WS_in (tb_4 (List.mem_of_getElem? (i := 130) (by decide +kernel))) rfl
theorem st_yX7_isPlace : Cond.static yX7_isPlace ∈ WS := WS_in (tb_4 (List.mem_of_getElem? (i := 131) (by decide +kernel))) rfl
theorem co_yX7_isPlace : Cond.code yX7_isPlace cX7_isPlace 1 (some .boolean) ∈ WS := WS_in (tb_4 (List.mem_of_getElem? (i := 132) (by decide +kernel))) rfl
theorem kn_X7_80 : Cond.constant RX7 80 (-1000000001) ∈ WS := WS_in (tb_4 (List.mem_of_getElem? (i := 133) (by decide +kernel))) rfl
theorem mk_X7_81 : Cond.methodLink RX7 81 yX7_error ∈ WS := WS_in (tb_4 (List.mem_of_getElem? (i := 134) (by decide +kernel))) rfl
theorem im_yX7_error : Cond.instanceMethod yX7_error ∈ WS := WS_in (tb_4 (List.mem_of_getElem? (i := 136) (by decide +kernel))) rfl
theorem co_yX7_error : Cond.code yX7_error cX7_error 2 (some .int) ∈ WS := WS_in (tb_4 (List.mem_of_getElem? (i := 137) (by decide +kernel))) rfl
theorem kn_X7_49 : Cond.constant RX7 49 (-1000000000) ∈ WS := WS_in (tb_4 (List.mem_of_getElem? (i := 138) (by decide +kernel))) rfl
theorem kn_X7_85 : Cond.constant RX7 85 (-1000000004) ∈ WS := WS_in (tb_4 (List.mem_of_getElem? (i := 139) (by decide +kernel))) rfl
theorem mk_X7_86 : Cond.methodLink RX7 86 yX7_lets ∈ WS := WS_in (tb_4 (List.mem_of_getElem? (i := 140) (by decide +kernel))) rfl
theorem im_yX7_lets : Cond.instanceMethod yX7_lets ∈ WS := WS_in (tb_4 (List.mem_of_getElem? (i := 142) (by decide +kernel))) rfl
theorem co_yX7_lets : Cond.code yX7_lets cX7_lets 4 none ∈ WS := WS_in (tb_4 (List.mem_of_getElem? (i := 143) (by decide +kernel))) rfl
theorem mk_L_22 : Cond.methodLink RL 22 yX7_spanIs ∈ WS := WS_in (tb_4 (List.mem_of_getElem? (i := 144) (by decide +kernel))) rfl
theorem im_yX7_spanIs : Cond.instanceMethod yX7_spanIs ∈ WS := WS_in (tb_4 (List.mem_of_getElem? (i := 145) (by decide +kernel))) rfl
theorem se_yX7_spanIs : Cond.selects RX7 yX7_spanIs yX7_spanIs ∈ WS := WS_in (tb_4 (List.mem_of_getElem? (i := 146) (by decide +kernel))) rfl
theorem co_yX7_spanIs : Cond.code yX7_spanIs cX7_spanIs 3 (some .int) ∈ WS := WS_in (tb_4 (List.mem_of_getElem? (i := 147) (by decide +kernel))) rfl
theorem mk_X7_90 : Cond.methodLink RX7 90 yX7_isSpan ∈ WS := WS_in (tb_4 (List.mem_of_getElem? (i := 148) (by decide +kernel))) rfl
theorem im_yX7_isSpan : Cond.instanceMethod yX7_isSpan ∈ WS := WS_in (tb_4 (List.mem_of_getElem? (i := 150) (by decide +kernel))) rfl
theorem co_yX7_isSpan : Cond.code yX7_isSpan cX7_isSpan 2 (some .boolean) ∈ WS := WS_in (tb_4 (List.mem_of_getElem? (i := 151) (by decide +kernel))) rfl
theorem mk_X7_62 : Cond.methodLink RX7 62 yX7_of ∈ WS := WS_in (tb_4 (List.mem_of_getElem? (i := 152) (by decide +kernel))) rfl
theorem im_yX7_of : Cond.instanceMethod yX7_of ∈ WS := WS_in (tb_4 (List.mem_of_getElem? (i := 154) (by decide +kernel))) rfl
theorem co_yX7_of : Cond.code yX7_of cX7_of 3 (some .int) ∈ WS := WS_in (tb_4 (List.mem_of_getElem? (i := 155) (by decide +kernel))) rfl
theorem mk_X7_93 : Cond.methodLink RX7 93 yX7_bearsOf ∈ WS := WS_in (tb_4 (List.mem_of_getElem? (i := 156) (by decide +kernel))) rfl
theorem im_yX7_bearsOf : Cond.instanceMethod yX7_bearsOf ∈ WS := WS_in (tb_4 (List.mem_of_getElem? (i := 158) (by decide +kernel))) rfl
theorem co_yX7_bearsOf : Cond.code yX7_bearsOf cX7_bearsOf 2 (some .int) ∈ WS := WS_in (tb_4 (List.mem_of_getElem? (i := 159) (by decide +kernel))) rfl
theorem mk_X7_70 : Cond.methodLink RX7 70 yX7_bearsBy ∈ WS := WS_in (tb_4 (List.mem_of_getElem? (i := 160) (by decide +kernel))) rfl
theorem im_yX7_bearsBy : Cond.instanceMethod yX7_bearsBy ∈ WS := WS_in (tb_4 (List.mem_of_getElem? (i := 162) (by decide +kernel))) rfl
theorem co_yX7_bearsBy : Cond.code yX7_bearsBy cX7_bearsBy 7 (some .int) ∈ WS := WS_in (tb_4 (List.mem_of_getElem? (i := 163) (by decide +kernel))) rfl
theorem mk_X7_66 : Cond.methodLink RX7 66 yX7_held ∈ WS := WS_in (tb_4 (List.mem_of_getElem? (i := 164) (by decide +kernel))) rfl
theorem st_yX7_held : Cond.static yX7_held ∈ WS := WS_in (tb_4 (List.mem_of_getElem? (i := 165) (by decide +kernel))) rfl
theorem co_yX7_held : Cond.code yX7_held cX7_held 3 (some .int) ∈ WS := WS_in (tb_4 (List.mem_of_getElem? (i := 166) (by decide +kernel))) rfl
theorem mk_X7_96 : Cond.methodLink RX7 96 yX7_takesOf ∈ WS := WS_in (tb_4 (List.mem_of_getElem? (i := 167) (by decide +kernel))) rfl
theorem im_yX7_takesOf : Cond.instanceMethod yX7_takesOf ∈ WS := WS_in (tb_4 (List.mem_of_getElem? (i := 169) (by decide +kernel))) rfl
theorem co_yX7_takesOf : Cond.code yX7_takesOf cX7_takesOf 3 (some .int) ∈ WS := WS_in (tb_4 (List.mem_of_getElem? (i := 170) (by decide +kernel))) rfl
theorem mk_L_26 : Cond.methodLink RL 26 yX7_become ∈ WS := WS_in (tb_4 (List.mem_of_getElem? (i := 171) (by decide +kernel))) rfl
theorem im_yX7_become : Cond.instanceMethod yX7_become ∈ WS := WS_in (tb_4 (List.mem_of_getElem? (i := 172) (by decide +kernel))) rfl
theorem se_yX7_become : Cond.selects RX7 yX7_become yX7_become ∈ WS := WS_in (tb_4 (List.mem_of_getElem? (i := 173) (by decide +kernel))) rfl
theorem co_yX7_become : Cond.code yX7_become cX7_become 3 (some .int) ∈ WS := WS_in (tb_4 (List.mem_of_getElem? (i := 174) (by decide +kernel))) rfl
theorem mk_X7_99 : Cond.methodLink RX7 99 yX7_becomes ∈ WS := WS_in (tb_4 (List.mem_of_getElem? (i := 175) (by decide +kernel))) rfl
theorem im_yX7_becomes : Cond.instanceMethod yX7_becomes ∈ WS := WS_in (tb_4 (List.mem_of_getElem? (i := 177) (by decide +kernel))) rfl
theorem co_yX7_becomes : Cond.code yX7_becomes cX7_becomes 4 (some .int) ∈ WS := WS_in (tb_4 (List.mem_of_getElem? (i := 178) (by decide +kernel))) rfl
theorem mk_L_30 : Cond.methodLink RL 30 yX7_as ∈ WS := WS_in (tb_4 (List.mem_of_getElem? (i := 179) (by decide +kernel))) rfl
theorem im_yX7_as : Cond.instanceMethod yX7_as ∈ WS := WS_in (tb_4 (List.mem_of_getElem? (i := 180) (by decide +kernel))) rfl
theorem se_yX7_as : Cond.selects RX7 yX7_as yX7_as ∈ WS := WS_in (tb_4 (List.mem_of_getElem? (i := 181) (by decide +kernel))) rfl
theorem co_yX7_as : Cond.code yX7_as cX7_as 5 (some .int) ∈ WS := WS_in (tb_4 (List.mem_of_getElem? (i := 182) (by decide +kernel))) rfl
theorem kn_X7_102 : Cond.constant RX7 102 (-1000000005) ∈ WS := WS_in (tb_4 (List.mem_of_getElem? (i := 183) (by decide +kernel))) rfl
theorem mk_L_34 : Cond.methodLink RL 34 yX7_soak ∈ WS := WS_in (tb_4 (List.mem_of_getElem? (i := 184) (by decide +kernel))) rfl
theorem im_yX7_soak : Cond.instanceMethod yX7_soak ∈ WS := WS_in (tb_4 (List.mem_of_getElem? (i := 185) (by decide +kernel))) rfl
theorem se_yX7_soak : Cond.selects RX7 yX7_soak yX7_soak ∈ WS := WS_in (tb_4 (List.mem_of_getElem? (i := 186) (by decide +kernel))) rfl
theorem co_yX7_soak : Cond.code yX7_soak cX7_soak 3 (some .int) ∈ WS := WS_in (tb_4 (List.mem_of_getElem? (i := 187) (by decide +kernel))) rfl
theorem mk_L_39 : Cond.methodLink RL 39 yX7_bakes ∈ WS := WS_in (tb_4 (List.mem_of_getElem? (i := 188) (by decide +kernel))) rfl
theorem im_yX7_bakes : Cond.instanceMethod yX7_bakes ∈ WS := WS_in (tb_4 (List.mem_of_getElem? (i := 189) (by decide +kernel))) rfl
theorem se_yX7_bakes : Cond.selects RX7 yX7_bakes yX7_bakes ∈ WS := WS_in (tb_4 (List.mem_of_getElem? (i := 190) (by decide +kernel))) rfl
theorem co_yX7_bakes : Cond.code yX7_bakes cX7_bakes 3 (some .int) ∈ WS := WS_in (tb_4 (List.mem_of_getElem? (i := 191) (by decide +kernel))) rfl
theorem kn_X7_103 : Cond.constant RX7 103 (-1000000003) ∈ WS := WS_in (tb_4 (List.mem_of_getElem? (i := 192) (by decide +kernel))) rfl
theorem mk_L_43 : Cond.methodLink RL 43 yX7_eat ∈ WS := WS_in (tb_4 (List.mem_of_getElem? (i := 193) (by decide +kernel))) rfl
theorem im_yX7_eat : Cond.instanceMethod yX7_eat ∈ WS := WS_in (tb_4 (List.mem_of_getElem? (i := 194) (by decide +kernel))) rfl
theorem se_yX7_eat : Cond.selects RX7 yX7_eat yX7_eat ∈ WS := WS_in (tb_4 (List.mem_of_getElem? (i := 195) (by decide +kernel))) rfl
theorem co_yX7_eat : Cond.code yX7_eat cX7_eat 2 (some .int) ∈ WS := WS_in (tb_4 (List.mem_of_getElem? (i := 196) (by decide +kernel))) rfl
theorem mk_L_47 : Cond.methodLink RL 47 yX7_store ∈ WS := WS_in (tb_4 (List.mem_of_getElem? (i := 197) (by decide +kernel))) rfl
theorem im_yX7_store : Cond.instanceMethod yX7_store ∈ WS := WS_in (tb_4 (List.mem_of_getElem? (i := 198) (by decide +kernel))) rfl
theorem se_yX7_store : Cond.selects RX7 yX7_store yX7_store ∈ WS := WS_in (tb_4 (List.mem_of_getElem? (i := 199) (by decide +kernel))) rfl
theorem co_yX7_store : Cond.code yX7_store cX7_store 4 (some .int) ∈ WS := WS_in (tb_4 (List.mem_of_getElem? (i := 200) (by decide +kernel))) rfl
theorem mk_L_51 : Cond.methodLink RL 51 yX7_cross ∈ WS := WS_in (tb_4 (List.mem_of_getElem? (i := 201) (by decide +kernel))) rfl
theorem im_yX7_cross : Cond.instanceMethod yX7_cross ∈ WS := WS_in (tb_4 (List.mem_of_getElem? (i := 202) (by decide +kernel))) rfl
theorem se_yX7_cross : Cond.selects RX7 yX7_cross yX7_cross ∈ WS := WS_in (tb_4 (List.mem_of_getElem? (i := 203) (by decide +kernel))) rfl
theorem co_yX7_cross : Cond.code yX7_cross cX7_cross 3 (some .int) ∈ WS := WS_in (tb_4 (List.mem_of_getElem? (i := 204) (by decide +kernel))) rfl
theorem mk_X7_109 : Cond.methodLink RX7 109 yX7_isLoad ∈ WS := WS_in (tb_4 (List.mem_of_getElem? (i := 205) (by decide +kernel))) rfl
theorem st_yX7_isLoad : Cond.static yX7_isLoad ∈ WS := WS_in (tb_4 (List.mem_of_getElem? (i := 206) (by decide +kernel))) rfl
theorem co_yX7_isLoad : Cond.code yX7_isLoad cX7_isLoad 1 (some .boolean) ∈ WS := WS_in (tb_4 (List.mem_of_getElem? (i := 207) (by decide +kernel))) rfl
theorem mk_X7_112 : Cond.methodLink RX7 112 yX7_crosses ∈ WS := WS_in (tb_4 (List.mem_of_getElem? (i := 208) (by decide +kernel))) rfl
theorem im_yX7_crosses : Cond.instanceMethod yX7_crosses ∈ WS := WS_in (tb_4 (List.mem_of_getElem? (i := 210) (by decide +kernel))) rfl
theorem co_yX7_crosses : Cond.code yX7_crosses cX7_crosses 5 (some .int) ∈ WS := WS_in (tb_4 (List.mem_of_getElem? (i := 211) (by decide +kernel))) rfl
theorem kn_X7_104 : Cond.constant RX7 104 99999 ∈ WS := WS_in (tb_4 (List.mem_of_getElem? (i := 212) (by decide +kernel))) rfl
theorem mk_X7_105 : Cond.methodLink RX7 105 yX7_gives ∈ WS := WS_in (tb_4 (List.mem_of_getElem? (i := 213) (by decide +kernel))) rfl
theorem im_yX7_gives : Cond.instanceMethod yX7_gives ∈ WS := WS_in (tb_4 (List.mem_of_getElem? (i := 215) (by decide +kernel))) rfl
theorem co_yX7_gives : Cond.code yX7_gives cX7_gives 7 (some .int) ∈ WS := WS_in (tb_4 (List.mem_of_getElem? (i := 216) (by decide +kernel))) rfl
theorem mk_X7_173 : Cond.methodLink RX7 173 yX7_works ∈ WS := WS_in (tb_4 (List.mem_of_getElem? (i := 217) (by decide +kernel))) rfl
theorem im_yX7_works : Cond.instanceMethod yX7_works ∈ WS := WS_in (tb_4 (List.mem_of_getElem? (i := 219) (by decide +kernel))) rfl
theorem co_yX7_works : Cond.code yX7_works cX7_works 5 (some .int) ∈ WS := WS_in (tb_4 (List.mem_of_getElem? (i := 220) (by decide +kernel))) rfl
theorem mk_X7_170 : Cond.methodLink RX7 170 yX7_twoOf ∈ WS := WS_in (tb_4 (List.mem_of_getElem? (i := 221) (by decide +kernel))) rfl
theorem st_yX7_twoOf : Cond.static yX7_twoOf ∈ WS := WS_in (tb_4 (List.mem_of_getElem? (i := 222) (by decide +kernel))) rfl
theorem co_yX7_twoOf : Cond.code yX7_twoOf cX7_twoOf 3 (some .int) ∈ WS := WS_in (tb_4 (List.mem_of_getElem? (i := 223) (by decide +kernel))) rfl
theorem mk_L_58 : Cond.methodLink RL 58 yX7_feed ∈ WS := WS_in (tb_4 (List.mem_of_getElem? (i := 224) (by decide +kernel))) rfl
theorem im_yX7_feed : Cond.instanceMethod yX7_feed ∈ WS := WS_in (tb_4 (List.mem_of_getElem? (i := 225) (by decide +kernel))) rfl
theorem se_yX7_feed : Cond.selects RX7 yX7_feed yX7_feed ∈ WS := WS_in (tb_4 (List.mem_of_getElem? (i := 226) (by decide +kernel))) rfl
theorem co_yX7_feed : Cond.code yX7_feed cX7_feed 5 (some .int) ∈ WS := WS_in (tb_4 (List.mem_of_getElem? (i := 227) (by decide +kernel))) rfl
theorem kn_X7_115 : Cond.constantLong RX7 115 255 ∈ WS := WS_in (tb_4 (List.mem_of_getElem? (i := 228) (by decide +kernel))) rfl
theorem mk_L_62 : Cond.methodLink RL 62 yX7_text ∈ WS := WS_in (tb_4 (List.mem_of_getElem? (i := 229) (by decide +kernel))) rfl
theorem im_yX7_text : Cond.instanceMethod yX7_text ∈ WS := WS_in (tb_4 (List.mem_of_getElem? (i := 230) (by decide +kernel))) rfl
theorem se_yX7_text : Cond.selects RX7 yX7_text yX7_text ∈ WS := WS_in (tb_4 (List.mem_of_getElem? (i := 231) (by decide +kernel))) rfl
theorem co_yX7_text : Cond.code yX7_text cX7_text 4 (some .int) ∈ WS := WS_in (tb_4 (List.mem_of_getElem? (i := 232) (by decide +kernel))) rfl
theorem mk_X7_145 : Cond.methodLink RX7 145 yX7_any ∈ WS := WS_in (tb_4 (List.mem_of_getElem? (i := 233) (by decide +kernel))) rfl
theorem im_yX7_any : Cond.instanceMethod yX7_any ∈ WS := WS_in (tb_4 (List.mem_of_getElem? (i := 235) (by decide +kernel))) rfl
theorem co_yX7_any : Cond.code yX7_any cX7_any 1 none ∈ WS := WS_in (tb_4 (List.mem_of_getElem? (i := 236) (by decide +kernel))) rfl
theorem mk_X7_167 : Cond.methodLink RX7 167 yX7_all ∈ WS := WS_in (tb_4 (List.mem_of_getElem? (i := 237) (by decide +kernel))) rfl
theorem im_yX7_all : Cond.instanceMethod yX7_all ∈ WS := WS_in (tb_4 (List.mem_of_getElem? (i := 239) (by decide +kernel))) rfl
theorem co_yX7_all : Cond.code yX7_all cX7_all 1 none ∈ WS := WS_in (tb_5 (List.mem_of_getElem? (i := 0) (by decide +kernel))) rfl
theorem mk_X7_164 : Cond.methodLink RX7 164 yX7_compares ∈ WS := WS_in (tb_5 (List.mem_of_getElem? (i := 1) (by decide +kernel))) rfl
theorem im_yX7_compares : Cond.instanceMethod yX7_compares ∈ WS := WS_in (tb_5 (List.mem_of_getElem? (i := 3) (by decide +kernel))) rfl
theorem co_yX7_compares : Cond.code yX7_compares cX7_compares 2 none ∈ WS := WS_in (tb_5 (List.mem_of_getElem? (i := 4) (by decide +kernel))) rfl
theorem mk_X7_161 : Cond.methodLink RX7 161 yX7_sum ∈ WS := WS_in (tb_5 (List.mem_of_getElem? (i := 5) (by decide +kernel))) rfl
theorem im_yX7_sum : Cond.instanceMethod yX7_sum ∈ WS := WS_in (tb_5 (List.mem_of_getElem? (i := 7) (by decide +kernel))) rfl
theorem co_yX7_sum : Cond.code yX7_sum cX7_sum 2 none ∈ WS := WS_in (tb_5 (List.mem_of_getElem? (i := 8) (by decide +kernel))) rfl
theorem mk_X7_158 : Cond.methodLink RX7 158 yX7_times ∈ WS := WS_in (tb_5 (List.mem_of_getElem? (i := 9) (by decide +kernel))) rfl
theorem im_yX7_times : Cond.instanceMethod yX7_times ∈ WS := WS_in (tb_5 (List.mem_of_getElem? (i := 11) (by decide +kernel))) rfl
theorem co_yX7_times : Cond.code yX7_times cX7_times 2 none ∈ WS := WS_in (tb_5 (List.mem_of_getElem? (i := 12) (by decide +kernel))) rfl
theorem mk_X7_142 : Cond.methodLink RX7 142 yX7_one ∈ WS := WS_in (tb_5 (List.mem_of_getElem? (i := 13) (by decide +kernel))) rfl
theorem im_yX7_one : Cond.instanceMethod yX7_one ∈ WS := WS_in (tb_5 (List.mem_of_getElem? (i := 15) (by decide +kernel))) rfl
theorem co_yX7_one : Cond.code yX7_one cX7_one 3 none ∈ WS := WS_in (tb_5 (List.mem_of_getElem? (i := 16) (by decide +kernel))) rfl
theorem mk_X7_127 : Cond.methodLink RX7 127 yX7_look ∈ WS := WS_in (tb_5 (List.mem_of_getElem? (i := 17) (by decide +kernel))) rfl
theorem im_yX7_look : Cond.instanceMethod yX7_look ∈ WS := WS_in (tb_5 (List.mem_of_getElem? (i := 19) (by decide +kernel))) rfl
theorem co_yX7_look : Cond.code yX7_look cX7_look 1 (some .int) ∈ WS := WS_in (tb_5 (List.mem_of_getElem? (i := 20) (by decide +kernel))) rfl
theorem mk_X7_148 : Cond.methodLink RX7 148 yX7_nameOf ∈ WS := WS_in (tb_5 (List.mem_of_getElem? (i := 21) (by decide +kernel))) rfl
theorem im_yX7_nameOf : Cond.instanceMethod yX7_nameOf ∈ WS := WS_in (tb_5 (List.mem_of_getElem? (i := 23) (by decide +kernel))) rfl
theorem co_yX7_nameOf : Cond.code yX7_nameOf cX7_nameOf 2 (some .int) ∈ WS := WS_in (tb_5 (List.mem_of_getElem? (i := 24) (by decide +kernel))) rfl
theorem mk_X7_135 : Cond.methodLink RX7 135 yX7_step ∈ WS := WS_in (tb_5 (List.mem_of_getElem? (i := 25) (by decide +kernel))) rfl
theorem im_yX7_step : Cond.instanceMethod yX7_step ∈ WS := WS_in (tb_5 (List.mem_of_getElem? (i := 27) (by decide +kernel))) rfl
theorem co_yX7_step : Cond.code yX7_step cX7_step 3 none ∈ WS := WS_in (tb_5 (List.mem_of_getElem? (i := 28) (by decide +kernel))) rfl
theorem mk_X7_151 : Cond.methodLink RX7 151 yX7_opens ∈ WS := WS_in (tb_5 (List.mem_of_getElem? (i := 29) (by decide +kernel))) rfl
theorem im_yX7_opens : Cond.instanceMethod yX7_opens ∈ WS := WS_in (tb_5 (List.mem_of_getElem? (i := 31) (by decide +kernel))) rfl
theorem co_yX7_opens : Cond.code yX7_opens cX7_opens 2 none ∈ WS := WS_in (tb_5 (List.mem_of_getElem? (i := 32) (by decide +kernel))) rfl
theorem mk_X7_155 : Cond.methodLink RX7 155 yX7_number ∈ WS := WS_in (tb_5 (List.mem_of_getElem? (i := 33) (by decide +kernel))) rfl
theorem im_yX7_number : Cond.instanceMethod yX7_number ∈ WS := WS_in (tb_5 (List.mem_of_getElem? (i := 35) (by decide +kernel))) rfl
theorem co_yX7_number : Cond.code yX7_number cX7_number 3 none ∈ WS := WS_in (tb_5 (List.mem_of_getElem? (i := 36) (by decide +kernel))) rfl
theorem mk_L_66 : Cond.methodLink RL 66 yX7_untell ∈ WS := WS_in (tb_5 (List.mem_of_getElem? (i := 37) (by decide +kernel))) rfl
theorem im_yX7_untell : Cond.instanceMethod yX7_untell ∈ WS := WS_in (tb_5 (List.mem_of_getElem? (i := 38) (by decide +kernel))) rfl
theorem se_yX7_untell : Cond.selects RX7 yX7_untell yX7_untell ∈ WS := WS_in (tb_5 (List.mem_of_getElem? (i := 39) (by decide +kernel))) rfl
theorem co_yX7_untell : Cond.code yX7_untell cX7_untell 2 (some .int) ∈ WS := WS_in (tb_5 (List.mem_of_getElem? (i := 40) (by decide +kernel))) rfl
theorem mk_L_71 : Cond.methodLink RL 71 yX7_law ∈ WS := WS_in (tb_5 (List.mem_of_getElem? (i := 41) (by decide +kernel))) rfl
theorem im_yX7_law : Cond.instanceMethod yX7_law ∈ WS := WS_in (tb_5 (List.mem_of_getElem? (i := 42) (by decide +kernel))) rfl
theorem se_yX7_law : Cond.selects RX7 yX7_law yX7_law ∈ WS := WS_in (tb_5 (List.mem_of_getElem? (i := 43) (by decide +kernel))) rfl
theorem co_yX7_law : Cond.code yX7_law cX7_law 5 (some .int) ∈ WS := WS_in (tb_5 (List.mem_of_getElem? (i := 44) (by decide +kernel))) rfl
theorem mk_L_75 : Cond.methodLink RL 75 yX7_days ∈ WS := WS_in (tb_5 (List.mem_of_getElem? (i := 45) (by decide +kernel))) rfl
theorem im_yX7_days : Cond.instanceMethod yX7_days ∈ WS := WS_in (tb_5 (List.mem_of_getElem? (i := 46) (by decide +kernel))) rfl
theorem se_yX7_days : Cond.selects RX7 yX7_days yX7_days ∈ WS := WS_in (tb_5 (List.mem_of_getElem? (i := 47) (by decide +kernel))) rfl
theorem co_yX7_days : Cond.code yX7_days cX7_days 3 (some .int) ∈ WS := WS_in (tb_5 (List.mem_of_getElem? (i := 48) (by decide +kernel))) rfl
theorem mk_X7_176 : Cond.methodLink RX7 176 yX7_goes ∈ WS := WS_in (tb_5 (List.mem_of_getElem? (i := 49) (by decide +kernel))) rfl
theorem im_yX7_goes : Cond.instanceMethod yX7_goes ∈ WS := WS_in (tb_5 (List.mem_of_getElem? (i := 51) (by decide +kernel))) rfl
end
section
theorem co_yX7_goes : Cond.code yX7_goes cX7_goes 3 none ∈ WS := WS_in (tb_5 (List.mem_of_getElem? (i := 52) (by decide +kernel))) rfl
theorem mk_L_79 : Cond.methodLink RL 79 yX7_loose ∈ WS := WS_in (tb_5 (List.mem_of_getElem? (i := 53) (by decide +kernel))) rfl
theorem im_yX7_loose : Cond.instanceMethod yX7_loose ∈ WS := WS_in (tb_5 (List.mem_of_getElem? (i := 54) (by decide +kernel))) rfl
theorem se_yX7_loose : Cond.selects RX7 yX7_loose yX7_loose ∈ WS := WS_in (tb_5 (List.mem_of_getElem? (i := 55) (by decide +kernel))) rfl
theorem co_yX7_loose : Cond.code yX7_loose cX7_loose 4 (some .int) ∈ WS := WS_in (tb_5 (List.mem_of_getElem? (i := 56) (by decide +kernel))) rfl
theorem mk_X7_183 : Cond.methodLink RX7 183 yX7_drawn ∈ WS := WS_in (tb_5 (List.mem_of_getElem? (i := 57) (by decide +kernel))) rfl
theorem im_yX7_drawn : Cond.instanceMethod yX7_drawn ∈ WS := WS_in (tb_5 (List.mem_of_getElem? (i := 59) (by decide +kernel))) rfl
theorem co_yX7_drawn : Cond.code yX7_drawn cX7_drawn 4 (some .int) ∈ WS := WS_in (tb_5 (List.mem_of_getElem? (i := 60) (by decide +kernel))) rfl
theorem mk_X7_180 : Cond.methodLink RX7 180 yX7_draw ∈ WS := WS_in (tb_5 (List.mem_of_getElem? (i := 61) (by decide +kernel))) rfl
theorem im_yX7_draw : Cond.instanceMethod yX7_draw ∈ WS := WS_in (tb_5 (List.mem_of_getElem? (i := 63) (by decide +kernel))) rfl
theorem co_yX7_draw : Cond.code yX7_draw cX7_draw 1 (some .int) ∈ WS := WS_in (tb_5 (List.mem_of_getElem? (i := 64) (by decide +kernel))) rfl
theorem kn_X7_179 : Cond.constant RX7 179 1103515245 ∈ WS := WS_in (tb_5 (List.mem_of_getElem? (i := 65) (by decide +kernel))) rfl
theorem mk_L_83 : Cond.methodLink RL 83 yX7_seed ∈ WS := WS_in (tb_5 (List.mem_of_getElem? (i := 66) (by decide +kernel))) rfl
theorem im_yX7_seed : Cond.instanceMethod yX7_seed ∈ WS := WS_in (tb_5 (List.mem_of_getElem? (i := 67) (by decide +kernel))) rfl
theorem se_yX7_seed : Cond.selects RX7 yX7_seed yX7_seed ∈ WS := WS_in (tb_5 (List.mem_of_getElem? (i := 68) (by decide +kernel))) rfl
theorem co_yX7_seed : Cond.code yX7_seed cX7_seed 2 (some .int) ∈ WS := WS_in (tb_5 (List.mem_of_getElem? (i := 69) (by decide +kernel))) rfl
theorem mk_L_87 : Cond.methodLink RL 87 yX7_joined ∈ WS := WS_in (tb_5 (List.mem_of_getElem? (i := 70) (by decide +kernel))) rfl
theorem im_yX7_joined : Cond.instanceMethod yX7_joined ∈ WS := WS_in (tb_5 (List.mem_of_getElem? (i := 71) (by decide +kernel))) rfl
theorem se_yX7_joined : Cond.selects RX7 yX7_joined yX7_joined ∈ WS := WS_in (tb_5 (List.mem_of_getElem? (i := 72) (by decide +kernel))) rfl
theorem co_yX7_joined : Cond.code yX7_joined cX7_joined 3 (some .int) ∈ WS := WS_in (tb_5 (List.mem_of_getElem? (i := 73) (by decide +kernel))) rfl
theorem mk_X7_189 : Cond.methodLink RX7 189 yX7_findBearing ∈ WS := WS_in (tb_5 (List.mem_of_getElem? (i := 74) (by decide +kernel))) rfl
theorem im_yX7_findBearing : Cond.instanceMethod yX7_findBearing ∈ WS := WS_in (tb_5 (List.mem_of_getElem? (i := 76) (by decide +kernel))) rfl
theorem co_yX7_findBearing : Cond.code yX7_findBearing cX7_findBearing 2 none ∈ WS := WS_in (tb_5 (List.mem_of_getElem? (i := 77) (by decide +kernel))) rfl
theorem mk_X7_186 : Cond.methodLink RX7 186 yX7_joinedBy ∈ WS := WS_in (tb_5 (List.mem_of_getElem? (i := 78) (by decide +kernel))) rfl
theorem im_yX7_joinedBy : Cond.instanceMethod yX7_joinedBy ∈ WS := WS_in (tb_5 (List.mem_of_getElem? (i := 80) (by decide +kernel))) rfl
theorem co_yX7_joinedBy : Cond.code yX7_joinedBy cX7_joinedBy 7 (some .int) ∈ WS := WS_in (tb_5 (List.mem_of_getElem? (i := 81) (by decide +kernel))) rfl
theorem mk_L_91 : Cond.methodLink RL 91 yX7_load ∈ WS := WS_in (tb_5 (List.mem_of_getElem? (i := 82) (by decide +kernel))) rfl
theorem im_yX7_load : Cond.instanceMethod yX7_load ∈ WS := WS_in (tb_5 (List.mem_of_getElem? (i := 83) (by decide +kernel))) rfl
theorem se_yX7_load : Cond.selects RX7 yX7_load yX7_load ∈ WS := WS_in (tb_5 (List.mem_of_getElem? (i := 84) (by decide +kernel))) rfl
theorem co_yX7_load : Cond.code yX7_load cX7_load 4 (some .int) ∈ WS := WS_in (tb_5 (List.mem_of_getElem? (i := 85) (by decide +kernel))) rfl
theorem mk_X7_192 : Cond.methodLink RX7 192 yX7_areJoinedBy ∈ WS := WS_in (tb_5 (List.mem_of_getElem? (i := 86) (by decide +kernel))) rfl
theorem im_yX7_areJoinedBy : Cond.instanceMethod yX7_areJoinedBy ∈ WS := WS_in (tb_5 (List.mem_of_getElem? (i := 88) (by decide +kernel))) rfl
theorem co_yX7_areJoinedBy : Cond.code yX7_areJoinedBy cX7_areJoinedBy 4 (some .boolean) ∈ WS := WS_in (tb_5 (List.mem_of_getElem? (i := 89) (by decide +kernel))) rfl
theorem kn_X7_195 : Cond.constant RX7 195 (-1000000002) ∈ WS := WS_in (tb_5 (List.mem_of_getElem? (i := 90) (by decide +kernel))) rfl
theorem mk_L_95 : Cond.methodLink RL 95 yX7_baking ∈ WS := WS_in (tb_5 (List.mem_of_getElem? (i := 91) (by decide +kernel))) rfl
theorem im_yX7_baking : Cond.instanceMethod yX7_baking ∈ WS := WS_in (tb_5 (List.mem_of_getElem? (i := 92) (by decide +kernel))) rfl
theorem se_yX7_baking : Cond.selects RX7 yX7_baking yX7_baking ∈ WS := WS_in (tb_5 (List.mem_of_getElem? (i := 93) (by decide +kernel))) rfl
theorem co_yX7_baking : Cond.code yX7_baking cX7_baking 10 (some .int) ∈ WS := WS_in (tb_5 (List.mem_of_getElem? (i := 94) (by decide +kernel))) rfl
theorem mk_X7_196 : Cond.methodLink RX7 196 yX7_flourFor ∈ WS := WS_in (tb_5 (List.mem_of_getElem? (i := 95) (by decide +kernel))) rfl
theorem im_yX7_flourFor : Cond.instanceMethod yX7_flourFor ∈ WS := WS_in (tb_5 (List.mem_of_getElem? (i := 97) (by decide +kernel))) rfl
theorem co_yX7_flourFor : Cond.code yX7_flourFor cX7_flourFor 4 (some .int) ∈ WS := WS_in (tb_5 (List.mem_of_getElem? (i := 98) (by decide +kernel))) rfl
theorem mk_L_99 : Cond.methodLink RL 99 yX7_eating ∈ WS := WS_in (tb_5 (List.mem_of_getElem? (i := 99) (by decide +kernel))) rfl
theorem im_yX7_eating : Cond.instanceMethod yX7_eating ∈ WS := WS_in (tb_5 (List.mem_of_getElem? (i := 100) (by decide +kernel))) rfl
theorem se_yX7_eating : Cond.selects RX7 yX7_eating yX7_eating ∈ WS := WS_in (tb_5 (List.mem_of_getElem? (i := 101) (by decide +kernel))) rfl
theorem co_yX7_eating : Cond.code yX7_eating cX7_eating 8 (some .int) ∈ WS := WS_in (tb_5 (List.mem_of_getElem? (i := 102) (by decide +kernel))) rfl
theorem mk_X7_199 : Cond.methodLink RX7 199 yX7_bits ∈ WS := WS_in (tb_5 (List.mem_of_getElem? (i := 103) (by decide +kernel))) rfl
theorem st_yX7_bits : Cond.static yX7_bits ∈ WS := WS_in (tb_5 (List.mem_of_getElem? (i := 104) (by decide +kernel))) rfl
theorem co_yX7_bits : Cond.code yX7_bits cX7_bits 3 (some .int) ∈ WS := WS_in (tb_5 (List.mem_of_getElem? (i := 105) (by decide +kernel))) rfl
theorem mk_L_103 : Cond.methodLink RL 103 yX7_lasts ∈ WS := WS_in (tb_5 (List.mem_of_getElem? (i := 106) (by decide +kernel))) rfl
theorem im_yX7_lasts : Cond.instanceMethod yX7_lasts ∈ WS := WS_in (tb_5 (List.mem_of_getElem? (i := 107) (by decide +kernel))) rfl
theorem se_yX7_lasts : Cond.selects RX7 yX7_lasts yX7_lasts ∈ WS := WS_in (tb_5 (List.mem_of_getElem? (i := 108) (by decide +kernel))) rfl
theorem co_yX7_lasts : Cond.code yX7_lasts cX7_lasts 5 (some .int) ∈ WS := WS_in (tb_5 (List.mem_of_getElem? (i := 109) (by decide +kernel))) rfl
theorem mk_X7_202 : Cond.methodLink RX7 202 yX7_thinks ∈ WS := WS_in (tb_5 (List.mem_of_getElem? (i := 110) (by decide +kernel))) rfl
theorem im_yX7_thinks : Cond.instanceMethod yX7_thinks ∈ WS := WS_in (tb_5 (List.mem_of_getElem? (i := 112) (by decide +kernel))) rfl
theorem co_yX7_thinks : Cond.code yX7_thinks cX7_thinks 1 none ∈ WS := WS_in (tb_5 (List.mem_of_getElem? (i := 113) (by decide +kernel))) rfl
theorem mk_X7_50 : Cond.methodLink RX7 50 yX7_copyAll ∈ WS := WS_in (tb_5 (List.mem_of_getElem? (i := 114) (by decide +kernel))) rfl
theorem st_yX7_copyAll : Cond.static yX7_copyAll ∈ WS := WS_in (tb_5 (List.mem_of_getElem? (i := 115) (by decide +kernel))) rfl
theorem co_yX7_copyAll : Cond.code yX7_copyAll cX7_copyAll 3 none ∈ WS := WS_in (tb_5 (List.mem_of_getElem? (i := 116) (by decide +kernel))) rfl
theorem mk_X7_205 : Cond.methodLink RX7 205 yX7_areJoined ∈ WS := WS_in (tb_5 (List.mem_of_getElem? (i := 117) (by decide +kernel))) rfl
theorem im_yX7_areJoined : Cond.instanceMethod yX7_areJoined ∈ WS := WS_in (tb_5 (List.mem_of_getElem? (i := 119) (by decide +kernel))) rfl
theorem co_yX7_areJoined : Cond.code yX7_areJoined cX7_areJoined 4 (some .boolean) ∈ WS := WS_in (tb_5 (List.mem_of_getElem? (i := 120) (by decide +kernel))) rfl
theorem mk_X7_208 : Cond.methodLink RX7 208 yX7_putsBack ∈ WS := WS_in (tb_5 (List.mem_of_getElem? (i := 121) (by decide +kernel))) rfl
theorem im_yX7_putsBack : Cond.instanceMethod yX7_putsBack ∈ WS := WS_in (tb_5 (List.mem_of_getElem? (i := 123) (by decide +kernel))) rfl
theorem co_yX7_putsBack : Cond.code yX7_putsBack cX7_putsBack 1 none ∈ WS := WS_in (tb_5 (List.mem_of_getElem? (i := 124) (by decide +kernel))) rfl
theorem mk_L_107 : Cond.methodLink RL 107 yX7_then ∈ WS := WS_in (tb_5 (List.mem_of_getElem? (i := 125) (by decide +kernel))) rfl
theorem im_yX7_then : Cond.instanceMethod yX7_then ∈ WS := WS_in (tb_5 (List.mem_of_getElem? (i := 126) (by decide +kernel))) rfl
theorem se_yX7_then : Cond.selects RX7 yX7_then yX7_then ∈ WS := WS_in (tb_5 (List.mem_of_getElem? (i := 127) (by decide +kernel))) rfl
theorem co_yX7_then : Cond.code yX7_then cX7_then 4 (some .int) ∈ WS := WS_in (tb_5 (List.mem_of_getElem? (i := 128) (by decide +kernel))) rfl
theorem mk_L_111 : Cond.methodLink RL 111 yX7_odds ∈ WS := WS_in (tb_5 (List.mem_of_getElem? (i := 129) (by decide +kernel))) rfl
theorem im_yX7_odds : Cond.instanceMethod yX7_odds ∈ WS := WS_in (tb_5 (List.mem_of_getElem? (i := 130) (by decide +kernel))) rfl
theorem se_yX7_odds : Cond.selects RX7 yX7_odds yX7_odds ∈ WS := WS_in (tb_5 (List.mem_of_getElem? (i := 131) (by decide +kernel))) rfl
theorem co_yX7_odds : Cond.code yX7_odds cX7_odds 8 (some .int) ∈ WS := WS_in (tb_5 (List.mem_of_getElem? (i := 132) (by decide +kernel))) rfl
theorem mk_L_115 : Cond.methodLink RL 115 yX7_fits ∈ WS := WS_in (tb_5 (List.mem_of_getElem? (i := 133) (by decide +kernel))) rfl
theorem im_yX7_fits : Cond.instanceMethod yX7_fits ∈ WS := WS_in (tb_5 (List.mem_of_getElem? (i := 134) (by decide +kernel))) rfl
theorem se_yX7_fits : Cond.selects RX7 yX7_fits yX7_fits ∈ WS := WS_in (tb_5 (List.mem_of_getElem? (i := 135) (by decide +kernel))) rfl
theorem co_yX7_fits : Cond.code yX7_fits cX7_fits 4 (some .int) ∈ WS := WS_in (tb_5 (List.mem_of_getElem? (i := 136) (by decide +kernel))) rfl
theorem mk_X7_211 : Cond.methodLink RX7 211 yX7_notThere ∈ WS := WS_in (tb_5 (List.mem_of_getElem? (i := 137) (by decide +kernel))) rfl
theorem im_yX7_notThere : Cond.instanceMethod yX7_notThere ∈ WS := WS_in (tb_5 (List.mem_of_getElem? (i := 139) (by decide +kernel))) rfl
theorem co_yX7_notThere : Cond.code yX7_notThere cX7_notThere 2 (some .int) ∈ WS := WS_in (tb_5 (List.mem_of_getElem? (i := 140) (by decide +kernel))) rfl
theorem mk_X7_257 : Cond.methodLink RX7 257 yX7_isSheet ∈ WS := WS_in (tb_5 (List.mem_of_getElem? (i := 141) (by decide +kernel))) rfl
theorem st_yX7_isSheet : Cond.static yX7_isSheet ∈ WS := WS_in (tb_5 (List.mem_of_getElem? (i := 142) (by decide +kernel))) rfl
theorem co_yX7_isSheet : Cond.code yX7_isSheet cX7_isSheet 1 (some .boolean) ∈ WS := WS_in (tb_5 (List.mem_of_getElem? (i := 143) (by decide +kernel))) rfl
theorem mk_X7_214 : Cond.methodLink RX7 214 yX7_rightOf ∈ WS := WS_in (tb_5 (List.mem_of_getElem? (i := 144) (by decide +kernel))) rfl
theorem im_yX7_rightOf : Cond.instanceMethod yX7_rightOf ∈ WS := WS_in (tb_5 (List.mem_of_getElem? (i := 146) (by decide +kernel))) rfl
theorem co_yX7_rightOf : Cond.code yX7_rightOf cX7_rightOf 3 (some .int) ∈ WS := WS_in (tb_5 (List.mem_of_getElem? (i := 147) (by decide +kernel))) rfl
theorem mk_L_119 : Cond.methodLink RL 119 yX7_voice ∈ WS := WS_in (tb_5 (List.mem_of_getElem? (i := 148) (by decide +kernel))) rfl
theorem im_yX7_voice : Cond.instanceMethod yX7_voice ∈ WS := WS_in (tb_5 (List.mem_of_getElem? (i := 149) (by decide +kernel))) rfl
theorem se_yX7_voice : Cond.selects RX7 yX7_voice yX7_voice ∈ WS := WS_in (tb_5 (List.mem_of_getElem? (i := 150) (by decide +kernel))) rfl
theorem co_yX7_voice : Cond.code yX7_voice cX7_voice 5 (some .int) ∈ WS := WS_in (tb_5 (List.mem_of_getElem? (i := 151) (by decide +kernel))) rfl
theorem mk_X7_229 : Cond.methodLink RX7 229 yX7_crusts ∈ WS := WS_in (tb_5 (List.mem_of_getElem? (i := 152) (by decide +kernel))) rfl
theorem im_yX7_crusts : Cond.instanceMethod yX7_crusts ∈ WS := WS_in (tb_5 (List.mem_of_getElem? (i := 154) (by decide +kernel))) rfl
theorem co_yX7_crusts : Cond.code yX7_crusts cX7_crusts 3 (some .int) ∈ WS := WS_in (tb_5 (List.mem_of_getElem? (i := 155) (by decide +kernel))) rfl
theorem mk_X7_226 : Cond.methodLink RX7 226 yX7_ryeCrusts ∈ WS := WS_in (tb_5 (List.mem_of_getElem? (i := 156) (by decide +kernel))) rfl
theorem im_yX7_ryeCrusts : Cond.instanceMethod yX7_ryeCrusts ∈ WS := WS_in (tb_5 (List.mem_of_getElem? (i := 158) (by decide +kernel))) rfl
theorem co_yX7_ryeCrusts : Cond.code yX7_ryeCrusts cX7_ryeCrusts 3 (some .int) ∈ WS := WS_in (tb_5 (List.mem_of_getElem? (i := 159) (by decide +kernel))) rfl
theorem mk_X7_220 : Cond.methodLink RX7 220 yX7_begins ∈ WS := WS_in (tb_5 (List.mem_of_getElem? (i := 160) (by decide +kernel))) rfl
theorem im_yX7_begins : Cond.instanceMethod yX7_begins ∈ WS := WS_in (tb_5 (List.mem_of_getElem? (i := 162) (by decide +kernel))) rfl
theorem co_yX7_begins : Cond.code yX7_begins cX7_begins 2 none ∈ WS := WS_in (tb_5 (List.mem_of_getElem? (i := 163) (by decide +kernel))) rfl
theorem mk_X7_223 : Cond.methodLink RX7 223 yX7_plainCrusts ∈ WS := WS_in (tb_5 (List.mem_of_getElem? (i := 164) (by decide +kernel))) rfl
theorem im_yX7_plainCrusts : Cond.instanceMethod yX7_plainCrusts ∈ WS := WS_in (tb_5 (List.mem_of_getElem? (i := 166) (by decide +kernel))) rfl
theorem co_yX7_plainCrusts : Cond.code yX7_plainCrusts cX7_plainCrusts 3 (some .int) ∈ WS := WS_in (tb_5 (List.mem_of_getElem? (i := 167) (by decide +kernel))) rfl
theorem mk_X7_238 : Cond.methodLink RX7 238 yX7_steams ∈ WS := WS_in (tb_5 (List.mem_of_getElem? (i := 168) (by decide +kernel))) rfl
theorem im_yX7_steams : Cond.instanceMethod yX7_steams ∈ WS := WS_in (tb_5 (List.mem_of_getElem? (i := 170) (by decide +kernel))) rfl
theorem co_yX7_steams : Cond.code yX7_steams cX7_steams 3 (some .int) ∈ WS := WS_in (tb_5 (List.mem_of_getElem? (i := 171) (by decide +kernel))) rfl
theorem mk_X7_235 : Cond.methodLink RX7 235 yX7_briocheSteams ∈ WS := WS_in (tb_5 (List.mem_of_getElem? (i := 172) (by decide +kernel))) rfl
theorem im_yX7_briocheSteams : Cond.instanceMethod yX7_briocheSteams ∈ WS := WS_in (tb_5 (List.mem_of_getElem? (i := 174) (by decide +kernel))) rfl
theorem co_yX7_briocheSteams : Cond.code yX7_briocheSteams cX7_briocheSteams 3 (some .int) ∈ WS := WS_in (tb_5 (List.mem_of_getElem? (i := 175) (by decide +kernel))) rfl
theorem mk_X7_232 : Cond.methodLink RX7 232 yX7_plainSteams ∈ WS := WS_in (tb_5 (List.mem_of_getElem? (i := 176) (by decide +kernel))) rfl
theorem im_yX7_plainSteams : Cond.instanceMethod yX7_plainSteams ∈ WS := WS_in (tb_5 (List.mem_of_getElem? (i := 178) (by decide +kernel))) rfl
theorem co_yX7_plainSteams : Cond.code yX7_plainSteams cX7_plainSteams 3 (some .int) ∈ WS := WS_in (tb_5 (List.mem_of_getElem? (i := 179) (by decide +kernel))) rfl
theorem mk_X7_250 : Cond.methodLink RX7 250 yX7_crumbles ∈ WS := WS_in (tb_5 (List.mem_of_getElem? (i := 180) (by decide +kernel))) rfl
theorem im_yX7_crumbles : Cond.instanceMethod yX7_crumbles ∈ WS := WS_in (tb_5 (List.mem_of_getElem? (i := 182) (by decide +kernel))) rfl
theorem co_yX7_crumbles : Cond.code yX7_crumbles cX7_crumbles 3 (some .int) ∈ WS := WS_in (tb_5 (List.mem_of_getElem? (i := 183) (by decide +kernel))) rfl
theorem mk_X7_241 : Cond.methodLink RX7 241 yX7_plainCrumbles ∈ WS := WS_in (tb_5 (List.mem_of_getElem? (i := 184) (by decide +kernel))) rfl
theorem im_yX7_plainCrumbles : Cond.instanceMethod yX7_plainCrumbles ∈ WS := WS_in (tb_5 (List.mem_of_getElem? (i := 186) (by decide +kernel))) rfl
theorem co_yX7_plainCrumbles : Cond.code yX7_plainCrumbles cX7_plainCrumbles 3 (some .int) ∈ WS := WS_in (tb_5 (List.mem_of_getElem? (i := 187) (by decide +kernel))) rfl
theorem mk_X7_253 : Cond.methodLink RX7 253 yX7_partsBy ∈ WS := WS_in (tb_5 (List.mem_of_getElem? (i := 188) (by decide +kernel))) rfl
theorem im_yX7_partsBy : Cond.instanceMethod yX7_partsBy ∈ WS := WS_in (tb_5 (List.mem_of_getElem? (i := 190) (by decide +kernel))) rfl
theorem co_yX7_partsBy : Cond.code yX7_partsBy cX7_partsBy 4 (some .int) ∈ WS := WS_in (tb_5 (List.mem_of_getElem? (i := 191) (by decide +kernel))) rfl
theorem mk_X7_247 : Cond.methodLink RX7 247 yX7_plainParts ∈ WS := WS_in (tb_5 (List.mem_of_getElem? (i := 192) (by decide +kernel))) rfl
theorem im_yX7_plainParts : Cond.instanceMethod yX7_plainParts ∈ WS := WS_in (tb_5 (List.mem_of_getElem? (i := 194) (by decide +kernel))) rfl
theorem co_yX7_plainParts : Cond.code yX7_plainParts cX7_plainParts 4 (some .int) ∈ WS := WS_in (tb_5 (List.mem_of_getElem? (i := 195) (by decide +kernel))) rfl
theorem kn_X7_256 : Cond.constant RX7 256 (-1000000006) ∈ WS := WS_in (tb_5 (List.mem_of_getElem? (i := 196) (by decide +kernel))) rfl
theorem mk_L_123 : Cond.methodLink RL 123 yX7_body ∈ WS := WS_in (tb_5 (List.mem_of_getElem? (i := 197) (by decide +kernel))) rfl
theorem im_yX7_body : Cond.instanceMethod yX7_body ∈ WS := WS_in (tb_5 (List.mem_of_getElem? (i := 198) (by decide +kernel))) rfl
theorem se_yX7_body : Cond.selects RX7 yX7_body yX7_body ∈ WS := WS_in (tb_5 (List.mem_of_getElem? (i := 199) (by decide +kernel))) rfl
theorem co_yX7_body : Cond.code yX7_body cX7_body 2 (some .int) ∈ WS := WS_in (tb_5 (List.mem_of_getElem? (i := 200) (by decide +kernel))) rfl
theorem mk_L_127 : Cond.methodLink RL 127 yX7_sheet ∈ WS := WS_in (tb_5 (List.mem_of_getElem? (i := 201) (by decide +kernel))) rfl
theorem im_yX7_sheet : Cond.instanceMethod yX7_sheet ∈ WS := WS_in (tb_5 (List.mem_of_getElem? (i := 202) (by decide +kernel))) rfl
theorem se_yX7_sheet : Cond.selects RX7 yX7_sheet yX7_sheet ∈ WS := WS_in (tb_5 (List.mem_of_getElem? (i := 203) (by decide +kernel))) rfl
theorem co_yX7_sheet : Cond.code yX7_sheet cX7_sheet 5 (some .int) ∈ WS := WS_in (tb_5 (List.mem_of_getElem? (i := 204) (by decide +kernel))) rfl
theorem mk_L_131 : Cond.methodLink RL 131 yX7_put ∈ WS := WS_in (tb_5 (List.mem_of_getElem? (i := 205) (by decide +kernel))) rfl
theorem im_yX7_put : Cond.instanceMethod yX7_put ∈ WS := WS_in (tb_5 (List.mem_of_getElem? (i := 206) (by decide +kernel))) rfl
theorem se_yX7_put : Cond.selects RX7 yX7_put yX7_put ∈ WS := WS_in (tb_5 (List.mem_of_getElem? (i := 207) (by decide +kernel))) rfl
theorem co_yX7_put : Cond.code yX7_put cX7_put 5 (some .int) ∈ WS := WS_in (tb_5 (List.mem_of_getElem? (i := 208) (by decide +kernel))) rfl
theorem mk_L_136 : Cond.methodLink RL 136 yX7_move ∈ WS := WS_in (tb_5 (List.mem_of_getElem? (i := 209) (by decide +kernel))) rfl
theorem im_yX7_move : Cond.instanceMethod yX7_move ∈ WS := WS_in (tb_5 (List.mem_of_getElem? (i := 210) (by decide +kernel))) rfl
theorem se_yX7_move : Cond.selects RX7 yX7_move yX7_move ∈ WS := WS_in (tb_5 (List.mem_of_getElem? (i := 211) (by decide +kernel))) rfl
theorem co_yX7_move : Cond.code yX7_move cX7_move 9 (some .int) ∈ WS := WS_in (tb_5 (List.mem_of_getElem? (i := 212) (by decide +kernel))) rfl
theorem mk_X7_260 : Cond.methodLink RX7 260 yX7_notMoved ∈ WS := WS_in (tb_5 (List.mem_of_getElem? (i := 213) (by decide +kernel))) rfl
theorem im_yX7_notMoved : Cond.instanceMethod yX7_notMoved ∈ WS := WS_in (tb_5 (List.mem_of_getElem? (i := 215) (by decide +kernel))) rfl
theorem co_yX7_notMoved : Cond.code yX7_notMoved cX7_notMoved 7 (some .int) ∈ WS := WS_in (tb_5 (List.mem_of_getElem? (i := 216) (by decide +kernel))) rfl
theorem mk_L_140 : Cond.methodLink RL 140 yX7_soaks ∈ WS := WS_in (tb_5 (List.mem_of_getElem? (i := 217) (by decide +kernel))) rfl
theorem im_yX7_soaks : Cond.instanceMethod yX7_soaks ∈ WS := WS_in (tb_5 (List.mem_of_getElem? (i := 218) (by decide +kernel))) rfl
theorem se_yX7_soaks : Cond.selects RX7 yX7_soaks yX7_soaks ∈ WS := WS_in (tb_5 (List.mem_of_getElem? (i := 219) (by decide +kernel))) rfl
theorem co_yX7_soaks : Cond.code yX7_soaks cX7_soaks 4 (some .int) ∈ WS := WS_in (tb_5 (List.mem_of_getElem? (i := 220) (by decide +kernel))) rfl
theorem mk_L_144 : Cond.methodLink RL 144 yX7_judge ∈ WS := WS_in (tb_5 (List.mem_of_getElem? (i := 221) (by decide +kernel))) rfl
theorem im_yX7_judge : Cond.instanceMethod yX7_judge ∈ WS := WS_in (tb_5 (List.mem_of_getElem? (i := 222) (by decide +kernel))) rfl
theorem se_yX7_judge : Cond.selects RX7 yX7_judge yX7_judge ∈ WS := WS_in (tb_5 (List.mem_of_getElem? (i := 223) (by decide +kernel))) rfl
theorem co_yX7_judge : Cond.code yX7_judge cX7_judge 3 (some .int) ∈ WS := WS_in (tb_5 (List.mem_of_getElem? (i := 224) (by decide +kernel))) rfl
theorem mk_L_149 : Cond.methodLink RL 149 yX7_image ∈ WS := WS_in (tb_5 (List.mem_of_getElem? (i := 225) (by decide +kernel))) rfl
theorem im_yX7_image : Cond.instanceMethod yX7_image ∈ WS := WS_in (tb_5 (List.mem_of_getElem? (i := 226) (by decide +kernel))) rfl
theorem se_yX7_image : Cond.selects RX7 yX7_image yX7_image ∈ WS := WS_in (tb_5 (List.mem_of_getElem? (i := 227) (by decide +kernel))) rfl
theorem co_yX7_image : Cond.code yX7_image cX7_image 1 (some .int) ∈ WS := WS_in (tb_5 (List.mem_of_getElem? (i := 228) (by decide +kernel))) rfl
theorem mk_L_153 : Cond.methodLink RL 153 yX7_restore ∈ WS := WS_in (tb_5 (List.mem_of_getElem? (i := 229) (by decide +kernel))) rfl
theorem im_yX7_restore : Cond.instanceMethod yX7_restore ∈ WS := WS_in (tb_5 (List.mem_of_getElem? (i := 230) (by decide +kernel))) rfl
theorem se_yX7_restore : Cond.selects RX7 yX7_restore yX7_restore ∈ WS := WS_in (tb_5 (List.mem_of_getElem? (i := 231) (by decide +kernel))) rfl
theorem co_yX7_restore : Cond.code yX7_restore cX7_restore 1 (some .int) ∈ WS := WS_in (tb_5 (List.mem_of_getElem? (i := 232) (by decide +kernel))) rfl
theorem mk_L_157 : Cond.methodLink RL 157 yX7_tell ∈ WS := WS_in (tb_5 (List.mem_of_getElem? (i := 233) (by decide +kernel))) rfl
theorem im_yX7_tell : Cond.instanceMethod yX7_tell ∈ WS := WS_in (tb_5 (List.mem_of_getElem? (i := 234) (by decide +kernel))) rfl
theorem se_yX7_tell : Cond.selects RX7 yX7_tell yX7_tell ∈ WS := WS_in (tb_5 (List.mem_of_getElem? (i := 235) (by decide +kernel))) rfl
theorem co_yX7_tell : Cond.code yX7_tell cX7_tell 2 (some .int) ∈ WS := WS_in (tb_5 (List.mem_of_getElem? (i := 236) (by decide +kernel))) rfl
theorem mk_L_161 : Cond.methodLink RL 161 yX7_check ∈ WS := WS_in (tb_5 (List.mem_of_getElem? (i := 237) (by decide +kernel))) rfl
theorem im_yX7_check : Cond.instanceMethod yX7_check ∈ WS := WS_in (tb_5 (List.mem_of_getElem? (i := 238) (by decide +kernel))) rfl
theorem se_yX7_check : Cond.selects RX7 yX7_check yX7_check ∈ WS := WS_in (tb_5 (List.mem_of_getElem? (i := 239) (by decide +kernel))) rfl
theorem co_yX7_check : Cond.code yX7_check cX7_check 3 (some .int) ∈ WS := WS_in (tb_6 (List.mem_of_getElem? (i := 0) (by decide +kernel))) rfl
theorem mk_L_165 : Cond.methodLink RL 165 yX7_count ∈ WS := WS_in (tb_6 (List.mem_of_getElem? (i := 1) (by decide +kernel))) rfl
theorem im_yX7_count : Cond.instanceMethod yX7_count ∈ WS := WS_in (tb_6 (List.mem_of_getElem? (i := 2) (by decide +kernel))) rfl
theorem se_yX7_count : Cond.selects RX7 yX7_count yX7_count ∈ WS := WS_in (tb_6 (List.mem_of_getElem? (i := 3) (by decide +kernel))) rfl
theorem co_yX7_count : Cond.code yX7_count cX7_count 2 (some .int) ∈ WS := WS_in (tb_6 (List.mem_of_getElem? (i := 4) (by decide +kernel))) rfl
theorem mk_L_169 : Cond.methodLink RL 169 yX7_told ∈ WS := WS_in (tb_6 (List.mem_of_getElem? (i := 5) (by decide +kernel))) rfl
theorem im_yX7_told : Cond.instanceMethod yX7_told ∈ WS := WS_in (tb_6 (List.mem_of_getElem? (i := 6) (by decide +kernel))) rfl
theorem se_yX7_told : Cond.selects RX7 yX7_told yX7_told ∈ WS := WS_in (tb_6 (List.mem_of_getElem? (i := 7) (by decide +kernel))) rfl
theorem co_yX7_told : Cond.code yX7_told cX7_told 2 (some .int) ∈ WS := WS_in (tb_6 (List.mem_of_getElem? (i := 8) (by decide +kernel))) rfl
theorem kn_L_52 : Cond.constantLong RL 52 4294967295 ∈ WS := WS_in (tb_6 (List.mem_of_getElem? (i := 9) (by decide +kernel))) rfl
theorem fk_J0_15 : Cond.fieldLink RJ0 15 "java/lang/String" "coder" "B" ∈ WS := WS_in (tb_6 (List.mem_of_getElem? (i := 10) (by decide +kernel))) rfl
theorem fk_J0_9 : Cond.fieldLink RJ0 9 "java/lang/String" "value" "[B" ∈ WS := WS_in (tb_6 (List.mem_of_getElem? (i := 11) (by decide +kernel))) rfl
theorem se_yX6_error : Cond.selects RX6 yX6_error yX6_error ∈ WS := WS_in (tb_p (List.mem_of_getElem? (i := 0) (by decide +kernel))) rfl
theorem se_yX4_bearsAsRye : Cond.selects RX4 yX4_bearsAsRye yX4_bearsAsRye ∈ WS := WS_in (tb_p (List.mem_of_getElem? (i := 1) (by decide +kernel))) rfl
theorem se_yX4_bearsAsLoaf : Cond.selects RX4 yX4_bearsAsLoaf yX4_bearsAsLoaf ∈ WS := WS_in (tb_p (List.mem_of_getElem? (i := 2) (by decide +kernel))) rfl
theorem se_yX4_bearsAsBrioche : Cond.selects RX4 yX4_bearsAsBrioche yX4_bearsAsBrioche ∈ WS := WS_in (tb_p (List.mem_of_getElem? (i := 3) (by decide +kernel))) rfl
theorem se_yX2_readAny : Cond.selects RX2 yX2_readAny yX2_readAny ∈ WS := WS_in (tb_p (List.mem_of_getElem? (i := 4) (by decide +kernel))) rfl
theorem se_yX2_readAll : Cond.selects RX2 yX2_readAll yX2_readAll ∈ WS := WS_in (tb_p (List.mem_of_getElem? (i := 5) (by decide +kernel))) rfl
theorem se_yX2_readCompared : Cond.selects RX2 yX2_readCompared yX2_readCompared ∈ WS := WS_in (tb_p (List.mem_of_getElem? (i := 6) (by decide +kernel))) rfl
theorem se_yX2_readSum : Cond.selects RX2 yX2_readSum yX2_readSum ∈ WS := WS_in (tb_p (List.mem_of_getElem? (i := 7) (by decide +kernel))) rfl
theorem se_yX2_readProduct : Cond.selects RX2 yX2_readProduct yX2_readProduct ∈ WS := WS_in (tb_p (List.mem_of_getElem? (i := 8) (by decide +kernel))) rfl
theorem se_yX2_readOne : Cond.selects RX2 yX2_readOne yX2_readOne ∈ WS := WS_in (tb_p (List.mem_of_getElem? (i := 9) (by decide +kernel))) rfl
theorem se_yX2_ahead : Cond.selects RX2 yX2_ahead yX2_ahead ∈ WS := WS_in (tb_p (List.mem_of_getElem? (i := 10) (by decide +kernel))) rfl
theorem se_yX2_readNot : Cond.selects RX2 yX2_readNot yX2_readNot ∈ WS := WS_in (tb_p (List.mem_of_getElem? (i := 11) (by decide +kernel))) rfl
theorem se_yX2_make : Cond.selects RX2 yX2_make yX2_make ∈ WS := WS_in (tb_p (List.mem_of_getElem? (i := 12) (by decide +kernel))) rfl
theorem se_yX2_readWithin : Cond.selects RX2 yX2_readWithin yX2_readWithin ∈ WS := WS_in (tb_p (List.mem_of_getElem? (i := 13) (by decide +kernel))) rfl
theorem se_yX2_readNumber : Cond.selects RX2 yX2_readNumber yX2_readNumber ∈ WS := WS_in (tb_p (List.mem_of_getElem? (i := 14) (by decide +kernel))) rfl
theorem se_yX0_draw : Cond.selects RX0 yX0_draw yX0_draw ∈ WS := WS_in (tb_p (List.mem_of_getElem? (i := 15) (by decide +kernel))) rfl
theorem se_yX5_say : Cond.selects RX5 yX5_say yX5_say ∈ WS := WS_in (tb_p (List.mem_of_getElem? (i := 16) (by decide +kernel))) rfl
theorem se_yX5_begin : Cond.selects RX5 yX5_begin yX5_begin ∈ WS := WS_in (tb_p (List.mem_of_getElem? (i := 17) (by decide +kernel))) rfl
theorem se_yX5_part : Cond.selects RX5 yX5_part yX5_part ∈ WS := WS_in (tb_p (List.mem_of_getElem? (i := 18) (by decide +kernel))) rfl
theorem se_yX7_error : Cond.selects RX7 yX7_error yX7_error ∈ WS := WS_in (tb_p (List.mem_of_getElem? (i := 19) (by decide +kernel))) rfl
theorem se_yX7_lets : Cond.selects RX7 yX7_lets yX7_lets ∈ WS := WS_in (tb_p (List.mem_of_getElem? (i := 20) (by decide +kernel))) rfl
theorem se_yX7_isSpan : Cond.selects RX7 yX7_isSpan yX7_isSpan ∈ WS := WS_in (tb_p (List.mem_of_getElem? (i := 21) (by decide +kernel))) rfl
theorem se_yX7_of : Cond.selects RX7 yX7_of yX7_of ∈ WS := WS_in (tb_p (List.mem_of_getElem? (i := 22) (by decide +kernel))) rfl
theorem se_yX7_bearsOf : Cond.selects RX7 yX7_bearsOf yX7_bearsOf ∈ WS := WS_in (tb_p (List.mem_of_getElem? (i := 23) (by decide +kernel))) rfl
theorem se_yX7_bearsBy : Cond.selects RX7 yX7_bearsBy yX7_bearsBy ∈ WS := WS_in (tb_p (List.mem_of_getElem? (i := 24) (by decide +kernel))) rfl
theorem se_yX7_takesOf : Cond.selects RX7 yX7_takesOf yX7_takesOf ∈ WS := WS_in (tb_p (List.mem_of_getElem? (i := 25) (by decide +kernel))) rfl
theorem se_yX7_becomes : Cond.selects RX7 yX7_becomes yX7_becomes ∈ WS := WS_in (tb_p (List.mem_of_getElem? (i := 26) (by decide +kernel))) rfl
theorem se_yX7_crosses : Cond.selects RX7 yX7_crosses yX7_crosses ∈ WS := WS_in (tb_p (List.mem_of_getElem? (i := 27) (by decide +kernel))) rfl
theorem se_yX7_gives : Cond.selects RX7 yX7_gives yX7_gives ∈ WS := WS_in (tb_p (List.mem_of_getElem? (i := 28) (by decide +kernel))) rfl
theorem se_yX7_works : Cond.selects RX7 yX7_works yX7_works ∈ WS := WS_in (tb_p (List.mem_of_getElem? (i := 29) (by decide +kernel))) rfl
theorem se_yX7_any : Cond.selects RX7 yX7_any yX7_any ∈ WS := WS_in (tb_p (List.mem_of_getElem? (i := 30) (by decide +kernel))) rfl
theorem se_yX7_all : Cond.selects RX7 yX7_all yX7_all ∈ WS := WS_in (tb_p (List.mem_of_getElem? (i := 31) (by decide +kernel))) rfl
theorem se_yX7_compares : Cond.selects RX7 yX7_compares yX7_compares ∈ WS := WS_in (tb_p (List.mem_of_getElem? (i := 32) (by decide +kernel))) rfl
theorem se_yX7_sum : Cond.selects RX7 yX7_sum yX7_sum ∈ WS := WS_in (tb_p (List.mem_of_getElem? (i := 33) (by decide +kernel))) rfl
theorem se_yX7_times : Cond.selects RX7 yX7_times yX7_times ∈ WS := WS_in (tb_p (List.mem_of_getElem? (i := 34) (by decide +kernel))) rfl
theorem se_yX7_one : Cond.selects RX7 yX7_one yX7_one ∈ WS := WS_in (tb_p (List.mem_of_getElem? (i := 35) (by decide +kernel))) rfl
theorem se_yX7_look : Cond.selects RX7 yX7_look yX7_look ∈ WS := WS_in (tb_p (List.mem_of_getElem? (i := 36) (by decide +kernel))) rfl
theorem se_yX7_nameOf : Cond.selects RX7 yX7_nameOf yX7_nameOf ∈ WS := WS_in (tb_p (List.mem_of_getElem? (i := 37) (by decide +kernel))) rfl
theorem se_yX7_step : Cond.selects RX7 yX7_step yX7_step ∈ WS := WS_in (tb_p (List.mem_of_getElem? (i := 38) (by decide +kernel))) rfl
theorem se_yX7_opens : Cond.selects RX7 yX7_opens yX7_opens ∈ WS := WS_in (tb_p (List.mem_of_getElem? (i := 39) (by decide +kernel))) rfl
theorem se_yX7_number : Cond.selects RX7 yX7_number yX7_number ∈ WS := WS_in (tb_p (List.mem_of_getElem? (i := 40) (by decide +kernel))) rfl
theorem se_yX7_goes : Cond.selects RX7 yX7_goes yX7_goes ∈ WS := WS_in (tb_p (List.mem_of_getElem? (i := 41) (by decide +kernel))) rfl
theorem se_yX7_drawn : Cond.selects RX7 yX7_drawn yX7_drawn ∈ WS := WS_in (tb_p (List.mem_of_getElem? (i := 42) (by decide +kernel))) rfl
theorem se_yX7_draw : Cond.selects RX7 yX7_draw yX7_draw ∈ WS := WS_in (tb_p (List.mem_of_getElem? (i := 43) (by decide +kernel))) rfl
theorem se_yX7_findBearing : Cond.selects RX7 yX7_findBearing yX7_findBearing ∈ WS := WS_in (tb_p (List.mem_of_getElem? (i := 44) (by decide +kernel))) rfl
theorem se_yX7_joinedBy : Cond.selects RX7 yX7_joinedBy yX7_joinedBy ∈ WS := WS_in (tb_p (List.mem_of_getElem? (i := 45) (by decide +kernel))) rfl
theorem se_yX7_areJoinedBy : Cond.selects RX7 yX7_areJoinedBy yX7_areJoinedBy ∈ WS := WS_in (tb_p (List.mem_of_getElem? (i := 46) (by decide +kernel))) rfl
theorem se_yX7_flourFor : Cond.selects RX7 yX7_flourFor yX7_flourFor ∈ WS := WS_in (tb_p (List.mem_of_getElem? (i := 47) (by decide +kernel))) rfl
theorem se_yX7_thinks : Cond.selects RX7 yX7_thinks yX7_thinks ∈ WS := WS_in (tb_p (List.mem_of_getElem? (i := 48) (by decide +kernel))) rfl
theorem se_yX7_areJoined : Cond.selects RX7 yX7_areJoined yX7_areJoined ∈ WS := WS_in (tb_p (List.mem_of_getElem? (i := 49) (by decide +kernel))) rfl
theorem se_yX7_putsBack : Cond.selects RX7 yX7_putsBack yX7_putsBack ∈ WS := WS_in (tb_p (List.mem_of_getElem? (i := 50) (by decide +kernel))) rfl
theorem se_yX7_notThere : Cond.selects RX7 yX7_notThere yX7_notThere ∈ WS := WS_in (tb_p (List.mem_of_getElem? (i := 51) (by decide +kernel))) rfl
theorem se_yX7_rightOf : Cond.selects RX7 yX7_rightOf yX7_rightOf ∈ WS := WS_in (tb_p (List.mem_of_getElem? (i := 52) (by decide +kernel))) rfl
theorem se_yX7_crusts : Cond.selects RX7 yX7_crusts yX7_crusts ∈ WS := WS_in (tb_p (List.mem_of_getElem? (i := 53) (by decide +kernel))) rfl
theorem se_yX7_ryeCrusts : Cond.selects RX7 yX7_ryeCrusts yX7_ryeCrusts ∈ WS := WS_in (tb_p (List.mem_of_getElem? (i := 54) (by decide +kernel))) rfl
theorem se_yX7_begins : Cond.selects RX7 yX7_begins yX7_begins ∈ WS := WS_in (tb_p (List.mem_of_getElem? (i := 55) (by decide +kernel))) rfl
theorem se_yX7_plainCrusts : Cond.selects RX7 yX7_plainCrusts yX7_plainCrusts ∈ WS := WS_in (tb_p (List.mem_of_getElem? (i := 56) (by decide +kernel))) rfl
theorem se_yX7_steams : Cond.selects RX7 yX7_steams yX7_steams ∈ WS := WS_in (tb_p (List.mem_of_getElem? (i := 57) (by decide +kernel))) rfl
theorem se_yX7_briocheSteams : Cond.selects RX7 yX7_briocheSteams yX7_briocheSteams ∈ WS := WS_in (tb_p (List.mem_of_getElem? (i := 58) (by decide +kernel))) rfl
theorem se_yX7_plainSteams : Cond.selects RX7 yX7_plainSteams yX7_plainSteams ∈ WS := WS_in (tb_p (List.mem_of_getElem? (i := 59) (by decide +kernel))) rfl
theorem se_yX7_crumbles : Cond.selects RX7 yX7_crumbles yX7_crumbles ∈ WS := WS_in (tb_p (List.mem_of_getElem? (i := 60) (by decide +kernel))) rfl
theorem se_yX7_plainCrumbles : Cond.selects RX7 yX7_plainCrumbles yX7_plainCrumbles ∈ WS := WS_in (tb_p (List.mem_of_getElem? (i := 61) (by decide +kernel))) rfl
theorem se_yX7_partsBy : Cond.selects RX7 yX7_partsBy yX7_partsBy ∈ WS := WS_in (tb_p (List.mem_of_getElem? (i := 62) (by decide +kernel))) rfl
theorem se_yX7_plainParts : Cond.selects RX7 yX7_plainParts yX7_plainParts ∈ WS := WS_in (tb_p (List.mem_of_getElem? (i := 63) (by decide +kernel))) rfl
theorem se_yX7_notMoved : Cond.selects RX7 yX7_notMoved yX7_notMoved ∈ WS := WS_in (tb_p (List.mem_of_getElem? (i := 64) (by decide +kernel))) rfl
end
section
theorem dX0_init_0 : decode cX0_init 0 = .ok (.aload_n 0, 1) := by decide +kernel
theorem dX0_init_1 : decode cX0_init 1 = .ok (.invokespecial 3, 3) := by decide +kernel
theorem dX0_init_4 : decode cX0_init 4 = .ok (.aload_n 0, 1) := by decide +kernel
theorem dX0_init_5 : decode cX0_init 5 = .ok (.bipush 9, 2) := by decide +kernel
theorem dX0_init_7 : decode cX0_init 7 = .ok (.anewarray 9, 3) := by decide +kernel
theorem dX0_init_10 : decode cX0_init 10 = .ok (.putfield 11, 3) := by decide +kernel
theorem dX0_init_13 : decode cX0_init 13 = .ok (.aload_n 0, 1) := by decide +kernel
theorem dX0_init_14 : decode cX0_init 14 = .ok (.iconst 0, 1) := by decide +kernel
theorem dX0_init_15 : decode cX0_init 15 = .ok (.putfield 17, 3) := by decide +kernel
theorem dX0_init_18 : decode cX0_init 18 = .ok (.aload_n 0, 1) := by decide +kernel
theorem dX0_init_19 : decode cX0_init 19 = .ok (.iconst 0, 1) := by decide +kernel
theorem dX0_init_20 : decode cX0_init 20 = .ok (.putfield 21, 3) := by decide +kernel
theorem dX0_init_23 : decode cX0_init 23 = .ok (.aload_n 0, 1) := by decide +kernel
theorem dX0_init_24 : decode cX0_init 24 = .ok (.sipush 200, 3) := by decide +kernel
theorem dX0_init_27 : decode cX0_init 27 = .ok (.putfield 24, 3) := by decide +kernel
theorem dX0_init_30 : decode cX0_init 30 = .ok (.aload_n 0, 1) := by decide +kernel
theorem dX0_init_31 : decode cX0_init 31 = .ok (.iconst 0, 1) := by decide +kernel
theorem dX0_init_32 : decode cX0_init 32 = .ok (.putfield 27, 3) := by decide +kernel
theorem dX0_init_35 : decode cX0_init 35 = .ok (.aload_n 0, 1) := by decide +kernel
theorem dX0_init_36 : decode cX0_init 36 = .ok (.iconst 0, 1) := by decide +kernel
theorem dX0_init_37 : decode cX0_init 37 = .ok (.putfield 30, 3) := by decide +kernel
theorem dX0_init_40 : decode cX0_init 40 = .ok (.aload_n 0, 1) := by decide +kernel
theorem dX0_init_41 : decode cX0_init 41 = .ok (.iconst 0, 1) := by decide +kernel
theorem dX0_init_42 : decode cX0_init 42 = .ok (.putfield 33, 3) := by decide +kernel
theorem dX0_init_45 : decode cX0_init 45 = .ok (.aload_n 0, 1) := by decide +kernel
theorem dX0_init_46 : decode cX0_init 46 = .ok (.iconst 1, 1) := by decide +kernel
theorem dX0_init_47 : decode cX0_init 47 = .ok (.putfield 36, 3) := by decide +kernel
theorem dX0_init_50 : decode cX0_init 50 = .ok (.aload_n 0, 1) := by decide +kernel
theorem dX0_init_51 : decode cX0_init 51 = .ok (.iconst 2, 1) := by decide +kernel
theorem dX0_init_52 : decode cX0_init 52 = .ok (.anewarray 39, 3) := by decide +kernel
theorem dX0_init_55 : decode cX0_init 55 = .ok (.putfield 41, 3) := by decide +kernel
theorem dX0_init_58 : decode cX0_init 58 = .ok (.aload_n 0, 1) := by decide +kernel
theorem dX0_init_59 : decode cX0_init 59 = .ok (.bipush 60, 2) := by decide +kernel
theorem dX0_init_61 : decode cX0_init 61 = .ok (.newarray .char, 2) := by decide +kernel
theorem dX0_init_63 : decode cX0_init 63 = .ok (.putfield 45, 3) := by decide +kernel
theorem dX0_init_66 : decode cX0_init 66 = .ok (.aload_n 0, 1) := by decide +kernel
theorem dX0_init_67 : decode cX0_init 67 = .ok (.iconst 0, 1) := by decide +kernel
theorem dX0_init_68 : decode cX0_init 68 = .ok (.putfield 49, 3) := by decide +kernel
theorem dX0_init_71 : decode cX0_init 71 = .ok (.aload_n 0, 1) := by decide +kernel
theorem dX0_init_72 : decode cX0_init 72 = .ok (.bipush 24, 2) := by decide +kernel
theorem dX0_init_74 : decode cX0_init 74 = .ok (.newarray .int, 2) := by decide +kernel
theorem dX0_init_76 : decode cX0_init 76 = .ok (.putfield 52, 3) := by decide +kernel
theorem dX0_init_79 : decode cX0_init 79 = .ok (.aload_n 0, 1) := by decide +kernel
theorem dX0_init_80 : decode cX0_init 80 = .ok (.iconst 0, 1) := by decide +kernel
theorem dX0_init_81 : decode cX0_init 81 = .ok (.putfield 56, 3) := by decide +kernel
theorem dX0_init_84 : decode cX0_init 84 = .ok (.iconst 0, 1) := by decide +kernel
theorem dX0_init_85 : decode cX0_init 85 = .ok (.istore_n 1, 1) := by decide +kernel
theorem dX0_init_86 : decode cX0_init 86 = .ok (.iload_n 1, 1) := by decide +kernel
theorem dX0_init_87 : decode cX0_init 87 = .ok (.bipush 9, 2) := by decide +kernel
theorem dX0_init_89 : decode cX0_init 89 = .ok (.if_icmp .ge 22, 3) := by decide +kernel
theorem dX0_init_92 : decode cX0_init 92 = .ok (.aload_n 0, 1) := by decide +kernel
theorem dX0_init_93 : decode cX0_init 93 = .ok (.getfield 11, 3) := by decide +kernel
theorem dX0_init_96 : decode cX0_init 96 = .ok (.iload_n 1, 1) := by decide +kernel
theorem dX0_init_97 : decode cX0_init 97 = .ok (.new 9, 3) := by decide +kernel
theorem dX0_init_100 : decode cX0_init 100 = .ok (.dup, 1) := by decide +kernel
theorem dX0_init_101 : decode cX0_init 101 = .ok (.invokespecial 59, 3) := by decide +kernel
theorem dX0_init_104 : decode cX0_init 104 = .ok (.aastore, 1) := by decide +kernel
theorem dX0_init_105 : decode cX0_init 105 = .ok (.iinc 1 1, 3) := by decide +kernel
theorem dX0_init_108 : decode cX0_init 108 = .ok (.goto (-22), 3) := by decide +kernel
theorem dX0_init_111 : decode cX0_init 111 = .ok (.iconst 0, 1) := by decide +kernel
theorem dX0_init_112 : decode cX0_init 112 = .ok (.istore_n 1, 1) := by decide +kernel
theorem dX0_init_113 : decode cX0_init 113 = .ok (.iload_n 1, 1) := by decide +kernel
theorem dX0_init_114 : decode cX0_init 114 = .ok (.iconst 1, 1) := by decide +kernel
theorem dX0_init_115 : decode cX0_init 115 = .ok (.if_icmp .gt 22, 3) := by decide +kernel
theorem dX0_init_118 : decode cX0_init 118 = .ok (.aload_n 0, 1) := by decide +kernel
theorem dX0_init_119 : decode cX0_init 119 = .ok (.getfield 41, 3) := by decide +kernel
theorem dX0_init_122 : decode cX0_init 122 = .ok (.iload_n 1, 1) := by decide +kernel
theorem dX0_init_123 : decode cX0_init 123 = .ok (.new 39, 3) := by decide +kernel
theorem dX0_init_126 : decode cX0_init 126 = .ok (.dup, 1) := by decide +kernel
theorem dX0_init_127 : decode cX0_init 127 = .ok (.invokespecial 60, 3) := by decide +kernel
theorem dX0_init_130 : decode cX0_init 130 = .ok (.aastore, 1) := by decide +kernel
theorem dX0_init_131 : decode cX0_init 131 = .ok (.iinc 1 1, 3) := by decide +kernel
theorem dX0_init_134 : decode cX0_init 134 = .ok (.goto (-21), 3) := by decide +kernel
theorem dX0_init_137 : decode cX0_init 137 = .ok (.return_, 1) := by decide +kernel
theorem dX0_takeFrom_0 : decode cX0_takeFrom 0 = .ok (.aload_n 0, 1) := by decide +kernel
theorem dX0_takeFrom_1 : decode cX0_takeFrom 1 = .ok (.aload_n 1, 1) := by decide +kernel
theorem dX0_takeFrom_2 : decode cX0_takeFrom 2 = .ok (.getfield 17, 3) := by decide +kernel
theorem dX0_takeFrom_5 : decode cX0_takeFrom 5 = .ok (.putfield 17, 3) := by decide +kernel
theorem dX0_takeFrom_8 : decode cX0_takeFrom 8 = .ok (.iconst 0, 1) := by decide +kernel
theorem dX0_takeFrom_9 : decode cX0_takeFrom 9 = .ok (.istore_n 2, 1) := by decide +kernel
theorem dX0_takeFrom_10 : decode cX0_takeFrom 10 = .ok (.iload_n 2, 1) := by decide +kernel
theorem dX0_takeFrom_11 : decode cX0_takeFrom 11 = .ok (.bipush 9, 2) := by decide +kernel
theorem dX0_takeFrom_13 : decode cX0_takeFrom 13 = .ok (.if_icmp .ge 24, 3) := by decide +kernel
theorem dX0_takeFrom_16 : decode cX0_takeFrom 16 = .ok (.aload_n 0, 1) := by decide +kernel
theorem dX0_takeFrom_17 : decode cX0_takeFrom 17 = .ok (.getfield 11, 3) := by decide +kernel
theorem dX0_takeFrom_20 : decode cX0_takeFrom 20 = .ok (.iload_n 2, 1) := by decide +kernel
theorem dX0_takeFrom_21 : decode cX0_takeFrom 21 = .ok (.aaload, 1) := by decide +kernel
theorem dX0_takeFrom_22 : decode cX0_takeFrom 22 = .ok (.aload_n 1, 1) := by decide +kernel
theorem dX0_takeFrom_23 : decode cX0_takeFrom 23 = .ok (.getfield 11, 3) := by decide +kernel
theorem dX0_takeFrom_26 : decode cX0_takeFrom 26 = .ok (.iload_n 2, 1) := by decide +kernel
theorem dX0_takeFrom_27 : decode cX0_takeFrom 27 = .ok (.aaload, 1) := by decide +kernel
theorem dX0_takeFrom_28 : decode cX0_takeFrom 28 = .ok (.invokevirtual 61, 3) := by decide +kernel
theorem dX0_takeFrom_31 : decode cX0_takeFrom 31 = .ok (.iinc 2 1, 3) := by decide +kernel
theorem dX0_takeFrom_34 : decode cX0_takeFrom 34 = .ok (.goto (-24), 3) := by decide +kernel
theorem dX0_takeFrom_37 : decode cX0_takeFrom 37 = .ok (.aload_n 0, 1) := by decide +kernel
theorem dX0_takeFrom_38 : decode cX0_takeFrom 38 = .ok (.aload_n 1, 1) := by decide +kernel
theorem dX0_takeFrom_39 : decode cX0_takeFrom 39 = .ok (.getfield 21, 3) := by decide +kernel
theorem dX0_takeFrom_42 : decode cX0_takeFrom 42 = .ok (.putfield 21, 3) := by decide +kernel
theorem dX0_takeFrom_45 : decode cX0_takeFrom 45 = .ok (.aload_n 0, 1) := by decide +kernel
theorem dX0_takeFrom_46 : decode cX0_takeFrom 46 = .ok (.aload_n 1, 1) := by decide +kernel
theorem dX0_takeFrom_47 : decode cX0_takeFrom 47 = .ok (.getfield 24, 3) := by decide +kernel
theorem dX0_takeFrom_50 : decode cX0_takeFrom 50 = .ok (.putfield 24, 3) := by decide +kernel
theorem dX0_takeFrom_53 : decode cX0_takeFrom 53 = .ok (.aload_n 0, 1) := by decide +kernel
theorem dX0_takeFrom_54 : decode cX0_takeFrom 54 = .ok (.aload_n 1, 1) := by decide +kernel
theorem dX0_takeFrom_55 : decode cX0_takeFrom 55 = .ok (.getfield 27, 3) := by decide +kernel
theorem dX0_takeFrom_58 : decode cX0_takeFrom 58 = .ok (.putfield 27, 3) := by decide +kernel
theorem dX0_takeFrom_61 : decode cX0_takeFrom 61 = .ok (.aload_n 0, 1) := by decide +kernel
theorem dX0_takeFrom_62 : decode cX0_takeFrom 62 = .ok (.aload_n 1, 1) := by decide +kernel
theorem dX0_takeFrom_63 : decode cX0_takeFrom 63 = .ok (.getfield 30, 3) := by decide +kernel
theorem dX0_takeFrom_66 : decode cX0_takeFrom 66 = .ok (.putfield 30, 3) := by decide +kernel
theorem dX0_takeFrom_69 : decode cX0_takeFrom 69 = .ok (.aload_n 0, 1) := by decide +kernel
theorem dX0_takeFrom_70 : decode cX0_takeFrom 70 = .ok (.aload_n 1, 1) := by decide +kernel
theorem dX0_takeFrom_71 : decode cX0_takeFrom 71 = .ok (.getfield 33, 3) := by decide +kernel
theorem dX0_takeFrom_74 : decode cX0_takeFrom 74 = .ok (.putfield 33, 3) := by decide +kernel
theorem dX0_takeFrom_77 : decode cX0_takeFrom 77 = .ok (.aload_n 0, 1) := by decide +kernel
theorem dX0_takeFrom_78 : decode cX0_takeFrom 78 = .ok (.aload_n 1, 1) := by decide +kernel
theorem dX0_takeFrom_79 : decode cX0_takeFrom 79 = .ok (.getfield 36, 3) := by decide +kernel
theorem dX0_takeFrom_82 : decode cX0_takeFrom 82 = .ok (.putfield 36, 3) := by decide +kernel
theorem dX0_takeFrom_85 : decode cX0_takeFrom 85 = .ok (.iconst 0, 1) := by decide +kernel
theorem dX0_takeFrom_86 : decode cX0_takeFrom 86 = .ok (.istore_n 2, 1) := by decide +kernel
theorem dX0_takeFrom_87 : decode cX0_takeFrom 87 = .ok (.iload_n 2, 1) := by decide +kernel
theorem dX0_takeFrom_88 : decode cX0_takeFrom 88 = .ok (.iconst 1, 1) := by decide +kernel
theorem dX0_takeFrom_89 : decode cX0_takeFrom 89 = .ok (.if_icmp .gt 24, 3) := by decide +kernel
theorem dX0_takeFrom_92 : decode cX0_takeFrom 92 = .ok (.aload_n 0, 1) := by decide +kernel
theorem dX0_takeFrom_93 : decode cX0_takeFrom 93 = .ok (.getfield 41, 3) := by decide +kernel
theorem dX0_takeFrom_96 : decode cX0_takeFrom 96 = .ok (.iload_n 2, 1) := by decide +kernel
theorem dX0_takeFrom_97 : decode cX0_takeFrom 97 = .ok (.aaload, 1) := by decide +kernel
theorem dX0_takeFrom_98 : decode cX0_takeFrom 98 = .ok (.aload_n 1, 1) := by decide +kernel
theorem dX0_takeFrom_99 : decode cX0_takeFrom 99 = .ok (.getfield 41, 3) := by decide +kernel
theorem dX0_takeFrom_102 : decode cX0_takeFrom 102 = .ok (.iload_n 2, 1) := by decide +kernel
theorem dX0_takeFrom_103 : decode cX0_takeFrom 103 = .ok (.aaload, 1) := by decide +kernel
theorem dX0_takeFrom_104 : decode cX0_takeFrom 104 = .ok (.invokevirtual 65, 3) := by decide +kernel
theorem dX0_takeFrom_107 : decode cX0_takeFrom 107 = .ok (.iinc 2 1, 3) := by decide +kernel
theorem dX0_takeFrom_110 : decode cX0_takeFrom 110 = .ok (.goto (-23), 3) := by decide +kernel
theorem dX0_takeFrom_113 : decode cX0_takeFrom 113 = .ok (.aload_n 1, 1) := by decide +kernel
theorem dX0_takeFrom_114 : decode cX0_takeFrom 114 = .ok (.getfield 45, 3) := by decide +kernel
theorem dX0_takeFrom_117 : decode cX0_takeFrom 117 = .ok (.iconst 0, 1) := by decide +kernel
theorem dX0_takeFrom_118 : decode cX0_takeFrom 118 = .ok (.aload_n 0, 1) := by decide +kernel
theorem dX0_takeFrom_119 : decode cX0_takeFrom 119 = .ok (.getfield 45, 3) := by decide +kernel
theorem dX0_takeFrom_122 : decode cX0_takeFrom 122 = .ok (.iconst 0, 1) := by decide +kernel
theorem dX0_takeFrom_123 : decode cX0_takeFrom 123 = .ok (.bipush 60, 2) := by decide +kernel
theorem dX0_takeFrom_125 : decode cX0_takeFrom 125 = .ok (.invokestatic 68, 3) := by decide +kernel
theorem dX0_takeFrom_128 : decode cX0_takeFrom 128 = .ok (.aload_n 0, 1) := by decide +kernel
theorem dX0_takeFrom_129 : decode cX0_takeFrom 129 = .ok (.aload_n 1, 1) := by decide +kernel
theorem dX0_takeFrom_130 : decode cX0_takeFrom 130 = .ok (.getfield 49, 3) := by decide +kernel
theorem dX0_takeFrom_133 : decode cX0_takeFrom 133 = .ok (.putfield 49, 3) := by decide +kernel
theorem dX0_takeFrom_136 : decode cX0_takeFrom 136 = .ok (.aload_n 1, 1) := by decide +kernel
theorem dX0_takeFrom_137 : decode cX0_takeFrom 137 = .ok (.getfield 52, 3) := by decide +kernel
theorem dX0_takeFrom_140 : decode cX0_takeFrom 140 = .ok (.iconst 0, 1) := by decide +kernel
theorem dX0_takeFrom_141 : decode cX0_takeFrom 141 = .ok (.aload_n 0, 1) := by decide +kernel
theorem dX0_takeFrom_142 : decode cX0_takeFrom 142 = .ok (.getfield 52, 3) := by decide +kernel
theorem dX0_takeFrom_145 : decode cX0_takeFrom 145 = .ok (.iconst 0, 1) := by decide +kernel
theorem dX0_takeFrom_146 : decode cX0_takeFrom 146 = .ok (.bipush 24, 2) := by decide +kernel
theorem dX0_takeFrom_148 : decode cX0_takeFrom 148 = .ok (.invokestatic 68, 3) := by decide +kernel
theorem dX0_takeFrom_151 : decode cX0_takeFrom 151 = .ok (.aload_n 0, 1) := by decide +kernel
theorem dX0_takeFrom_152 : decode cX0_takeFrom 152 = .ok (.aload_n 1, 1) := by decide +kernel
theorem dX0_takeFrom_153 : decode cX0_takeFrom 153 = .ok (.getfield 56, 3) := by decide +kernel
theorem dX0_takeFrom_156 : decode cX0_takeFrom 156 = .ok (.putfield 56, 3) := by decide +kernel
theorem dX0_takeFrom_159 : decode cX0_takeFrom 159 = .ok (.return_, 1) := by decide +kernel
theorem dX0_hasSpan_0 : decode cX0_hasSpan 0 = .ok (.iload_n 1, 1) := by decide +kernel
theorem dX0_hasSpan_1 : decode cX0_hasSpan 1 = .ok (.iconst 0, 1) := by decide +kernel
theorem dX0_hasSpan_2 : decode cX0_hasSpan 2 = .ok (.aload_n 0, 1) := by decide +kernel
theorem dX0_hasSpan_3 : decode cX0_hasSpan 3 = .ok (.getfield 17, 3) := by decide +kernel
theorem dX0_hasSpan_6 : decode cX0_hasSpan 6 = .ok (.iconst 1, 1) := by decide +kernel
theorem dX0_hasSpan_7 : decode cX0_hasSpan 7 = .ok (.isub, 1) := by decide +kernel
theorem dX0_hasSpan_8 : decode cX0_hasSpan 8 = .ok (.invokestatic 74, 3) := by decide +kernel
theorem dX0_hasSpan_11 : decode cX0_hasSpan 11 = .ok (.ireturn, 1) := by decide +kernel
theorem dX0_addSpan_0 : decode cX0_addSpan 0 = .ok (.aload_n 0, 1) := by decide +kernel
theorem dX0_addSpan_1 : decode cX0_addSpan 1 = .ok (.getfield 11, 3) := by decide +kernel
theorem dX0_addSpan_4 : decode cX0_addSpan 4 = .ok (.aload_n 0, 1) := by decide +kernel
theorem dX0_addSpan_5 : decode cX0_addSpan 5 = .ok (.getfield 17, 3) := by decide +kernel
theorem dX0_addSpan_8 : decode cX0_addSpan 8 = .ok (.aaload, 1) := by decide +kernel
theorem dX0_addSpan_9 : decode cX0_addSpan 9 = .ok (.astore 4, 2) := by decide +kernel
theorem dX0_addSpan_11 : decode cX0_addSpan 11 = .ok (.aload 4, 2) := by decide +kernel
theorem dX0_addSpan_13 : decode cX0_addSpan 13 = .ok (.invokevirtual 78, 3) := by decide +kernel
theorem dX0_addSpan_16 : decode cX0_addSpan 16 = .ok (.aload 4, 2) := by decide +kernel
theorem dX0_addSpan_18 : decode cX0_addSpan 18 = .ok (.iload_n 1, 1) := by decide +kernel
theorem dX0_addSpan_19 : decode cX0_addSpan 19 = .ok (.bipush 10, 2) := by decide +kernel
theorem dX0_addSpan_21 : decode cX0_addSpan 21 = .ok (.idiv, 1) := by decide +kernel
theorem dX0_addSpan_22 : decode cX0_addSpan 22 = .ok (.putfield 81, 3) := by decide +kernel
theorem dX0_addSpan_25 : decode cX0_addSpan 25 = .ok (.aload 4, 2) := by decide +kernel
theorem dX0_addSpan_27 : decode cX0_addSpan 27 = .ok (.iload_n 1, 1) := by decide +kernel
theorem dX0_addSpan_28 : decode cX0_addSpan 28 = .ok (.bipush 10, 2) := by decide +kernel
theorem dX0_addSpan_30 : decode cX0_addSpan 30 = .ok (.irem, 1) := by decide +kernel
theorem dX0_addSpan_31 : decode cX0_addSpan 31 = .ok (.putfield 84, 3) := by decide +kernel
theorem dX0_addSpan_34 : decode cX0_addSpan 34 = .ok (.aload 4, 2) := by decide +kernel
theorem dX0_addSpan_36 : decode cX0_addSpan 36 = .ok (.iload_n 2, 1) := by decide +kernel
theorem dX0_addSpan_37 : decode cX0_addSpan 37 = .ok (.putfield 87, 3) := by decide +kernel
theorem dX0_addSpan_40 : decode cX0_addSpan 40 = .ok (.aload 4, 2) := by decide +kernel
theorem dX0_addSpan_42 : decode cX0_addSpan 42 = .ok (.iload_n 3, 1) := by decide +kernel
theorem dX0_addSpan_43 : decode cX0_addSpan 43 = .ok (.putfield 90, 3) := by decide +kernel
theorem dX0_addSpan_46 : decode cX0_addSpan 46 = .ok (.aload_n 0, 1) := by decide +kernel
theorem dX0_addSpan_47 : decode cX0_addSpan 47 = .ok (.dup, 1) := by decide +kernel
theorem dX0_addSpan_48 : decode cX0_addSpan 48 = .ok (.getfield 17, 3) := by decide +kernel
theorem dX0_addSpan_51 : decode cX0_addSpan 51 = .ok (.iconst 1, 1) := by decide +kernel
theorem dX0_addSpan_52 : decode cX0_addSpan 52 = .ok (.iadd, 1) := by decide +kernel
theorem dX0_addSpan_53 : decode cX0_addSpan 53 = .ok (.putfield 17, 3) := by decide +kernel
theorem dX0_addSpan_56 : decode cX0_addSpan 56 = .ok (.aload_n 0, 1) := by decide +kernel
theorem dX0_addSpan_57 : decode cX0_addSpan 57 = .ok (.getfield 17, 3) := by decide +kernel
theorem dX0_addSpan_60 : decode cX0_addSpan 60 = .ok (.iconst 1, 1) := by decide +kernel
theorem dX0_addSpan_61 : decode cX0_addSpan 61 = .ok (.isub, 1) := by decide +kernel
theorem dX0_addSpan_62 : decode cX0_addSpan 62 = .ok (.ireturn, 1) := by decide +kernel
theorem dX0_addToTape_0 : decode cX0_addToTape 0 = .ok (.iconst 0, 1) := by decide +kernel
theorem dX0_addToTape_1 : decode cX0_addToTape 1 = .ok (.istore 4, 2) := by decide +kernel
theorem dX0_addToTape_3 : decode cX0_addToTape 3 = .ok (.iload 4, 2) := by decide +kernel
theorem dX0_addToTape_5 : decode cX0_addToTape 5 = .ok (.iload_n 3, 1) := by decide +kernel
theorem dX0_addToTape_6 : decode cX0_addToTape 6 = .ok (.if_icmp .ge 41, 3) := by decide +kernel
theorem dX0_addToTape_9 : decode cX0_addToTape 9 = .ok (.aload_n 0, 1) := by decide +kernel
theorem dX0_addToTape_10 : decode cX0_addToTape 10 = .ok (.getfield 45, 3) := by decide +kernel
theorem dX0_addToTape_13 : decode cX0_addToTape 13 = .ok (.aload_n 0, 1) := by decide +kernel
theorem dX0_addToTape_14 : decode cX0_addToTape 14 = .ok (.getfield 49, 3) := by decide +kernel
theorem dX0_addToTape_17 : decode cX0_addToTape 17 = .ok (.lload_n 1, 1) := by decide +kernel
theorem dX0_addToTape_18 : decode cX0_addToTape 18 = .ok (.bipush 8, 2) := by decide +kernel
theorem dX0_addToTape_20 : decode cX0_addToTape 20 = .ok (.iload 4, 2) := by decide +kernel
theorem dX0_addToTape_22 : decode cX0_addToTape 22 = .ok (.imul, 1) := by decide +kernel
theorem dX0_addToTape_23 : decode cX0_addToTape 23 = .ok (.lushr, 1) := by decide +kernel
theorem dX0_addToTape_24 : decode cX0_addToTape 24 = .ok (.ldc2_w 93, 3) := by decide +kernel
theorem dX0_addToTape_27 : decode cX0_addToTape 27 = .ok (.land, 1) := by decide +kernel
theorem dX0_addToTape_28 : decode cX0_addToTape 28 = .ok (.l2i, 1) := by decide +kernel
theorem dX0_addToTape_29 : decode cX0_addToTape 29 = .ok (.i2c, 1) := by decide +kernel
theorem dX0_addToTape_30 : decode cX0_addToTape 30 = .ok (.castore, 1) := by decide +kernel
theorem dX0_addToTape_31 : decode cX0_addToTape 31 = .ok (.aload_n 0, 1) := by decide +kernel
theorem dX0_addToTape_32 : decode cX0_addToTape 32 = .ok (.dup, 1) := by decide +kernel
theorem dX0_addToTape_33 : decode cX0_addToTape 33 = .ok (.getfield 49, 3) := by decide +kernel
theorem dX0_addToTape_36 : decode cX0_addToTape 36 = .ok (.iconst 1, 1) := by decide +kernel
theorem dX0_addToTape_37 : decode cX0_addToTape 37 = .ok (.iadd, 1) := by decide +kernel
theorem dX0_addToTape_38 : decode cX0_addToTape 38 = .ok (.putfield 49, 3) := by decide +kernel
theorem dX0_addToTape_41 : decode cX0_addToTape 41 = .ok (.iinc 4 1, 3) := by decide +kernel
theorem dX0_addToTape_44 : decode cX0_addToTape 44 = .ok (.goto (-41), 3) := by decide +kernel
theorem dX0_addToTape_47 : decode cX0_addToTape 47 = .ok (.aload_n 0, 1) := by decide +kernel
theorem dX0_addToTape_48 : decode cX0_addToTape 48 = .ok (.getfield 49, 3) := by decide +kernel
theorem dX0_addToTape_51 : decode cX0_addToTape 51 = .ok (.ireturn, 1) := by decide +kernel
theorem dX0_gives_0 : decode cX0_gives 0 = .ok (.iload_n 1, 1) := by decide +kernel
theorem dX0_gives_1 : decode cX0_gives 1 = .ok (.ifCond .ne 52, 3) := by decide +kernel
theorem dX0_gives_4 : decode cX0_gives 4 = .ok (.aload_n 0, 1) := by decide +kernel
theorem dX0_gives_5 : decode cX0_gives 5 = .ok (.getfield 41, 3) := by decide +kernel
theorem dX0_gives_8 : decode cX0_gives 8 = .ok (.iconst 0, 1) := by decide +kernel
theorem dX0_gives_9 : decode cX0_gives 9 = .ok (.aaload, 1) := by decide +kernel
theorem dX0_gives_10 : decode cX0_gives 10 = .ok (.getfield 95, 3) := by decide +kernel
theorem dX0_gives_13 : decode cX0_gives 13 = .ok (.ifCond .eq 19, 3) := by decide +kernel
theorem dX0_gives_16 : decode cX0_gives 16 = .ok (.aload_n 0, 1) := by decide +kernel
theorem dX0_gives_17 : decode cX0_gives 17 = .ok (.getfield 41, 3) := by decide +kernel
theorem dX0_gives_20 : decode cX0_gives 20 = .ok (.iconst 0, 1) := by decide +kernel
theorem dX0_gives_21 : decode cX0_gives 21 = .ok (.aaload, 1) := by decide +kernel
theorem dX0_gives_22 : decode cX0_gives 22 = .ok (.iload_n 2, 1) := by decide +kernel
theorem dX0_gives_23 : decode cX0_gives 23 = .ok (.iload_n 3, 1) := by decide +kernel
theorem dX0_gives_24 : decode cX0_gives 24 = .ok (.iload 4, 2) := by decide +kernel
theorem dX0_gives_26 : decode cX0_gives 26 = .ok (.invokevirtual 99, 3) := by decide +kernel
theorem dX0_gives_29 : decode cX0_gives 29 = .ok (.goto 12, 3) := by decide +kernel
theorem dX0_gives_32 : decode cX0_gives 32 = .ok (.iload_n 2, 1) := by decide +kernel
theorem dX0_gives_33 : decode cX0_gives 33 = .ok (.ifCond .le 7, 3) := by decide +kernel
theorem dX0_gives_36 : decode cX0_gives 36 = .ok (.iconst 1, 1) := by decide +kernel
theorem dX0_gives_37 : decode cX0_gives 37 = .ok (.goto 4, 3) := by decide +kernel
theorem dX0_gives_40 : decode cX0_gives 40 = .ok (.iconst (-1), 1) := by decide +kernel
theorem dX0_gives_41 : decode cX0_gives 41 = .ok (.istore 5, 2) := by decide +kernel
theorem dX0_gives_43 : decode cX0_gives 43 = .ok (.iload 5, 2) := by decide +kernel
theorem dX0_gives_45 : decode cX0_gives 45 = .ok (.bipush (-9), 2) := by decide +kernel
theorem dX0_gives_47 : decode cX0_gives 47 = .ok (.bipush 9, 2) := by decide +kernel
theorem dX0_gives_49 : decode cX0_gives 49 = .ok (.invokestatic 103, 3) := by decide +kernel
theorem dX0_gives_52 : decode cX0_gives 52 = .ok (.ireturn, 1) := by decide +kernel
theorem dX0_gives_53 : decode cX0_gives 53 = .ok (.aload_n 0, 1) := by decide +kernel
theorem dX0_gives_54 : decode cX0_gives 54 = .ok (.getfield 41, 3) := by decide +kernel
theorem dX0_gives_57 : decode cX0_gives 57 = .ok (.iconst 1, 1) := by decide +kernel
theorem dX0_gives_58 : decode cX0_gives 58 = .ok (.aaload, 1) := by decide +kernel
theorem dX0_gives_59 : decode cX0_gives 59 = .ok (.getfield 95, 3) := by decide +kernel
theorem dX0_gives_62 : decode cX0_gives 62 = .ok (.ifCond .eq 19, 3) := by decide +kernel
theorem dX0_gives_65 : decode cX0_gives 65 = .ok (.aload_n 0, 1) := by decide +kernel
theorem dX0_gives_66 : decode cX0_gives 66 = .ok (.getfield 41, 3) := by decide +kernel
theorem dX0_gives_69 : decode cX0_gives 69 = .ok (.iconst 1, 1) := by decide +kernel
theorem dX0_gives_70 : decode cX0_gives 70 = .ok (.aaload, 1) := by decide +kernel
theorem dX0_gives_71 : decode cX0_gives 71 = .ok (.iload_n 2, 1) := by decide +kernel
theorem dX0_gives_72 : decode cX0_gives 72 = .ok (.iload_n 3, 1) := by decide +kernel
theorem dX0_gives_73 : decode cX0_gives 73 = .ok (.iload 4, 2) := by decide +kernel
theorem dX0_gives_75 : decode cX0_gives 75 = .ok (.invokevirtual 99, 3) := by decide +kernel
theorem dX0_gives_78 : decode cX0_gives 78 = .ok (.goto 9, 3) := by decide +kernel
theorem dX0_gives_81 : decode cX0_gives 81 = .ok (.iload_n 2, 1) := by decide +kernel
theorem dX0_gives_82 : decode cX0_gives 82 = .ok (.bipush 10, 2) := by decide +kernel
theorem dX0_gives_84 : decode cX0_gives 84 = .ok (.idiv, 1) := by decide +kernel
theorem dX0_gives_85 : decode cX0_gives 85 = .ok (.iconst 1, 1) := by decide +kernel
theorem dX0_gives_86 : decode cX0_gives 86 = .ok (.iadd, 1) := by decide +kernel
theorem dX0_gives_87 : decode cX0_gives 87 = .ok (.istore 5, 2) := by decide +kernel
theorem dX0_gives_89 : decode cX0_gives 89 = .ok (.iload 5, 2) := by decide +kernel
theorem dX0_gives_91 : decode cX0_gives 91 = .ok (.iconst 0, 1) := by decide +kernel
theorem dX0_gives_92 : decode cX0_gives 92 = .ok (.bipush 99, 2) := by decide +kernel
theorem dX0_gives_94 : decode cX0_gives 94 = .ok (.invokestatic 103, 3) := by decide +kernel
theorem dX0_gives_97 : decode cX0_gives 97 = .ok (.ireturn, 1) := by decide +kernel
theorem dX0_carryOver_0 : decode cX0_carryOver 0 = .ok (.aload_n 1, 1) := by decide +kernel
theorem dX0_carryOver_1 : decode cX0_carryOver 1 = .ok (.aload_n 0, 1) := by decide +kernel
theorem dX0_carryOver_2 : decode cX0_carryOver 2 = .ok (.getfield 27, 3) := by decide +kernel
theorem dX0_carryOver_5 : decode cX0_carryOver 5 = .ok (.invokevirtual 106, 3) := by decide +kernel
theorem dX0_carryOver_8 : decode cX0_carryOver 8 = .ok (.istore_n 3, 1) := by decide +kernel
theorem dX0_carryOver_9 : decode cX0_carryOver 9 = .ok (.iload_n 3, 1) := by decide +kernel
theorem dX0_carryOver_10 : decode cX0_carryOver 10 = .ok (.iload_n 2, 1) := by decide +kernel
theorem dX0_carryOver_11 : decode cX0_carryOver 11 = .ok (.if_icmp .ge 25, 3) := by decide +kernel
theorem dX0_carryOver_14 : decode cX0_carryOver 14 = .ok (.aload_n 1, 1) := by decide +kernel
theorem dX0_carryOver_15 : decode cX0_carryOver 15 = .ok (.iconst 1, 1) := by decide +kernel
theorem dX0_carryOver_16 : decode cX0_carryOver 16 = .ok (.putfield 110, 3) := by decide +kernel
theorem dX0_carryOver_19 : decode cX0_carryOver 19 = .ok (.aload_n 0, 1) := by decide +kernel
theorem dX0_carryOver_20 : decode cX0_carryOver 20 = .ok (.ldc 113, 2) := by decide +kernel
theorem dX0_carryOver_22 : decode cX0_carryOver 22 = .ok (.aload_n 0, 1) := by decide +kernel
theorem dX0_carryOver_23 : decode cX0_carryOver 23 = .ok (.getfield 30, 3) := by decide +kernel
theorem dX0_carryOver_26 : decode cX0_carryOver 26 = .ok (.iload_n 2, 1) := by decide +kernel
theorem dX0_carryOver_27 : decode cX0_carryOver 27 = .ok (.iadd, 1) := by decide +kernel
theorem dX0_carryOver_28 : decode cX0_carryOver 28 = .ok (.invokestatic 114, 3) := by decide +kernel
theorem dX0_carryOver_31 : decode cX0_carryOver 31 = .ok (.putfield 30, 3) := by decide +kernel
theorem dX0_carryOver_34 : decode cX0_carryOver 34 = .ok (.iconst (-1), 1) := by decide +kernel
theorem dX0_carryOver_35 : decode cX0_carryOver 35 = .ok (.ireturn, 1) := by decide +kernel
theorem dX0_carryOver_36 : decode cX0_carryOver 36 = .ok (.aload_n 0, 1) := by decide +kernel
theorem dX0_carryOver_37 : decode cX0_carryOver 37 = .ok (.iconst 1, 1) := by decide +kernel
theorem dX0_carryOver_38 : decode cX0_carryOver 38 = .ok (.iload_n 2, 1) := by decide +kernel
theorem dX0_carryOver_39 : decode cX0_carryOver 39 = .ok (.iload_n 3, 1) := by decide +kernel
theorem dX0_carryOver_40 : decode cX0_carryOver 40 = .ok (.aload_n 1, 1) := by decide +kernel
theorem dX0_carryOver_41 : decode cX0_carryOver 41 = .ok (.getfield 84, 3) := by decide +kernel
theorem dX0_carryOver_44 : decode cX0_carryOver 44 = .ok (.invokevirtual 120, 3) := by decide +kernel
theorem dX0_carryOver_47 : decode cX0_carryOver 47 = .ok (.istore 4, 2) := by decide +kernel
theorem dX0_carryOver_49 : decode cX0_carryOver 49 = .ok (.aload_n 0, 1) := by decide +kernel
theorem dX0_carryOver_50 : decode cX0_carryOver 50 = .ok (.ldc 113, 2) := by decide +kernel
theorem dX0_carryOver_52 : decode cX0_carryOver 52 = .ok (.aload_n 0, 1) := by decide +kernel
theorem dX0_carryOver_53 : decode cX0_carryOver 53 = .ok (.getfield 33, 3) := by decide +kernel
theorem dX0_carryOver_56 : decode cX0_carryOver 56 = .ok (.iload 4, 2) := by decide +kernel
theorem dX0_carryOver_58 : decode cX0_carryOver 58 = .ok (.iadd, 1) := by decide +kernel
theorem dX0_carryOver_59 : decode cX0_carryOver 59 = .ok (.invokestatic 114, 3) := by decide +kernel
theorem dX0_carryOver_62 : decode cX0_carryOver 62 = .ok (.putfield 33, 3) := by decide +kernel
theorem dX0_carryOver_65 : decode cX0_carryOver 65 = .ok (.iload 4, 2) := by decide +kernel
theorem dX0_carryOver_67 : decode cX0_carryOver 67 = .ok (.ireturn, 1) := by decide +kernel
theorem dX0_passDay_0 : decode cX0_passDay 0 = .ok (.iconst 0, 1) := by decide +kernel
theorem dX0_passDay_1 : decode cX0_passDay 1 = .ok (.istore_n 1, 1) := by decide +kernel
theorem dX0_passDay_2 : decode cX0_passDay 2 = .ok (.iload_n 1, 1) := by decide +kernel
theorem dX0_passDay_3 : decode cX0_passDay 3 = .ok (.aload_n 0, 1) := by decide +kernel
theorem dX0_passDay_4 : decode cX0_passDay 4 = .ok (.getfield 17, 3) := by decide +kernel
theorem dX0_passDay_7 : decode cX0_passDay 7 = .ok (.if_icmp .ge 63, 3) := by decide +kernel
theorem dX0_passDay_10 : decode cX0_passDay 10 = .ok (.aload_n 0, 1) := by decide +kernel
theorem dX0_passDay_11 : decode cX0_passDay 11 = .ok (.getfield 11, 3) := by decide +kernel
theorem dX0_passDay_14 : decode cX0_passDay 14 = .ok (.iload_n 1, 1) := by decide +kernel
theorem dX0_passDay_15 : decode cX0_passDay 15 = .ok (.aaload, 1) := by decide +kernel
theorem dX0_passDay_16 : decode cX0_passDay 16 = .ok (.astore_n 2, 1) := by decide +kernel
theorem dX0_passDay_17 : decode cX0_passDay 17 = .ok (.aload_n 2, 1) := by decide +kernel
theorem dX0_passDay_18 : decode cX0_passDay 18 = .ok (.aload_n 2, 1) := by decide +kernel
theorem dX0_passDay_19 : decode cX0_passDay 19 = .ok (.getfield 124, 3) := by decide +kernel
theorem dX0_passDay_22 : decode cX0_passDay 22 = .ok (.aload_n 0, 1) := by decide +kernel
theorem dX0_passDay_23 : decode cX0_passDay 23 = .ok (.iconst 0, 1) := by decide +kernel
theorem dX0_passDay_24 : decode cX0_passDay 24 = .ok (.aload_n 0, 1) := by decide +kernel
theorem dX0_passDay_25 : decode cX0_passDay 25 = .ok (.getfield 21, 3) := by decide +kernel
theorem dX0_passDay_28 : decode cX0_passDay 28 = .ok (.aload_n 2, 1) := by decide +kernel
theorem dX0_passDay_29 : decode cX0_passDay 29 = .ok (.getfield 124, 3) := by decide +kernel
theorem dX0_passDay_32 : decode cX0_passDay 32 = .ok (.aload_n 2, 1) := by decide +kernel
theorem dX0_passDay_33 : decode cX0_passDay 33 = .ok (.getfield 81, 3) := by decide +kernel
theorem dX0_passDay_36 : decode cX0_passDay 36 = .ok (.invokevirtual 120, 3) := by decide +kernel
theorem dX0_passDay_39 : decode cX0_passDay 39 = .ok (.iadd, 1) := by decide +kernel
theorem dX0_passDay_40 : decode cX0_passDay 40 = .ok (.iconst 0, 1) := by decide +kernel
theorem dX0_passDay_41 : decode cX0_passDay 41 = .ok (.bipush 9, 2) := by decide +kernel
theorem dX0_passDay_43 : decode cX0_passDay 43 = .ok (.invokestatic 103, 3) := by decide +kernel
theorem dX0_passDay_46 : decode cX0_passDay 46 = .ok (.putfield 124, 3) := by decide +kernel
theorem dX0_passDay_49 : decode cX0_passDay 49 = .ok (.aload_n 2, 1) := by decide +kernel
theorem dX0_passDay_50 : decode cX0_passDay 50 = .ok (.bipush 99, 2) := by decide +kernel
theorem dX0_passDay_52 : decode cX0_passDay 52 = .ok (.aload_n 2, 1) := by decide +kernel
theorem dX0_passDay_53 : decode cX0_passDay 53 = .ok (.getfield 127, 3) := by decide +kernel
theorem dX0_passDay_56 : decode cX0_passDay 56 = .ok (.iconst 1, 1) := by decide +kernel
theorem dX0_passDay_57 : decode cX0_passDay 57 = .ok (.iadd, 1) := by decide +kernel
theorem dX0_passDay_58 : decode cX0_passDay 58 = .ok (.invokestatic 114, 3) := by decide +kernel
theorem dX0_passDay_61 : decode cX0_passDay 61 = .ok (.putfield 127, 3) := by decide +kernel
theorem dX0_passDay_64 : decode cX0_passDay 64 = .ok (.iinc 1 1, 3) := by decide +kernel
theorem dX0_passDay_67 : decode cX0_passDay 67 = .ok (.goto (-65), 3) := by decide +kernel
theorem dX0_passDay_70 : decode cX0_passDay 70 = .ok (.aload_n 0, 1) := by decide +kernel
theorem dX0_passDay_71 : decode cX0_passDay 71 = .ok (.dup, 1) := by decide +kernel
theorem dX0_passDay_72 : decode cX0_passDay 72 = .ok (.getfield 27, 3) := by decide +kernel
theorem dX0_passDay_75 : decode cX0_passDay 75 = .ok (.iconst 1, 1) := by decide +kernel
theorem dX0_passDay_76 : decode cX0_passDay 76 = .ok (.iadd, 1) := by decide +kernel
theorem dX0_passDay_77 : decode cX0_passDay 77 = .ok (.putfield 27, 3) := by decide +kernel
theorem dX0_passDay_80 : decode cX0_passDay 80 = .ok (.return_, 1) := by decide +kernel
theorem dX0_passDayByDraws_0 : decode cX0_passDayByDraws 0 = .ok (.aload_n 0, 1) := by decide +kernel
theorem dX0_passDayByDraws_1 : decode cX0_passDayByDraws 1 = .ok (.iconst 0, 1) := by decide +kernel
theorem dX0_passDayByDraws_2 : decode cX0_passDayByDraws 2 = .ok (.aload_n 0, 1) := by decide +kernel
theorem dX0_passDayByDraws_3 : decode cX0_passDayByDraws 3 = .ok (.invokevirtual 130, 3) := by decide +kernel
theorem dX0_passDayByDraws_6 : decode cX0_passDayByDraws 6 = .ok (.bipush 16, 2) := by decide +kernel
theorem dX0_passDayByDraws_8 : decode cX0_passDayByDraws 8 = .ok (.irem, 1) := by decide +kernel
theorem dX0_passDayByDraws_9 : decode cX0_passDayByDraws 9 = .ok (.bipush 6, 2) := by decide +kernel
theorem dX0_passDayByDraws_11 : decode cX0_passDayByDraws 11 = .ok (.isub, 1) := by decide +kernel
theorem dX0_passDayByDraws_12 : decode cX0_passDayByDraws 12 = .ok (.invokestatic 134, 3) := by decide +kernel
theorem dX0_passDayByDraws_15 : decode cX0_passDayByDraws 15 = .ok (.putfield 21, 3) := by decide +kernel
theorem dX0_passDayByDraws_18 : decode cX0_passDayByDraws 18 = .ok (.iconst 0, 1) := by decide +kernel
theorem dX0_passDayByDraws_19 : decode cX0_passDayByDraws 19 = .ok (.istore_n 1, 1) := by decide +kernel
theorem dX0_passDayByDraws_20 : decode cX0_passDayByDraws 20 = .ok (.aload_n 0, 1) := by decide +kernel
theorem dX0_passDayByDraws_21 : decode cX0_passDayByDraws 21 = .ok (.getfield 17, 3) := by decide +kernel
theorem dX0_passDayByDraws_24 : decode cX0_passDayByDraws 24 = .ok (.ifCond .le 44, 3) := by decide +kernel
theorem dX0_passDayByDraws_27 : decode cX0_passDayByDraws 27 = .ok (.aload_n 0, 1) := by decide +kernel
theorem dX0_passDayByDraws_28 : decode cX0_passDayByDraws 28 = .ok (.getfield 11, 3) := by decide +kernel
theorem dX0_passDayByDraws_31 : decode cX0_passDayByDraws 31 = .ok (.aload_n 0, 1) := by decide +kernel
theorem dX0_passDayByDraws_32 : decode cX0_passDayByDraws 32 = .ok (.invokevirtual 130, 3) := by decide +kernel
theorem dX0_passDayByDraws_35 : decode cX0_passDayByDraws 35 = .ok (.aload_n 0, 1) := by decide +kernel
theorem dX0_passDayByDraws_36 : decode cX0_passDayByDraws 36 = .ok (.getfield 17, 3) := by decide +kernel
theorem dX0_passDayByDraws_39 : decode cX0_passDayByDraws 39 = .ok (.irem, 1) := by decide +kernel
theorem dX0_passDayByDraws_40 : decode cX0_passDayByDraws 40 = .ok (.aaload, 1) := by decide +kernel
theorem dX0_passDayByDraws_41 : decode cX0_passDayByDraws 41 = .ok (.astore_n 2, 1) := by decide +kernel
theorem dX0_passDayByDraws_42 : decode cX0_passDayByDraws 42 = .ok (.aload_n 0, 1) := by decide +kernel
theorem dX0_passDayByDraws_43 : decode cX0_passDayByDraws 43 = .ok (.invokevirtual 130, 3) := by decide +kernel
theorem dX0_passDayByDraws_46 : decode cX0_passDayByDraws 46 = .ok (.bipush 30, 2) := by decide +kernel
theorem dX0_passDayByDraws_48 : decode cX0_passDayByDraws 48 = .ok (.irem, 1) := by decide +kernel
theorem dX0_passDayByDraws_49 : decode cX0_passDayByDraws 49 = .ok (.istore_n 3, 1) := by decide +kernel
theorem dX0_passDayByDraws_50 : decode cX0_passDayByDraws 50 = .ok (.aload_n 2, 1) := by decide +kernel
theorem dX0_passDayByDraws_51 : decode cX0_passDayByDraws 51 = .ok (.getfield 110, 3) := by decide +kernel
theorem dX0_passDayByDraws_54 : decode cX0_passDayByDraws 54 = .ok (.ifCond .ne 14, 3) := by decide +kernel
theorem dX0_passDayByDraws_57 : decode cX0_passDayByDraws 57 = .ok (.aload_n 0, 1) := by decide +kernel
theorem dX0_passDayByDraws_58 : decode cX0_passDayByDraws 58 = .ok (.aload_n 2, 1) := by decide +kernel
theorem dX0_passDayByDraws_59 : decode cX0_passDayByDraws 59 = .ok (.iload_n 3, 1) := by decide +kernel
theorem dX0_passDayByDraws_60 : decode cX0_passDayByDraws 60 = .ok (.invokevirtual 137, 3) := by decide +kernel
theorem dX0_passDayByDraws_63 : decode cX0_passDayByDraws 63 = .ok (.ifCond .ge 5, 3) := by decide +kernel
theorem dX0_passDayByDraws_66 : decode cX0_passDayByDraws 66 = .ok (.iconst 1, 1) := by decide +kernel
theorem dX0_passDayByDraws_67 : decode cX0_passDayByDraws 67 = .ok (.istore_n 1, 1) := by decide +kernel
theorem dX0_passDayByDraws_68 : decode cX0_passDayByDraws 68 = .ok (.aload_n 0, 1) := by decide +kernel
theorem dX0_passDayByDraws_69 : decode cX0_passDayByDraws 69 = .ok (.invokevirtual 141, 3) := by decide +kernel
theorem dX0_passDayByDraws_72 : decode cX0_passDayByDraws 72 = .ok (.iload_n 1, 1) := by decide +kernel
theorem dX0_passDayByDraws_73 : decode cX0_passDayByDraws 73 = .ok (.ireturn, 1) := by decide +kernel
theorem dX0_draw_0 : decode cX0_draw 0 = .ok (.aload_n 0, 1) := by decide +kernel
theorem dX0_draw_1 : decode cX0_draw 1 = .ok (.aload_n 0, 1) := by decide +kernel
theorem dX0_draw_2 : decode cX0_draw 2 = .ok (.getfield 36, 3) := by decide +kernel
theorem dX0_draw_5 : decode cX0_draw 5 = .ok (.ldc 144, 2) := by decide +kernel
theorem dX0_draw_7 : decode cX0_draw 7 = .ok (.imul, 1) := by decide +kernel
theorem dX0_draw_8 : decode cX0_draw 8 = .ok (.sipush 12345, 3) := by decide +kernel
theorem dX0_draw_11 : decode cX0_draw 11 = .ok (.iadd, 1) := by decide +kernel
theorem dX0_draw_12 : decode cX0_draw 12 = .ok (.putfield 36, 3) := by decide +kernel
theorem dX0_draw_15 : decode cX0_draw 15 = .ok (.aload_n 0, 1) := by decide +kernel
theorem dX0_draw_16 : decode cX0_draw 16 = .ok (.getfield 36, 3) := by decide +kernel
theorem dX0_draw_19 : decode cX0_draw 19 = .ok (.bipush 8, 2) := by decide +kernel
theorem dX0_draw_21 : decode cX0_draw 21 = .ok (.iushr, 1) := by decide +kernel
theorem dX0_draw_22 : decode cX0_draw 22 = .ok (.ireturn, 1) := by decide +kernel
theorem dX0_bearing_0 : decode cX0_bearing 0 = .ok (.iconst 0, 1) := by decide +kernel
theorem dX0_bearing_1 : decode cX0_bearing 1 = .ok (.istore_n 2, 1) := by decide +kernel
theorem dX0_bearing_2 : decode cX0_bearing 2 = .ok (.iconst 0, 1) := by decide +kernel
theorem dX0_bearing_3 : decode cX0_bearing 3 = .ok (.istore_n 3, 1) := by decide +kernel
theorem dX0_bearing_4 : decode cX0_bearing 4 = .ok (.iload_n 3, 1) := by decide +kernel
theorem dX0_bearing_5 : decode cX0_bearing 5 = .ok (.aload_n 0, 1) := by decide +kernel
theorem dX0_bearing_6 : decode cX0_bearing 6 = .ok (.getfield 17, 3) := by decide +kernel
theorem dX0_bearing_9 : decode cX0_bearing 9 = .ok (.if_icmp .ge 32, 3) := by decide +kernel
theorem dX0_bearing_12 : decode cX0_bearing 12 = .ok (.aload_n 0, 1) := by decide +kernel
theorem dX0_bearing_13 : decode cX0_bearing 13 = .ok (.getfield 11, 3) := by decide +kernel
theorem dX0_bearing_16 : decode cX0_bearing 16 = .ok (.iload_n 3, 1) := by decide +kernel
theorem dX0_bearing_17 : decode cX0_bearing 17 = .ok (.aaload, 1) := by decide +kernel
theorem dX0_bearing_18 : decode cX0_bearing 18 = .ok (.aload_n 0, 1) := by decide +kernel
theorem dX0_bearing_19 : decode cX0_bearing 19 = .ok (.getfield 27, 3) := by decide +kernel
theorem dX0_bearing_22 : decode cX0_bearing 22 = .ok (.invokevirtual 106, 3) := by decide +kernel
theorem dX0_bearing_25 : decode cX0_bearing 25 = .ok (.iload_n 1, 1) := by decide +kernel
theorem dX0_bearing_26 : decode cX0_bearing 26 = .ok (.if_icmp .lt 9, 3) := by decide +kernel
theorem dX0_bearing_29 : decode cX0_bearing 29 = .ok (.iload_n 2, 1) := by decide +kernel
theorem dX0_bearing_30 : decode cX0_bearing 30 = .ok (.iconst 1, 1) := by decide +kernel
theorem dX0_bearing_31 : decode cX0_bearing 31 = .ok (.iload_n 3, 1) := by decide +kernel
theorem dX0_bearing_32 : decode cX0_bearing 32 = .ok (.ishl, 1) := by decide +kernel
theorem dX0_bearing_33 : decode cX0_bearing 33 = .ok (.ior, 1) := by decide +kernel
theorem dX0_bearing_34 : decode cX0_bearing 34 = .ok (.istore_n 2, 1) := by decide +kernel
theorem dX0_bearing_35 : decode cX0_bearing 35 = .ok (.iinc 3 1, 3) := by decide +kernel
theorem dX0_bearing_38 : decode cX0_bearing 38 = .ok (.goto (-34), 3) := by decide +kernel
theorem dX0_bearing_41 : decode cX0_bearing 41 = .ok (.iload_n 2, 1) := by decide +kernel
theorem dX0_bearing_42 : decode cX0_bearing 42 = .ok (.ireturn, 1) := by decide +kernel
theorem dX0_reachOver_0 : decode cX0_reachOver 0 = .ok (.iconst 1, 1) := by decide +kernel
theorem dX0_reachOver_1 : decode cX0_reachOver 1 = .ok (.iload_n 1, 1) := by decide +kernel
theorem dX0_reachOver_2 : decode cX0_reachOver 2 = .ok (.ishl, 1) := by decide +kernel
theorem dX0_reachOver_3 : decode cX0_reachOver 3 = .ok (.istore_n 3, 1) := by decide +kernel
theorem dX0_reachOver_4 : decode cX0_reachOver 4 = .ok (.iconst 0, 1) := by decide +kernel
theorem dX0_reachOver_5 : decode cX0_reachOver 5 = .ok (.istore 4, 2) := by decide +kernel
theorem dX0_reachOver_7 : decode cX0_reachOver 7 = .ok (.iload 4, 2) := by decide +kernel
theorem dX0_reachOver_9 : decode cX0_reachOver 9 = .ok (.bipush 8, 2) := by decide +kernel
theorem dX0_reachOver_11 : decode cX0_reachOver 11 = .ok (.if_icmp .ge 73, 3) := by decide +kernel
theorem dX0_reachOver_14 : decode cX0_reachOver 14 = .ok (.iload_n 3, 1) := by decide +kernel
theorem dX0_reachOver_15 : decode cX0_reachOver 15 = .ok (.istore 5, 2) := by decide +kernel
theorem dX0_reachOver_17 : decode cX0_reachOver 17 = .ok (.iconst 0, 1) := by decide +kernel
theorem dX0_reachOver_18 : decode cX0_reachOver 18 = .ok (.istore 6, 2) := by decide +kernel
theorem dX0_reachOver_20 : decode cX0_reachOver 20 = .ok (.iload 6, 2) := by decide +kernel
theorem dX0_reachOver_22 : decode cX0_reachOver 22 = .ok (.aload_n 0, 1) := by decide +kernel
theorem dX0_reachOver_23 : decode cX0_reachOver 23 = .ok (.getfield 17, 3) := by decide +kernel
theorem dX0_reachOver_26 : decode cX0_reachOver 26 = .ok (.if_icmp .ge 43, 3) := by decide +kernel
theorem dX0_reachOver_29 : decode cX0_reachOver 29 = .ok (.aload_n 0, 1) := by decide +kernel
theorem dX0_reachOver_30 : decode cX0_reachOver 30 = .ok (.getfield 11, 3) := by decide +kernel
theorem dX0_reachOver_33 : decode cX0_reachOver 33 = .ok (.iload 6, 2) := by decide +kernel
theorem dX0_reachOver_35 : decode cX0_reachOver 35 = .ok (.aaload, 1) := by decide +kernel
theorem dX0_reachOver_36 : decode cX0_reachOver 36 = .ok (.invokevirtual 145, 3) := by decide +kernel
theorem dX0_reachOver_39 : decode cX0_reachOver 39 = .ok (.istore 7, 2) := by decide +kernel
theorem dX0_reachOver_41 : decode cX0_reachOver 41 = .ok (.iload_n 2, 1) := by decide +kernel
theorem dX0_reachOver_42 : decode cX0_reachOver 42 = .ok (.iload 6, 2) := by decide +kernel
theorem dX0_reachOver_44 : decode cX0_reachOver 44 = .ok (.ishr, 1) := by decide +kernel
theorem dX0_reachOver_45 : decode cX0_reachOver 45 = .ok (.iconst 1, 1) := by decide +kernel
theorem dX0_reachOver_46 : decode cX0_reachOver 46 = .ok (.iand, 1) := by decide +kernel
theorem dX0_reachOver_47 : decode cX0_reachOver 47 = .ok (.iconst 1, 1) := by decide +kernel
theorem dX0_reachOver_48 : decode cX0_reachOver 48 = .ok (.if_icmp .ne 15, 3) := by decide +kernel
theorem dX0_reachOver_51 : decode cX0_reachOver 51 = .ok (.iload_n 3, 1) := by decide +kernel
theorem dX0_reachOver_52 : decode cX0_reachOver 52 = .ok (.iload 7, 2) := by decide +kernel
theorem dX0_reachOver_54 : decode cX0_reachOver 54 = .ok (.iand, 1) := by decide +kernel
theorem dX0_reachOver_55 : decode cX0_reachOver 55 = .ok (.ifCond .eq 8, 3) := by decide +kernel
theorem dX0_reachOver_58 : decode cX0_reachOver 58 = .ok (.iload_n 3, 1) := by decide +kernel
theorem dX0_reachOver_59 : decode cX0_reachOver 59 = .ok (.iload 7, 2) := by decide +kernel
theorem dX0_reachOver_61 : decode cX0_reachOver 61 = .ok (.ior, 1) := by decide +kernel
theorem dX0_reachOver_62 : decode cX0_reachOver 62 = .ok (.istore_n 3, 1) := by decide +kernel
theorem dX0_reachOver_63 : decode cX0_reachOver 63 = .ok (.iinc 6 1, 3) := by decide +kernel
theorem dX0_reachOver_66 : decode cX0_reachOver 66 = .ok (.goto (-46), 3) := by decide +kernel
theorem dX0_reachOver_69 : decode cX0_reachOver 69 = .ok (.iload_n 3, 1) := by decide +kernel
theorem dX0_reachOver_70 : decode cX0_reachOver 70 = .ok (.iload 5, 2) := by decide +kernel
theorem dX0_reachOver_72 : decode cX0_reachOver 72 = .ok (.if_icmp .ne 6, 3) := by decide +kernel
theorem dX0_reachOver_75 : decode cX0_reachOver 75 = .ok (.goto 9, 3) := by decide +kernel
theorem dX0_reachOver_78 : decode cX0_reachOver 78 = .ok (.iinc 4 1, 3) := by decide +kernel
theorem dX0_reachOver_81 : decode cX0_reachOver 81 = .ok (.goto (-74), 3) := by decide +kernel
theorem dX0_reachOver_84 : decode cX0_reachOver 84 = .ok (.iload_n 3, 1) := by decide +kernel
theorem dX0_reachOver_85 : decode cX0_reachOver 85 = .ok (.ireturn, 1) := by decide +kernel
theorem dX0_joins_0 : decode cX0_joins 0 = .ok (.aload_n 0, 1) := by decide +kernel
theorem dX0_joins_1 : decode cX0_joins 1 = .ok (.iload_n 1, 1) := by decide +kernel
theorem dX0_joins_2 : decode cX0_joins 2 = .ok (.iload_n 3, 1) := by decide +kernel
theorem dX0_joins_3 : decode cX0_joins 3 = .ok (.invokevirtual 148, 3) := by decide +kernel
theorem dX0_joins_6 : decode cX0_joins 6 = .ok (.iload_n 2, 1) := by decide +kernel
theorem dX0_joins_7 : decode cX0_joins 7 = .ok (.ishr, 1) := by decide +kernel
theorem dX0_joins_8 : decode cX0_joins 8 = .ok (.iconst 1, 1) := by decide +kernel
theorem dX0_joins_9 : decode cX0_joins 9 = .ok (.iand, 1) := by decide +kernel
theorem dX0_joins_10 : decode cX0_joins 10 = .ok (.iconst 1, 1) := by decide +kernel
theorem dX0_joins_11 : decode cX0_joins 11 = .ok (.if_icmp .ne 7, 3) := by decide +kernel
theorem dX0_joins_14 : decode cX0_joins 14 = .ok (.iconst 1, 1) := by decide +kernel
theorem dX0_joins_15 : decode cX0_joins 15 = .ok (.goto 4, 3) := by decide +kernel
theorem dX0_joins_18 : decode cX0_joins 18 = .ok (.iconst 0, 1) := by decide +kernel
theorem dX0_joins_19 : decode cX0_joins 19 = .ok (.ireturn, 1) := by decide +kernel
theorem dX0_flourFor_0 : decode cX0_flourFor 0 = .ok (.iconst 0, 1) := by decide +kernel
theorem dX0_flourFor_1 : decode cX0_flourFor 1 = .ok (.istore_n 2, 1) := by decide +kernel
theorem dX0_flourFor_2 : decode cX0_flourFor 2 = .ok (.iconst 0, 1) := by decide +kernel
theorem dX0_flourFor_3 : decode cX0_flourFor 3 = .ok (.istore_n 3, 1) := by decide +kernel
theorem dX0_flourFor_4 : decode cX0_flourFor 4 = .ok (.iload_n 3, 1) := by decide +kernel
theorem dX0_flourFor_5 : decode cX0_flourFor 5 = .ok (.aload_n 0, 1) := by decide +kernel
theorem dX0_flourFor_6 : decode cX0_flourFor 6 = .ok (.getfield 17, 3) := by decide +kernel
theorem dX0_flourFor_9 : decode cX0_flourFor 9 = .ok (.if_icmp .ge 30, 3) := by decide +kernel
theorem dX0_flourFor_12 : decode cX0_flourFor 12 = .ok (.iload_n 1, 1) := by decide +kernel
theorem dX0_flourFor_13 : decode cX0_flourFor 13 = .ok (.iload_n 3, 1) := by decide +kernel
theorem dX0_flourFor_14 : decode cX0_flourFor 14 = .ok (.ishr, 1) := by decide +kernel
theorem dX0_flourFor_15 : decode cX0_flourFor 15 = .ok (.iconst 1, 1) := by decide +kernel
theorem dX0_flourFor_16 : decode cX0_flourFor 16 = .ok (.iand, 1) := by decide +kernel
theorem dX0_flourFor_17 : decode cX0_flourFor 17 = .ok (.iconst 1, 1) := by decide +kernel
theorem dX0_flourFor_18 : decode cX0_flourFor 18 = .ok (.if_icmp .ne 15, 3) := by decide +kernel
theorem dX0_flourFor_21 : decode cX0_flourFor 21 = .ok (.iload_n 2, 1) := by decide +kernel
theorem dX0_flourFor_22 : decode cX0_flourFor 22 = .ok (.aload_n 0, 1) := by decide +kernel
theorem dX0_flourFor_23 : decode cX0_flourFor 23 = .ok (.getfield 11, 3) := by decide +kernel
theorem dX0_flourFor_26 : decode cX0_flourFor 26 = .ok (.iload_n 3, 1) := by decide +kernel
theorem dX0_flourFor_27 : decode cX0_flourFor 27 = .ok (.aaload, 1) := by decide +kernel
theorem dX0_flourFor_28 : decode cX0_flourFor 28 = .ok (.invokevirtual 151, 3) := by decide +kernel
theorem dX0_flourFor_31 : decode cX0_flourFor 31 = .ok (.iadd, 1) := by decide +kernel
theorem dX0_flourFor_32 : decode cX0_flourFor 32 = .ok (.istore_n 2, 1) := by decide +kernel
theorem dX0_flourFor_33 : decode cX0_flourFor 33 = .ok (.iinc 3 1, 3) := by decide +kernel
theorem dX0_flourFor_36 : decode cX0_flourFor 36 = .ok (.goto (-32), 3) := by decide +kernel
theorem dX0_flourFor_39 : decode cX0_flourFor 39 = .ok (.iload_n 2, 1) := by decide +kernel
theorem dX0_flourFor_40 : decode cX0_flourFor 40 = .ok (.ireturn, 1) := by decide +kernel
theorem dX0_bakeAllAnew_0 : decode cX0_bakeAllAnew 0 = .ok (.iconst 0, 1) := by decide +kernel
theorem dX0_bakeAllAnew_1 : decode cX0_bakeAllAnew 1 = .ok (.istore_n 1, 1) := by decide +kernel
theorem dX0_bakeAllAnew_2 : decode cX0_bakeAllAnew 2 = .ok (.iload_n 1, 1) := by decide +kernel
theorem dX0_bakeAllAnew_3 : decode cX0_bakeAllAnew 3 = .ok (.aload_n 0, 1) := by decide +kernel
theorem dX0_bakeAllAnew_4 : decode cX0_bakeAllAnew 4 = .ok (.getfield 17, 3) := by decide +kernel
theorem dX0_bakeAllAnew_7 : decode cX0_bakeAllAnew 7 = .ok (.if_icmp .ge 18, 3) := by decide +kernel
theorem dX0_bakeAllAnew_10 : decode cX0_bakeAllAnew 10 = .ok (.aload_n 0, 1) := by decide +kernel
theorem dX0_bakeAllAnew_11 : decode cX0_bakeAllAnew 11 = .ok (.getfield 11, 3) := by decide +kernel
theorem dX0_bakeAllAnew_14 : decode cX0_bakeAllAnew 14 = .ok (.iload_n 1, 1) := by decide +kernel
theorem dX0_bakeAllAnew_15 : decode cX0_bakeAllAnew 15 = .ok (.aaload, 1) := by decide +kernel
theorem dX0_bakeAllAnew_16 : decode cX0_bakeAllAnew 16 = .ok (.invokevirtual 78, 3) := by decide +kernel
theorem dX0_bakeAllAnew_19 : decode cX0_bakeAllAnew 19 = .ok (.iinc 1 1, 3) := by decide +kernel
theorem dX0_bakeAllAnew_22 : decode cX0_bakeAllAnew 22 = .ok (.goto (-20), 3) := by decide +kernel
theorem dX0_bakeAllAnew_25 : decode cX0_bakeAllAnew 25 = .ok (.return_, 1) := by decide +kernel
theorem dX0_rightOnes_0 : decode cX0_rightOnes 0 = .ok (.iconst 0, 1) := by decide +kernel
theorem dX0_rightOnes_1 : decode cX0_rightOnes 1 = .ok (.istore_n 2, 1) := by decide +kernel
theorem dX0_rightOnes_2 : decode cX0_rightOnes 2 = .ok (.iload_n 2, 1) := by decide +kernel
theorem dX0_rightOnes_3 : decode cX0_rightOnes 3 = .ok (.aload_n 1, 1) := by decide +kernel
theorem dX0_rightOnes_4 : decode cX0_rightOnes 4 = .ok (.getfield 154, 3) := by decide +kernel
theorem dX0_rightOnes_7 : decode cX0_rightOnes 7 = .ok (.if_icmp .ge 41, 3) := by decide +kernel
theorem dX0_rightOnes_10 : decode cX0_rightOnes 10 = .ok (.aload_n 0, 1) := by decide +kernel
theorem dX0_rightOnes_11 : decode cX0_rightOnes 11 = .ok (.iload_n 2, 1) := by decide +kernel
theorem dX0_rightOnes_12 : decode cX0_rightOnes 12 = .ok (.invokevirtual 159, 3) := by decide +kernel
theorem dX0_rightOnes_15 : decode cX0_rightOnes 15 = .ok (.ifCond .eq 25, 3) := by decide +kernel
theorem dX0_rightOnes_18 : decode cX0_rightOnes 18 = .ok (.aload_n 0, 1) := by decide +kernel
theorem dX0_rightOnes_19 : decode cX0_rightOnes 19 = .ok (.getfield 11, 3) := by decide +kernel
theorem dX0_rightOnes_22 : decode cX0_rightOnes 22 = .ok (.iload_n 2, 1) := by decide +kernel
theorem dX0_rightOnes_23 : decode cX0_rightOnes 23 = .ok (.aaload, 1) := by decide +kernel
theorem dX0_rightOnes_24 : decode cX0_rightOnes 24 = .ok (.aload_n 0, 1) := by decide +kernel
theorem dX0_rightOnes_25 : decode cX0_rightOnes 25 = .ok (.getfield 27, 3) := by decide +kernel
theorem dX0_rightOnes_28 : decode cX0_rightOnes 28 = .ok (.invokevirtual 106, 3) := by decide +kernel
theorem dX0_rightOnes_31 : decode cX0_rightOnes 31 = .ok (.aload_n 1, 1) := by decide +kernel
theorem dX0_rightOnes_32 : decode cX0_rightOnes 32 = .ok (.getfield 163, 3) := by decide +kernel
theorem dX0_rightOnes_35 : decode cX0_rightOnes 35 = .ok (.iload_n 2, 1) := by decide +kernel
theorem dX0_rightOnes_36 : decode cX0_rightOnes 36 = .ok (.iaload, 1) := by decide +kernel
theorem dX0_rightOnes_37 : decode cX0_rightOnes 37 = .ok (.if_icmp .eq 5, 3) := by decide +kernel
theorem dX0_rightOnes_40 : decode cX0_rightOnes 40 = .ok (.iload_n 2, 1) := by decide +kernel
theorem dX0_rightOnes_41 : decode cX0_rightOnes 41 = .ok (.ireturn, 1) := by decide +kernel
theorem dX0_rightOnes_42 : decode cX0_rightOnes 42 = .ok (.iinc 2 1, 3) := by decide +kernel
theorem dX0_rightOnes_45 : decode cX0_rightOnes 45 = .ok (.goto (-43), 3) := by decide +kernel
theorem dX0_rightOnes_48 : decode cX0_rightOnes 48 = .ok (.aload_n 1, 1) := by decide +kernel
theorem dX0_rightOnes_49 : decode cX0_rightOnes 49 = .ok (.getfield 154, 3) := by decide +kernel
theorem dX0_rightOnes_52 : decode cX0_rightOnes 52 = .ok (.ireturn, 1) := by decide +kernel
theorem dX1_init_0 : decode cX1_init 0 = .ok (.aload_n 0, 1) := by decide +kernel
theorem dX1_init_1 : decode cX1_init 1 = .ok (.invokespecial 3, 3) := by decide +kernel
theorem dX1_init_4 : decode cX1_init 4 = .ok (.aload_n 0, 1) := by decide +kernel
theorem dX1_init_5 : decode cX1_init 5 = .ok (.iconst 0, 1) := by decide +kernel
theorem dX1_init_6 : decode cX1_init 6 = .ok (.putfield 9, 3) := by decide +kernel
theorem dX1_init_9 : decode cX1_init 9 = .ok (.aload_n 0, 1) := by decide +kernel
theorem dX1_init_10 : decode cX1_init 10 = .ok (.iconst 0, 1) := by decide +kernel
theorem dX1_init_11 : decode cX1_init 11 = .ok (.putfield 15, 3) := by decide +kernel
theorem dX1_init_14 : decode cX1_init 14 = .ok (.aload_n 0, 1) := by decide +kernel
theorem dX1_init_15 : decode cX1_init 15 = .ok (.bipush 60, 2) := by decide +kernel
theorem dX1_init_17 : decode cX1_init 17 = .ok (.newarray .int, 2) := by decide +kernel
theorem dX1_init_19 : decode cX1_init 19 = .ok (.putfield 19, 3) := by decide +kernel
theorem dX1_init_22 : decode cX1_init 22 = .ok (.aload_n 0, 1) := by decide +kernel
theorem dX1_init_23 : decode cX1_init 23 = .ok (.bipush 60, 2) := by decide +kernel
theorem dX1_init_25 : decode cX1_init 25 = .ok (.newarray .int, 2) := by decide +kernel
theorem dX1_init_27 : decode cX1_init 27 = .ok (.putfield 23, 3) := by decide +kernel
theorem dX1_init_30 : decode cX1_init 30 = .ok (.return_, 1) := by decide +kernel
theorem dX1_write_0 : decode cX1_write 0 = .ok (.aload_n 0, 1) := by decide +kernel
theorem dX1_write_1 : decode cX1_write 1 = .ok (.iload_n 2, 1) := by decide +kernel
theorem dX1_write_2 : decode cX1_write 2 = .ok (.iconst 0, 1) := by decide +kernel
theorem dX1_write_3 : decode cX1_write 3 = .ok (.bipush 60, 2) := by decide +kernel
theorem dX1_write_5 : decode cX1_write 5 = .ok (.invokestatic 26, 3) := by decide +kernel
theorem dX1_write_8 : decode cX1_write 8 = .ok (.putfield 15, 3) := by decide +kernel
theorem dX1_write_11 : decode cX1_write 11 = .ok (.aload_n 1, 1) := by decide +kernel
theorem dX1_write_12 : decode cX1_write 12 = .ok (.iconst 0, 1) := by decide +kernel
theorem dX1_write_13 : decode cX1_write 13 = .ok (.aload_n 0, 1) := by decide +kernel
theorem dX1_write_14 : decode cX1_write 14 = .ok (.getfield 19, 3) := by decide +kernel
theorem dX1_write_17 : decode cX1_write 17 = .ok (.iconst 0, 1) := by decide +kernel
theorem dX1_write_18 : decode cX1_write 18 = .ok (.aload_n 0, 1) := by decide +kernel
theorem dX1_write_19 : decode cX1_write 19 = .ok (.getfield 15, 3) := by decide +kernel
theorem dX1_write_22 : decode cX1_write 22 = .ok (.invokestatic 30, 3) := by decide +kernel
theorem dX1_write_25 : decode cX1_write 25 = .ok (.aload_n 0, 1) := by decide +kernel
theorem dX1_write_26 : decode cX1_write 26 = .ok (.iconst 1, 1) := by decide +kernel
theorem dX1_write_27 : decode cX1_write 27 = .ok (.putfield 9, 3) := by decide +kernel
theorem dX1_write_30 : decode cX1_write 30 = .ok (.return_, 1) := by decide +kernel
theorem dX1_takeFrom_0 : decode cX1_takeFrom 0 = .ok (.aload_n 0, 1) := by decide +kernel
theorem dX1_takeFrom_1 : decode cX1_takeFrom 1 = .ok (.aload_n 1, 1) := by decide +kernel
theorem dX1_takeFrom_2 : decode cX1_takeFrom 2 = .ok (.getfield 19, 3) := by decide +kernel
theorem dX1_takeFrom_5 : decode cX1_takeFrom 5 = .ok (.aload_n 1, 1) := by decide +kernel
theorem dX1_takeFrom_6 : decode cX1_takeFrom 6 = .ok (.getfield 15, 3) := by decide +kernel
theorem dX1_takeFrom_9 : decode cX1_takeFrom 9 = .ok (.invokevirtual 36, 3) := by decide +kernel
theorem dX1_takeFrom_12 : decode cX1_takeFrom 12 = .ok (.aload_n 0, 1) := by decide +kernel
theorem dX1_takeFrom_13 : decode cX1_takeFrom 13 = .ok (.aload_n 1, 1) := by decide +kernel
theorem dX1_takeFrom_14 : decode cX1_takeFrom 14 = .ok (.getfield 9, 3) := by decide +kernel
theorem dX1_takeFrom_17 : decode cX1_takeFrom 17 = .ok (.putfield 9, 3) := by decide +kernel
theorem dX1_takeFrom_20 : decode cX1_takeFrom 20 = .ok (.return_, 1) := by decide +kernel
theorem dX1_workOut_0 : decode cX1_workOut 0 = .ok (.iconst 0, 1) := by decide +kernel
theorem dX1_workOut_1 : decode cX1_workOut 1 = .ok (.istore 4, 2) := by decide +kernel
theorem dX1_workOut_3 : decode cX1_workOut 3 = .ok (.iconst 0, 1) := by decide +kernel
theorem dX1_workOut_4 : decode cX1_workOut 4 = .ok (.istore 5, 2) := by decide +kernel
theorem dX1_workOut_6 : decode cX1_workOut 6 = .ok (.iload 5, 2) := by decide +kernel
theorem dX1_workOut_8 : decode cX1_workOut 8 = .ok (.aload_n 0, 1) := by decide +kernel
theorem dX1_workOut_9 : decode cX1_workOut 9 = .ok (.getfield 15, 3) := by decide +kernel
theorem dX1_workOut_12 : decode cX1_workOut 12 = .ok (.if_icmp .ge 161, 3) := by decide +kernel
theorem dX1_workOut_15 : decode cX1_workOut 15 = .ok (.aload_n 0, 1) := by decide +kernel
theorem dX1_workOut_16 : decode cX1_workOut 16 = .ok (.getfield 19, 3) := by decide +kernel
theorem dX1_workOut_19 : decode cX1_workOut 19 = .ok (.iload 5, 2) := by decide +kernel
theorem dX1_workOut_21 : decode cX1_workOut 21 = .ok (.iaload, 1) := by decide +kernel
theorem dX1_workOut_22 : decode cX1_workOut 22 = .ok (.istore 6, 2) := by decide +kernel
theorem dX1_workOut_24 : decode cX1_workOut 24 = .ok (.iload 6, 2) := by decide +kernel
theorem dX1_workOut_26 : decode cX1_workOut 26 = .ok (.bipush (-3), 2) := by decide +kernel
theorem dX1_workOut_28 : decode cX1_workOut 28 = .ok (.if_icmp .lt 55, 3) := by decide +kernel
theorem dX1_workOut_31 : decode cX1_workOut 31 = .ok (.iload 4, 2) := by decide +kernel
theorem dX1_workOut_33 : decode cX1_workOut 33 = .ok (.bipush 60, 2) := by decide +kernel
theorem dX1_workOut_35 : decode cX1_workOut 35 = .ok (.if_icmp .ge 132, 3) := by decide +kernel
theorem dX1_workOut_38 : decode cX1_workOut 38 = .ok (.aload_n 0, 1) := by decide +kernel
theorem dX1_workOut_39 : decode cX1_workOut 39 = .ok (.getfield 23, 3) := by decide +kernel
theorem dX1_workOut_42 : decode cX1_workOut 42 = .ok (.iload 4, 2) := by decide +kernel
theorem dX1_workOut_44 : decode cX1_workOut 44 = .ok (.iload 6, 2) := by decide +kernel
theorem dX1_workOut_46 : decode cX1_workOut 46 = .ok (.ifCond .lt 8, 3) := by decide +kernel
theorem dX1_workOut_49 : decode cX1_workOut 49 = .ok (.iload 6, 2) := by decide +kernel
theorem dX1_workOut_51 : decode cX1_workOut 51 = .ok (.goto 25, 3) := by decide +kernel
theorem dX1_workOut_54 : decode cX1_workOut 54 = .ok (.iload 6, 2) := by decide +kernel
theorem dX1_workOut_56 : decode cX1_workOut 56 = .ok (.iconst (-1), 1) := by decide +kernel
theorem dX1_workOut_57 : decode cX1_workOut 57 = .ok (.if_icmp .ne 7, 3) := by decide +kernel
theorem dX1_workOut_60 : decode cX1_workOut 60 = .ok (.iload_n 1, 1) := by decide +kernel
theorem dX1_workOut_61 : decode cX1_workOut 61 = .ok (.goto 15, 3) := by decide +kernel
theorem dX1_workOut_64 : decode cX1_workOut 64 = .ok (.iload 6, 2) := by decide +kernel
theorem dX1_workOut_66 : decode cX1_workOut 66 = .ok (.bipush (-2), 2) := by decide +kernel
theorem dX1_workOut_68 : decode cX1_workOut 68 = .ok (.if_icmp .ne 7, 3) := by decide +kernel
theorem dX1_workOut_71 : decode cX1_workOut 71 = .ok (.iload_n 2, 1) := by decide +kernel
theorem dX1_workOut_72 : decode cX1_workOut 72 = .ok (.goto 4, 3) := by decide +kernel
theorem dX1_workOut_75 : decode cX1_workOut 75 = .ok (.iload_n 3, 1) := by decide +kernel
theorem dX1_workOut_76 : decode cX1_workOut 76 = .ok (.iastore, 1) := by decide +kernel
theorem dX1_workOut_77 : decode cX1_workOut 77 = .ok (.iinc 4 1, 3) := by decide +kernel
theorem dX1_workOut_80 : decode cX1_workOut 80 = .ok (.goto 87, 3) := by decide +kernel
theorem dX1_workOut_83 : decode cX1_workOut 83 = .ok (.iload 6, 2) := by decide +kernel
theorem dX1_workOut_85 : decode cX1_workOut 85 = .ok (.bipush (-33), 2) := by decide +kernel
theorem dX1_workOut_87 : decode cX1_workOut 87 = .ok (.if_icmp .ne 40, 3) := by decide +kernel
theorem dX1_workOut_90 : decode cX1_workOut 90 = .ok (.iload 4, 2) := by decide +kernel
theorem dX1_workOut_92 : decode cX1_workOut 92 = .ok (.ifCond .le 75, 3) := by decide +kernel
theorem dX1_workOut_95 : decode cX1_workOut 95 = .ok (.aload_n 0, 1) := by decide +kernel
theorem dX1_workOut_96 : decode cX1_workOut 96 = .ok (.getfield 23, 3) := by decide +kernel
theorem dX1_workOut_99 : decode cX1_workOut 99 = .ok (.iload 4, 2) := by decide +kernel
theorem dX1_workOut_101 : decode cX1_workOut 101 = .ok (.iconst 1, 1) := by decide +kernel
theorem dX1_workOut_102 : decode cX1_workOut 102 = .ok (.isub, 1) := by decide +kernel
theorem dX1_workOut_103 : decode cX1_workOut 103 = .ok (.aload_n 0, 1) := by decide +kernel
theorem dX1_workOut_104 : decode cX1_workOut 104 = .ok (.getfield 23, 3) := by decide +kernel
theorem dX1_workOut_107 : decode cX1_workOut 107 = .ok (.iload 4, 2) := by decide +kernel
theorem dX1_workOut_109 : decode cX1_workOut 109 = .ok (.iconst 1, 1) := by decide +kernel
theorem dX1_workOut_110 : decode cX1_workOut 110 = .ok (.isub, 1) := by decide +kernel
theorem dX1_workOut_111 : decode cX1_workOut 111 = .ok (.iaload, 1) := by decide +kernel
theorem dX1_workOut_112 : decode cX1_workOut 112 = .ok (.ifCond .ne 7, 3) := by decide +kernel
theorem dX1_workOut_115 : decode cX1_workOut 115 = .ok (.iconst 1, 1) := by decide +kernel
theorem dX1_workOut_116 : decode cX1_workOut 116 = .ok (.goto 4, 3) := by decide +kernel
theorem dX1_workOut_119 : decode cX1_workOut 119 = .ok (.iconst 0, 1) := by decide +kernel
theorem dX1_workOut_120 : decode cX1_workOut 120 = .ok (.invokestatic 40, 3) := by decide +kernel
theorem dX1_workOut_123 : decode cX1_workOut 123 = .ok (.iastore, 1) := by decide +kernel
theorem dX1_workOut_124 : decode cX1_workOut 124 = .ok (.goto 43, 3) := by decide +kernel
theorem dX1_workOut_127 : decode cX1_workOut 127 = .ok (.iload 4, 2) := by decide +kernel
theorem dX1_workOut_129 : decode cX1_workOut 129 = .ok (.iconst 1, 1) := by decide +kernel
theorem dX1_workOut_130 : decode cX1_workOut 130 = .ok (.if_icmp .le 37, 3) := by decide +kernel
theorem dX1_workOut_133 : decode cX1_workOut 133 = .ok (.iinc 4 (-1), 3) := by decide +kernel
theorem dX1_workOut_136 : decode cX1_workOut 136 = .ok (.aload_n 0, 1) := by decide +kernel
theorem dX1_workOut_137 : decode cX1_workOut 137 = .ok (.getfield 23, 3) := by decide +kernel
theorem dX1_workOut_140 : decode cX1_workOut 140 = .ok (.iload 4, 2) := by decide +kernel
theorem dX1_workOut_142 : decode cX1_workOut 142 = .ok (.iconst 1, 1) := by decide +kernel
theorem dX1_workOut_143 : decode cX1_workOut 143 = .ok (.isub, 1) := by decide +kernel
theorem dX1_workOut_144 : decode cX1_workOut 144 = .ok (.iload 6, 2) := by decide +kernel
theorem dX1_workOut_146 : decode cX1_workOut 146 = .ok (.ineg, 1) := by decide +kernel
theorem dX1_workOut_147 : decode cX1_workOut 147 = .ok (.aload_n 0, 1) := by decide +kernel
theorem dX1_workOut_148 : decode cX1_workOut 148 = .ok (.getfield 23, 3) := by decide +kernel
theorem dX1_workOut_151 : decode cX1_workOut 151 = .ok (.iload 4, 2) := by decide +kernel
theorem dX1_workOut_153 : decode cX1_workOut 153 = .ok (.iconst 1, 1) := by decide +kernel
theorem dX1_workOut_154 : decode cX1_workOut 154 = .ok (.isub, 1) := by decide +kernel
theorem dX1_workOut_155 : decode cX1_workOut 155 = .ok (.iaload, 1) := by decide +kernel
theorem dX1_workOut_156 : decode cX1_workOut 156 = .ok (.aload_n 0, 1) := by decide +kernel
theorem dX1_workOut_157 : decode cX1_workOut 157 = .ok (.getfield 23, 3) := by decide +kernel
theorem dX1_workOut_160 : decode cX1_workOut 160 = .ok (.iload 4, 2) := by decide +kernel
theorem dX1_workOut_162 : decode cX1_workOut 162 = .ok (.iaload, 1) := by decide +kernel
theorem dX1_workOut_163 : decode cX1_workOut 163 = .ok (.invokestatic 44, 3) := by decide +kernel
theorem dX1_workOut_166 : decode cX1_workOut 166 = .ok (.iastore, 1) := by decide +kernel
theorem dX1_workOut_167 : decode cX1_workOut 167 = .ok (.iinc 5 1, 3) := by decide +kernel
theorem dX1_workOut_170 : decode cX1_workOut 170 = .ok (.goto (-164), 3) := by decide +kernel
theorem dX1_workOut_173 : decode cX1_workOut 173 = .ok (.iload 4, 2) := by decide +kernel
theorem dX1_workOut_175 : decode cX1_workOut 175 = .ok (.ifCond .le 15, 3) := by decide +kernel
theorem dX1_workOut_178 : decode cX1_workOut 178 = .ok (.aload_n 0, 1) := by decide +kernel
theorem dX1_workOut_179 : decode cX1_workOut 179 = .ok (.getfield 23, 3) := by decide +kernel
theorem dX1_workOut_182 : decode cX1_workOut 182 = .ok (.iload 4, 2) := by decide +kernel
theorem dX1_workOut_184 : decode cX1_workOut 184 = .ok (.iconst 1, 1) := by decide +kernel
theorem dX1_workOut_185 : decode cX1_workOut 185 = .ok (.isub, 1) := by decide +kernel
theorem dX1_workOut_186 : decode cX1_workOut 186 = .ok (.iaload, 1) := by decide +kernel
theorem dX1_workOut_187 : decode cX1_workOut 187 = .ok (.goto 4, 3) := by decide +kernel
theorem dX1_workOut_190 : decode cX1_workOut 190 = .ok (.iconst 0, 1) := by decide +kernel
theorem dX1_workOut_191 : decode cX1_workOut 191 = .ok (.ireturn, 1) := by decide +kernel
theorem dX1_join_0 : decode cX1_join 0 = .ok (.iload_n 0, 1) := by decide +kernel
theorem dX1_join_1 : decode cX1_join 1 = .ok (.lookupswitch 183 #[(38, 100), (42, 167), (43, 159), (45, 163), (47, 171), (60, 117), (61, 131), (62, 145), (124, 83)], 83) := by decide +kernel
theorem dX1_join_84 : decode cX1_join 84 = .ok (.iload_n 1, 1) := by decide +kernel
theorem dX1_join_85 : decode cX1_join 85 = .ok (.ifCond .ne 7, 3) := by decide +kernel
theorem dX1_join_88 : decode cX1_join 88 = .ok (.iload_n 2, 1) := by decide +kernel
theorem dX1_join_89 : decode cX1_join 89 = .ok (.ifCond .eq 7, 3) := by decide +kernel
theorem dX1_join_92 : decode cX1_join 92 = .ok (.iconst 1, 1) := by decide +kernel
theorem dX1_join_93 : decode cX1_join 93 = .ok (.goto 4, 3) := by decide +kernel
theorem dX1_join_96 : decode cX1_join 96 = .ok (.iconst 0, 1) := by decide +kernel
theorem dX1_join_97 : decode cX1_join 97 = .ok (.invokestatic 40, 3) := by decide +kernel
theorem dX1_join_100 : decode cX1_join 100 = .ok (.ireturn, 1) := by decide +kernel
theorem dX1_join_101 : decode cX1_join 101 = .ok (.iload_n 1, 1) := by decide +kernel
theorem dX1_join_102 : decode cX1_join 102 = .ok (.ifCond .eq 11, 3) := by decide +kernel
theorem dX1_join_105 : decode cX1_join 105 = .ok (.iload_n 2, 1) := by decide +kernel
theorem dX1_join_106 : decode cX1_join 106 = .ok (.ifCond .eq 7, 3) := by decide +kernel
theorem dX1_join_109 : decode cX1_join 109 = .ok (.iconst 1, 1) := by decide +kernel
theorem dX1_join_110 : decode cX1_join 110 = .ok (.goto 4, 3) := by decide +kernel
theorem dX1_join_113 : decode cX1_join 113 = .ok (.iconst 0, 1) := by decide +kernel
theorem dX1_join_114 : decode cX1_join 114 = .ok (.invokestatic 40, 3) := by decide +kernel
theorem dX1_join_117 : decode cX1_join 117 = .ok (.ireturn, 1) := by decide +kernel
theorem dX1_join_118 : decode cX1_join 118 = .ok (.iload_n 1, 1) := by decide +kernel
theorem dX1_join_119 : decode cX1_join 119 = .ok (.iload_n 2, 1) := by decide +kernel
theorem dX1_join_120 : decode cX1_join 120 = .ok (.if_icmp .ge 7, 3) := by decide +kernel
theorem dX1_join_123 : decode cX1_join 123 = .ok (.iconst 1, 1) := by decide +kernel
theorem dX1_join_124 : decode cX1_join 124 = .ok (.goto 4, 3) := by decide +kernel
theorem dX1_join_127 : decode cX1_join 127 = .ok (.iconst 0, 1) := by decide +kernel
theorem dX1_join_128 : decode cX1_join 128 = .ok (.invokestatic 40, 3) := by decide +kernel
theorem dX1_join_131 : decode cX1_join 131 = .ok (.ireturn, 1) := by decide +kernel
theorem dX1_join_132 : decode cX1_join 132 = .ok (.iload_n 1, 1) := by decide +kernel
theorem dX1_join_133 : decode cX1_join 133 = .ok (.iload_n 2, 1) := by decide +kernel
theorem dX1_join_134 : decode cX1_join 134 = .ok (.if_icmp .ne 7, 3) := by decide +kernel
theorem dX1_join_137 : decode cX1_join 137 = .ok (.iconst 1, 1) := by decide +kernel
theorem dX1_join_138 : decode cX1_join 138 = .ok (.goto 4, 3) := by decide +kernel
theorem dX1_join_141 : decode cX1_join 141 = .ok (.iconst 0, 1) := by decide +kernel
theorem dX1_join_142 : decode cX1_join 142 = .ok (.invokestatic 40, 3) := by decide +kernel
theorem dX1_join_145 : decode cX1_join 145 = .ok (.ireturn, 1) := by decide +kernel
theorem dX1_join_146 : decode cX1_join 146 = .ok (.iload_n 1, 1) := by decide +kernel
theorem dX1_join_147 : decode cX1_join 147 = .ok (.iload_n 2, 1) := by decide +kernel
theorem dX1_join_148 : decode cX1_join 148 = .ok (.if_icmp .le 7, 3) := by decide +kernel
theorem dX1_join_151 : decode cX1_join 151 = .ok (.iconst 1, 1) := by decide +kernel
theorem dX1_join_152 : decode cX1_join 152 = .ok (.goto 4, 3) := by decide +kernel
theorem dX1_join_155 : decode cX1_join 155 = .ok (.iconst 0, 1) := by decide +kernel
theorem dX1_join_156 : decode cX1_join 156 = .ok (.invokestatic 40, 3) := by decide +kernel
theorem dX1_join_159 : decode cX1_join 159 = .ok (.ireturn, 1) := by decide +kernel
theorem dX1_join_160 : decode cX1_join 160 = .ok (.iload_n 1, 1) := by decide +kernel
theorem dX1_join_161 : decode cX1_join 161 = .ok (.iload_n 2, 1) := by decide +kernel
theorem dX1_join_162 : decode cX1_join 162 = .ok (.iadd, 1) := by decide +kernel
theorem dX1_join_163 : decode cX1_join 163 = .ok (.ireturn, 1) := by decide +kernel
theorem dX1_join_164 : decode cX1_join 164 = .ok (.iload_n 1, 1) := by decide +kernel
theorem dX1_join_165 : decode cX1_join 165 = .ok (.iload_n 2, 1) := by decide +kernel
theorem dX1_join_166 : decode cX1_join 166 = .ok (.isub, 1) := by decide +kernel
theorem dX1_join_167 : decode cX1_join 167 = .ok (.ireturn, 1) := by decide +kernel
theorem dX1_join_168 : decode cX1_join 168 = .ok (.iload_n 1, 1) := by decide +kernel
theorem dX1_join_169 : decode cX1_join 169 = .ok (.iload_n 2, 1) := by decide +kernel
theorem dX1_join_170 : decode cX1_join 170 = .ok (.imul, 1) := by decide +kernel
theorem dX1_join_171 : decode cX1_join 171 = .ok (.ireturn, 1) := by decide +kernel
theorem dX1_join_172 : decode cX1_join 172 = .ok (.iload_n 2, 1) := by decide +kernel
theorem dX1_join_173 : decode cX1_join 173 = .ok (.ifCond .ne 7, 3) := by decide +kernel
theorem dX1_join_176 : decode cX1_join 176 = .ok (.iconst 0, 1) := by decide +kernel
theorem dX1_join_177 : decode cX1_join 177 = .ok (.goto 6, 3) := by decide +kernel
theorem dX1_join_180 : decode cX1_join 180 = .ok (.iload_n 1, 1) := by decide +kernel
theorem dX1_join_181 : decode cX1_join 181 = .ok (.iload_n 2, 1) := by decide +kernel
theorem dX1_join_182 : decode cX1_join 182 = .ok (.idiv, 1) := by decide +kernel
theorem dX1_join_183 : decode cX1_join 183 = .ok (.ireturn, 1) := by decide +kernel
theorem dX1_join_184 : decode cX1_join 184 = .ok (.iload_n 2, 1) := by decide +kernel
theorem dX1_join_185 : decode cX1_join 185 = .ok (.ifCond .ne 7, 3) := by decide +kernel
theorem dX1_join_188 : decode cX1_join 188 = .ok (.iconst 0, 1) := by decide +kernel
theorem dX1_join_189 : decode cX1_join 189 = .ok (.goto 6, 3) := by decide +kernel
theorem dX1_join_192 : decode cX1_join 192 = .ok (.iload_n 1, 1) := by decide +kernel
theorem dX1_join_193 : decode cX1_join 193 = .ok (.iload_n 2, 1) := by decide +kernel
theorem dX1_join_194 : decode cX1_join 194 = .ok (.irem, 1) := by decide +kernel
theorem dX1_join_195 : decode cX1_join 195 = .ok (.ireturn, 1) := by decide +kernel
theorem dX1_truth_0 : decode cX1_truth 0 = .ok (.iload_n 0, 1) := by decide +kernel
theorem dX1_truth_1 : decode cX1_truth 1 = .ok (.ifCond .eq 7, 3) := by decide +kernel
theorem dX1_truth_4 : decode cX1_truth 4 = .ok (.iconst 1, 1) := by decide +kernel
theorem dX1_truth_5 : decode cX1_truth 5 = .ok (.goto 4, 3) := by decide +kernel
theorem dX1_truth_8 : decode cX1_truth 8 = .ok (.iconst 0, 1) := by decide +kernel
theorem dX1_truth_9 : decode cX1_truth 9 = .ok (.ireturn, 1) := by decide +kernel
theorem dX2_init_0 : decode cX2_init 0 = .ok (.aload_n 0, 1) := by decide +kernel
theorem dX2_init_1 : decode cX2_init 1 = .ok (.invokespecial 3, 3) := by decide +kernel
theorem dX2_init_4 : decode cX2_init 4 = .ok (.aload_n 0, 1) := by decide +kernel
theorem dX2_init_5 : decode cX2_init 5 = .ok (.bipush 60, 2) := by decide +kernel
theorem dX2_init_7 : decode cX2_init 7 = .ok (.newarray .int, 2) := by decide +kernel
theorem dX2_init_9 : decode cX2_init 9 = .ok (.putfield 9, 3) := by decide +kernel
theorem dX2_init_12 : decode cX2_init 12 = .ok (.aload_n 0, 1) := by decide +kernel
theorem dX2_init_13 : decode cX2_init 13 = .ok (.iconst 0, 1) := by decide +kernel
theorem dX2_init_14 : decode cX2_init 14 = .ok (.putfield 15, 3) := by decide +kernel
theorem dX2_init_17 : decode cX2_init 17 = .ok (.aload_n 0, 1) := by decide +kernel
theorem dX2_init_18 : decode cX2_init 18 = .ok (.iconst 0, 1) := by decide +kernel
theorem dX2_init_19 : decode cX2_init 19 = .ok (.putfield 19, 3) := by decide +kernel
theorem dX2_init_22 : decode cX2_init 22 = .ok (.aload_n 0, 1) := by decide +kernel
theorem dX2_init_23 : decode cX2_init 23 = .ok (.bipush 60, 2) := by decide +kernel
theorem dX2_init_25 : decode cX2_init 25 = .ok (.newarray .char, 2) := by decide +kernel
theorem dX2_init_27 : decode cX2_init 27 = .ok (.putfield 22, 3) := by decide +kernel
theorem dX2_init_30 : decode cX2_init 30 = .ok (.aload_n 0, 1) := by decide +kernel
theorem dX2_init_31 : decode cX2_init 31 = .ok (.iconst 0, 1) := by decide +kernel
theorem dX2_init_32 : decode cX2_init 32 = .ok (.putfield 26, 3) := by decide +kernel
theorem dX2_init_35 : decode cX2_init 35 = .ok (.aload_n 0, 1) := by decide +kernel
theorem dX2_init_36 : decode cX2_init 36 = .ok (.ldc 29, 2) := by decide +kernel
theorem dX2_init_38 : decode cX2_init 38 = .ok (.putfield 31, 3) := by decide +kernel
theorem dX2_init_41 : decode cX2_init 41 = .ok (.return_, 1) := by decide +kernel
theorem dX2_reads_0 : decode cX2_reads 0 = .ok (.aload_n 0, 1) := by decide +kernel
theorem dX2_reads_1 : decode cX2_reads 1 = .ok (.iload_n 2, 1) := by decide +kernel
theorem dX2_reads_2 : decode cX2_reads 2 = .ok (.iconst 0, 1) := by decide +kernel
theorem dX2_reads_3 : decode cX2_reads 3 = .ok (.bipush 60, 2) := by decide +kernel
theorem dX2_reads_5 : decode cX2_reads 5 = .ok (.aload_n 1, 1) := by decide +kernel
theorem dX2_reads_6 : decode cX2_reads 6 = .ok (.arraylength, 1) := by decide +kernel
theorem dX2_reads_7 : decode cX2_reads 7 = .ok (.invokestatic 35, 3) := by decide +kernel
theorem dX2_reads_10 : decode cX2_reads 10 = .ok (.invokestatic 41, 3) := by decide +kernel
theorem dX2_reads_13 : decode cX2_reads 13 = .ok (.putfield 26, 3) := by decide +kernel
theorem dX2_reads_16 : decode cX2_reads 16 = .ok (.aload_n 1, 1) := by decide +kernel
theorem dX2_reads_17 : decode cX2_reads 17 = .ok (.iconst 0, 1) := by decide +kernel
theorem dX2_reads_18 : decode cX2_reads 18 = .ok (.aload_n 0, 1) := by decide +kernel
theorem dX2_reads_19 : decode cX2_reads 19 = .ok (.getfield 22, 3) := by decide +kernel
theorem dX2_reads_22 : decode cX2_reads 22 = .ok (.iconst 0, 1) := by decide +kernel
theorem dX2_reads_23 : decode cX2_reads 23 = .ok (.aload_n 0, 1) := by decide +kernel
theorem dX2_reads_24 : decode cX2_reads 24 = .ok (.getfield 26, 3) := by decide +kernel
theorem dX2_reads_27 : decode cX2_reads 27 = .ok (.invokestatic 45, 3) := by decide +kernel
theorem dX2_reads_30 : decode cX2_reads 30 = .ok (.aload_n 0, 1) := by decide +kernel
theorem dX2_reads_31 : decode cX2_reads 31 = .ok (.iload_n 3, 1) := by decide +kernel
theorem dX2_reads_32 : decode cX2_reads 32 = .ok (.ifCond .ne 8, 3) := by decide +kernel
theorem dX2_reads_35 : decode cX2_reads 35 = .ok (.ldc 29, 2) := by decide +kernel
theorem dX2_reads_37 : decode cX2_reads 37 = .ok (.goto 5, 3) := by decide +kernel
theorem dX2_reads_40 : decode cX2_reads 40 = .ok (.ldc 51, 2) := by decide +kernel
theorem dX2_reads_42 : decode cX2_reads 42 = .ok (.putfield 31, 3) := by decide +kernel
theorem dX2_reads_45 : decode cX2_reads 45 = .ok (.aload_n 0, 1) := by decide +kernel
theorem dX2_reads_46 : decode cX2_reads 46 = .ok (.iconst 0, 1) := by decide +kernel
theorem dX2_reads_47 : decode cX2_reads 47 = .ok (.putfield 15, 3) := by decide +kernel
theorem dX2_reads_50 : decode cX2_reads 50 = .ok (.aload_n 0, 1) := by decide +kernel
theorem dX2_reads_51 : decode cX2_reads 51 = .ok (.iconst 0, 1) := by decide +kernel
theorem dX2_reads_52 : decode cX2_reads 52 = .ok (.putfield 19, 3) := by decide +kernel
theorem dX2_reads_55 : decode cX2_reads 55 = .ok (.aload_n 0, 1) := by decide +kernel
theorem dX2_reads_56 : decode cX2_reads 56 = .ok (.iconst 0, 1) := by decide +kernel
theorem dX2_reads_57 : decode cX2_reads 57 = .ok (.invokevirtual 53, 3) := by decide +kernel
theorem dX2_reads_60 : decode cX2_reads 60 = .ok (.ifCond .eq 18, 3) := by decide +kernel
theorem dX2_reads_63 : decode cX2_reads 63 = .ok (.aload_n 0, 1) := by decide +kernel
theorem dX2_reads_64 : decode cX2_reads 64 = .ok (.getfield 19, 3) := by decide +kernel
theorem dX2_reads_67 : decode cX2_reads 67 = .ok (.aload_n 0, 1) := by decide +kernel
theorem dX2_reads_68 : decode cX2_reads 68 = .ok (.getfield 26, 3) := by decide +kernel
theorem dX2_reads_71 : decode cX2_reads 71 = .ok (.if_icmp .ne 7, 3) := by decide +kernel
theorem dX2_reads_74 : decode cX2_reads 74 = .ok (.iconst 1, 1) := by decide +kernel
theorem dX2_reads_75 : decode cX2_reads 75 = .ok (.goto 4, 3) := by decide +kernel
theorem dX2_reads_78 : decode cX2_reads 78 = .ok (.iconst 0, 1) := by decide +kernel
theorem dX2_reads_79 : decode cX2_reads 79 = .ok (.ireturn, 1) := by decide +kernel
theorem dX2_ahead_0 : decode cX2_ahead 0 = .ok (.aload_n 0, 1) := by decide +kernel
theorem dX2_ahead_1 : decode cX2_ahead 1 = .ok (.getfield 19, 3) := by decide +kernel
theorem dX2_ahead_4 : decode cX2_ahead 4 = .ok (.ifCond .lt 26, 3) := by decide +kernel
theorem dX2_ahead_7 : decode cX2_ahead 7 = .ok (.aload_n 0, 1) := by decide +kernel
theorem dX2_ahead_8 : decode cX2_ahead 8 = .ok (.getfield 19, 3) := by decide +kernel
theorem dX2_ahead_11 : decode cX2_ahead 11 = .ok (.aload_n 0, 1) := by decide +kernel
theorem dX2_ahead_12 : decode cX2_ahead 12 = .ok (.getfield 26, 3) := by decide +kernel
theorem dX2_ahead_15 : decode cX2_ahead 15 = .ok (.if_icmp .ge 15, 3) := by decide +kernel
theorem dX2_ahead_18 : decode cX2_ahead 18 = .ok (.aload_n 0, 1) := by decide +kernel
theorem dX2_ahead_19 : decode cX2_ahead 19 = .ok (.getfield 22, 3) := by decide +kernel
theorem dX2_ahead_22 : decode cX2_ahead 22 = .ok (.aload_n 0, 1) := by decide +kernel
theorem dX2_ahead_23 : decode cX2_ahead 23 = .ok (.getfield 19, 3) := by decide +kernel
theorem dX2_ahead_26 : decode cX2_ahead 26 = .ok (.caload, 1) := by decide +kernel
theorem dX2_ahead_27 : decode cX2_ahead 27 = .ok (.goto 4, 3) := by decide +kernel
theorem dX2_ahead_30 : decode cX2_ahead 30 = .ok (.iconst 0, 1) := by decide +kernel
theorem dX2_ahead_31 : decode cX2_ahead 31 = .ok (.ireturn, 1) := by decide +kernel
theorem dX2_make_0 : decode cX2_make 0 = .ok (.aload_n 0, 1) := by decide +kernel
theorem dX2_make_1 : decode cX2_make 1 = .ok (.getfield 15, 3) := by decide +kernel
theorem dX2_make_4 : decode cX2_make 4 = .ok (.bipush 60, 2) := by decide +kernel
theorem dX2_make_6 : decode cX2_make 6 = .ok (.if_icmp .ge 23, 3) := by decide +kernel
theorem dX2_make_9 : decode cX2_make 9 = .ok (.aload_n 0, 1) := by decide +kernel
theorem dX2_make_10 : decode cX2_make 10 = .ok (.getfield 9, 3) := by decide +kernel
theorem dX2_make_13 : decode cX2_make 13 = .ok (.aload_n 0, 1) := by decide +kernel
theorem dX2_make_14 : decode cX2_make 14 = .ok (.getfield 15, 3) := by decide +kernel
theorem dX2_make_17 : decode cX2_make 17 = .ok (.iload_n 1, 1) := by decide +kernel
theorem dX2_make_18 : decode cX2_make 18 = .ok (.iastore, 1) := by decide +kernel
theorem dX2_make_19 : decode cX2_make 19 = .ok (.aload_n 0, 1) := by decide +kernel
theorem dX2_make_20 : decode cX2_make 20 = .ok (.dup, 1) := by decide +kernel
theorem dX2_make_21 : decode cX2_make 21 = .ok (.getfield 15, 3) := by decide +kernel
theorem dX2_make_24 : decode cX2_make 24 = .ok (.iconst 1, 1) := by decide +kernel
theorem dX2_make_25 : decode cX2_make 25 = .ok (.iadd, 1) := by decide +kernel
theorem dX2_make_26 : decode cX2_make 26 = .ok (.putfield 15, 3) := by decide +kernel
theorem dX2_make_29 : decode cX2_make 29 = .ok (.return_, 1) := by decide +kernel
theorem dX2_readAny_0 : decode cX2_readAny 0 = .ok (.aload_n 0, 1) := by decide +kernel
theorem dX2_readAny_1 : decode cX2_readAny 1 = .ok (.iload_n 1, 1) := by decide +kernel
theorem dX2_readAny_2 : decode cX2_readAny 2 = .ok (.invokevirtual 57, 3) := by decide +kernel
theorem dX2_readAny_5 : decode cX2_readAny 5 = .ok (.ifCond .ne 5, 3) := by decide +kernel
theorem dX2_readAny_8 : decode cX2_readAny 8 = .ok (.iconst 0, 1) := by decide +kernel
theorem dX2_readAny_9 : decode cX2_readAny 9 = .ok (.ireturn, 1) := by decide +kernel
theorem dX2_readAny_10 : decode cX2_readAny 10 = .ok (.iconst 0, 1) := by decide +kernel
theorem dX2_readAny_11 : decode cX2_readAny 11 = .ok (.istore_n 2, 1) := by decide +kernel
theorem dX2_readAny_12 : decode cX2_readAny 12 = .ok (.iload_n 2, 1) := by decide +kernel
theorem dX2_readAny_13 : decode cX2_readAny 13 = .ok (.bipush 60, 2) := by decide +kernel
theorem dX2_readAny_15 : decode cX2_readAny 15 = .ok (.if_icmp .ge 44, 3) := by decide +kernel
theorem dX2_readAny_18 : decode cX2_readAny 18 = .ok (.aload_n 0, 1) := by decide +kernel
theorem dX2_readAny_19 : decode cX2_readAny 19 = .ok (.invokevirtual 60, 3) := by decide +kernel
theorem dX2_readAny_22 : decode cX2_readAny 22 = .ok (.bipush 124, 2) := by decide +kernel
theorem dX2_readAny_24 : decode cX2_readAny 24 = .ok (.if_icmp .ne 35, 3) := by decide +kernel
theorem dX2_readAny_27 : decode cX2_readAny 27 = .ok (.aload_n 0, 1) := by decide +kernel
theorem dX2_readAny_28 : decode cX2_readAny 28 = .ok (.dup, 1) := by decide +kernel
theorem dX2_readAny_29 : decode cX2_readAny 29 = .ok (.getfield 19, 3) := by decide +kernel
theorem dX2_readAny_32 : decode cX2_readAny 32 = .ok (.iconst 1, 1) := by decide +kernel
theorem dX2_readAny_33 : decode cX2_readAny 33 = .ok (.iadd, 1) := by decide +kernel
theorem dX2_readAny_34 : decode cX2_readAny 34 = .ok (.putfield 19, 3) := by decide +kernel
theorem dX2_readAny_37 : decode cX2_readAny 37 = .ok (.aload_n 0, 1) := by decide +kernel
theorem dX2_readAny_38 : decode cX2_readAny 38 = .ok (.iload_n 1, 1) := by decide +kernel
theorem dX2_readAny_39 : decode cX2_readAny 39 = .ok (.invokevirtual 57, 3) := by decide +kernel
theorem dX2_readAny_42 : decode cX2_readAny 42 = .ok (.ifCond .ne 5, 3) := by decide +kernel
theorem dX2_readAny_45 : decode cX2_readAny 45 = .ok (.iconst 0, 1) := by decide +kernel
theorem dX2_readAny_46 : decode cX2_readAny 46 = .ok (.ireturn, 1) := by decide +kernel
theorem dX2_readAny_47 : decode cX2_readAny 47 = .ok (.aload_n 0, 1) := by decide +kernel
theorem dX2_readAny_48 : decode cX2_readAny 48 = .ok (.bipush (-124), 2) := by decide +kernel
theorem dX2_readAny_50 : decode cX2_readAny 50 = .ok (.invokevirtual 64, 3) := by decide +kernel
theorem dX2_readAny_53 : decode cX2_readAny 53 = .ok (.iinc 2 1, 3) := by decide +kernel
theorem dX2_readAny_56 : decode cX2_readAny 56 = .ok (.goto (-44), 3) := by decide +kernel
theorem dX2_readAny_59 : decode cX2_readAny 59 = .ok (.iconst 1, 1) := by decide +kernel
theorem dX2_readAny_60 : decode cX2_readAny 60 = .ok (.ireturn, 1) := by decide +kernel
theorem dX2_readAll_0 : decode cX2_readAll 0 = .ok (.aload_n 0, 1) := by decide +kernel
theorem dX2_readAll_1 : decode cX2_readAll 1 = .ok (.iload_n 1, 1) := by decide +kernel
theorem dX2_readAll_2 : decode cX2_readAll 2 = .ok (.invokevirtual 68, 3) := by decide +kernel
theorem dX2_readAll_5 : decode cX2_readAll 5 = .ok (.ifCond .ne 5, 3) := by decide +kernel
theorem dX2_readAll_8 : decode cX2_readAll 8 = .ok (.iconst 0, 1) := by decide +kernel
theorem dX2_readAll_9 : decode cX2_readAll 9 = .ok (.ireturn, 1) := by decide +kernel
theorem dX2_readAll_10 : decode cX2_readAll 10 = .ok (.iconst 0, 1) := by decide +kernel
theorem dX2_readAll_11 : decode cX2_readAll 11 = .ok (.istore_n 2, 1) := by decide +kernel
theorem dX2_readAll_12 : decode cX2_readAll 12 = .ok (.iload_n 2, 1) := by decide +kernel
theorem dX2_readAll_13 : decode cX2_readAll 13 = .ok (.bipush 60, 2) := by decide +kernel
theorem dX2_readAll_15 : decode cX2_readAll 15 = .ok (.if_icmp .ge 44, 3) := by decide +kernel
theorem dX2_readAll_18 : decode cX2_readAll 18 = .ok (.aload_n 0, 1) := by decide +kernel
theorem dX2_readAll_19 : decode cX2_readAll 19 = .ok (.invokevirtual 60, 3) := by decide +kernel
theorem dX2_readAll_22 : decode cX2_readAll 22 = .ok (.bipush 38, 2) := by decide +kernel
theorem dX2_readAll_24 : decode cX2_readAll 24 = .ok (.if_icmp .ne 35, 3) := by decide +kernel
theorem dX2_readAll_27 : decode cX2_readAll 27 = .ok (.aload_n 0, 1) := by decide +kernel
theorem dX2_readAll_28 : decode cX2_readAll 28 = .ok (.dup, 1) := by decide +kernel
theorem dX2_readAll_29 : decode cX2_readAll 29 = .ok (.getfield 19, 3) := by decide +kernel
theorem dX2_readAll_32 : decode cX2_readAll 32 = .ok (.iconst 1, 1) := by decide +kernel
theorem dX2_readAll_33 : decode cX2_readAll 33 = .ok (.iadd, 1) := by decide +kernel
theorem dX2_readAll_34 : decode cX2_readAll 34 = .ok (.putfield 19, 3) := by decide +kernel
theorem dX2_readAll_37 : decode cX2_readAll 37 = .ok (.aload_n 0, 1) := by decide +kernel
theorem dX2_readAll_38 : decode cX2_readAll 38 = .ok (.iload_n 1, 1) := by decide +kernel
theorem dX2_readAll_39 : decode cX2_readAll 39 = .ok (.invokevirtual 68, 3) := by decide +kernel
theorem dX2_readAll_42 : decode cX2_readAll 42 = .ok (.ifCond .ne 5, 3) := by decide +kernel
theorem dX2_readAll_45 : decode cX2_readAll 45 = .ok (.iconst 0, 1) := by decide +kernel
theorem dX2_readAll_46 : decode cX2_readAll 46 = .ok (.ireturn, 1) := by decide +kernel
theorem dX2_readAll_47 : decode cX2_readAll 47 = .ok (.aload_n 0, 1) := by decide +kernel
theorem dX2_readAll_48 : decode cX2_readAll 48 = .ok (.bipush (-38), 2) := by decide +kernel
theorem dX2_readAll_50 : decode cX2_readAll 50 = .ok (.invokevirtual 64, 3) := by decide +kernel
theorem dX2_readAll_53 : decode cX2_readAll 53 = .ok (.iinc 2 1, 3) := by decide +kernel
theorem dX2_readAll_56 : decode cX2_readAll 56 = .ok (.goto (-44), 3) := by decide +kernel
theorem dX2_readAll_59 : decode cX2_readAll 59 = .ok (.iconst 1, 1) := by decide +kernel
theorem dX2_readAll_60 : decode cX2_readAll 60 = .ok (.ireturn, 1) := by decide +kernel
theorem dX2_readCompared_0 : decode cX2_readCompared 0 = .ok (.aload_n 0, 1) := by decide +kernel
theorem dX2_readCompared_1 : decode cX2_readCompared 1 = .ok (.iload_n 1, 1) := by decide +kernel
theorem dX2_readCompared_2 : decode cX2_readCompared 2 = .ok (.invokevirtual 71, 3) := by decide +kernel
theorem dX2_readCompared_5 : decode cX2_readCompared 5 = .ok (.ifCond .ne 5, 3) := by decide +kernel
theorem dX2_readCompared_8 : decode cX2_readCompared 8 = .ok (.iconst 0, 1) := by decide +kernel
theorem dX2_readCompared_9 : decode cX2_readCompared 9 = .ok (.ireturn, 1) := by decide +kernel
theorem dX2_readCompared_10 : decode cX2_readCompared 10 = .ok (.aload_n 0, 1) := by decide +kernel
theorem dX2_readCompared_11 : decode cX2_readCompared 11 = .ok (.invokevirtual 60, 3) := by decide +kernel
theorem dX2_readCompared_14 : decode cX2_readCompared 14 = .ok (.istore_n 2, 1) := by decide +kernel
theorem dX2_readCompared_15 : decode cX2_readCompared 15 = .ok (.iload_n 2, 1) := by decide +kernel
theorem dX2_readCompared_16 : decode cX2_readCompared 16 = .ok (.bipush 60, 2) := by decide +kernel
theorem dX2_readCompared_18 : decode cX2_readCompared 18 = .ok (.if_icmp .eq 17, 3) := by decide +kernel
theorem dX2_readCompared_21 : decode cX2_readCompared 21 = .ok (.iload_n 2, 1) := by decide +kernel
theorem dX2_readCompared_22 : decode cX2_readCompared 22 = .ok (.bipush 61, 2) := by decide +kernel
theorem dX2_readCompared_24 : decode cX2_readCompared 24 = .ok (.if_icmp .eq 11, 3) := by decide +kernel
theorem dX2_readCompared_27 : decode cX2_readCompared 27 = .ok (.iload_n 2, 1) := by decide +kernel
theorem dX2_readCompared_28 : decode cX2_readCompared 28 = .ok (.bipush 62, 2) := by decide +kernel
theorem dX2_readCompared_30 : decode cX2_readCompared 30 = .ok (.if_icmp .eq 5, 3) := by decide +kernel
theorem dX2_readCompared_33 : decode cX2_readCompared 33 = .ok (.iconst 1, 1) := by decide +kernel
theorem dX2_readCompared_34 : decode cX2_readCompared 34 = .ok (.ireturn, 1) := by decide +kernel
theorem dX2_readCompared_35 : decode cX2_readCompared 35 = .ok (.aload_n 0, 1) := by decide +kernel
theorem dX2_readCompared_36 : decode cX2_readCompared 36 = .ok (.dup, 1) := by decide +kernel
theorem dX2_readCompared_37 : decode cX2_readCompared 37 = .ok (.getfield 19, 3) := by decide +kernel
theorem dX2_readCompared_40 : decode cX2_readCompared 40 = .ok (.iconst 1, 1) := by decide +kernel
theorem dX2_readCompared_41 : decode cX2_readCompared 41 = .ok (.iadd, 1) := by decide +kernel
theorem dX2_readCompared_42 : decode cX2_readCompared 42 = .ok (.putfield 19, 3) := by decide +kernel
theorem dX2_readCompared_45 : decode cX2_readCompared 45 = .ok (.aload_n 0, 1) := by decide +kernel
theorem dX2_readCompared_46 : decode cX2_readCompared 46 = .ok (.iload_n 1, 1) := by decide +kernel
theorem dX2_readCompared_47 : decode cX2_readCompared 47 = .ok (.invokevirtual 71, 3) := by decide +kernel
theorem dX2_readCompared_50 : decode cX2_readCompared 50 = .ok (.ifCond .ne 5, 3) := by decide +kernel
theorem dX2_readCompared_53 : decode cX2_readCompared 53 = .ok (.iconst 0, 1) := by decide +kernel
theorem dX2_readCompared_54 : decode cX2_readCompared 54 = .ok (.ireturn, 1) := by decide +kernel
theorem dX2_readCompared_55 : decode cX2_readCompared 55 = .ok (.aload_n 0, 1) := by decide +kernel
theorem dX2_readCompared_56 : decode cX2_readCompared 56 = .ok (.iload_n 2, 1) := by decide +kernel
theorem dX2_readCompared_57 : decode cX2_readCompared 57 = .ok (.ineg, 1) := by decide +kernel
theorem dX2_readCompared_58 : decode cX2_readCompared 58 = .ok (.invokevirtual 64, 3) := by decide +kernel
theorem dX2_readCompared_61 : decode cX2_readCompared 61 = .ok (.iconst 1, 1) := by decide +kernel
theorem dX2_readCompared_62 : decode cX2_readCompared 62 = .ok (.ireturn, 1) := by decide +kernel
theorem dX2_readSum_0 : decode cX2_readSum 0 = .ok (.aload_n 0, 1) := by decide +kernel
theorem dX2_readSum_1 : decode cX2_readSum 1 = .ok (.iload_n 1, 1) := by decide +kernel
theorem dX2_readSum_2 : decode cX2_readSum 2 = .ok (.invokevirtual 74, 3) := by decide +kernel
theorem dX2_readSum_5 : decode cX2_readSum 5 = .ok (.ifCond .ne 5, 3) := by decide +kernel
theorem dX2_readSum_8 : decode cX2_readSum 8 = .ok (.iconst 0, 1) := by decide +kernel
theorem dX2_readSum_9 : decode cX2_readSum 9 = .ok (.ireturn, 1) := by decide +kernel
theorem dX2_readSum_10 : decode cX2_readSum 10 = .ok (.iconst 0, 1) := by decide +kernel
theorem dX2_readSum_11 : decode cX2_readSum 11 = .ok (.istore_n 2, 1) := by decide +kernel
theorem dX2_readSum_12 : decode cX2_readSum 12 = .ok (.iload_n 2, 1) := by decide +kernel
theorem dX2_readSum_13 : decode cX2_readSum 13 = .ok (.bipush 60, 2) := by decide +kernel
theorem dX2_readSum_15 : decode cX2_readSum 15 = .ok (.if_icmp .ge 58, 3) := by decide +kernel
theorem dX2_readSum_18 : decode cX2_readSum 18 = .ok (.aload_n 0, 1) := by decide +kernel
theorem dX2_readSum_19 : decode cX2_readSum 19 = .ok (.invokevirtual 60, 3) := by decide +kernel
theorem dX2_readSum_22 : decode cX2_readSum 22 = .ok (.bipush 43, 2) := by decide +kernel
theorem dX2_readSum_24 : decode cX2_readSum 24 = .ok (.if_icmp .eq 12, 3) := by decide +kernel
theorem dX2_readSum_27 : decode cX2_readSum 27 = .ok (.aload_n 0, 1) := by decide +kernel
theorem dX2_readSum_28 : decode cX2_readSum 28 = .ok (.invokevirtual 60, 3) := by decide +kernel
theorem dX2_readSum_31 : decode cX2_readSum 31 = .ok (.bipush 45, 2) := by decide +kernel
theorem dX2_readSum_33 : decode cX2_readSum 33 = .ok (.if_icmp .ne 40, 3) := by decide +kernel
theorem dX2_readSum_36 : decode cX2_readSum 36 = .ok (.aload_n 0, 1) := by decide +kernel
theorem dX2_readSum_37 : decode cX2_readSum 37 = .ok (.invokevirtual 60, 3) := by decide +kernel
theorem dX2_readSum_40 : decode cX2_readSum 40 = .ok (.istore_n 3, 1) := by decide +kernel
theorem dX2_readSum_41 : decode cX2_readSum 41 = .ok (.aload_n 0, 1) := by decide +kernel
theorem dX2_readSum_42 : decode cX2_readSum 42 = .ok (.dup, 1) := by decide +kernel
theorem dX2_readSum_43 : decode cX2_readSum 43 = .ok (.getfield 19, 3) := by decide +kernel
theorem dX2_readSum_46 : decode cX2_readSum 46 = .ok (.iconst 1, 1) := by decide +kernel
theorem dX2_readSum_47 : decode cX2_readSum 47 = .ok (.iadd, 1) := by decide +kernel
theorem dX2_readSum_48 : decode cX2_readSum 48 = .ok (.putfield 19, 3) := by decide +kernel
theorem dX2_readSum_51 : decode cX2_readSum 51 = .ok (.aload_n 0, 1) := by decide +kernel
theorem dX2_readSum_52 : decode cX2_readSum 52 = .ok (.iload_n 1, 1) := by decide +kernel
theorem dX2_readSum_53 : decode cX2_readSum 53 = .ok (.invokevirtual 74, 3) := by decide +kernel
theorem dX2_readSum_56 : decode cX2_readSum 56 = .ok (.ifCond .ne 5, 3) := by decide +kernel
theorem dX2_readSum_59 : decode cX2_readSum 59 = .ok (.iconst 0, 1) := by decide +kernel
theorem dX2_readSum_60 : decode cX2_readSum 60 = .ok (.ireturn, 1) := by decide +kernel
theorem dX2_readSum_61 : decode cX2_readSum 61 = .ok (.aload_n 0, 1) := by decide +kernel
theorem dX2_readSum_62 : decode cX2_readSum 62 = .ok (.iload_n 3, 1) := by decide +kernel
theorem dX2_readSum_63 : decode cX2_readSum 63 = .ok (.ineg, 1) := by decide +kernel
theorem dX2_readSum_64 : decode cX2_readSum 64 = .ok (.invokevirtual 64, 3) := by decide +kernel
theorem dX2_readSum_67 : decode cX2_readSum 67 = .ok (.iinc 2 1, 3) := by decide +kernel
theorem dX2_readSum_70 : decode cX2_readSum 70 = .ok (.goto (-58), 3) := by decide +kernel
theorem dX2_readSum_73 : decode cX2_readSum 73 = .ok (.iconst 1, 1) := by decide +kernel
theorem dX2_readSum_74 : decode cX2_readSum 74 = .ok (.ireturn, 1) := by decide +kernel
theorem dX2_readProduct_0 : decode cX2_readProduct 0 = .ok (.aload_n 0, 1) := by decide +kernel
theorem dX2_readProduct_1 : decode cX2_readProduct 1 = .ok (.iload_n 1, 1) := by decide +kernel
theorem dX2_readProduct_2 : decode cX2_readProduct 2 = .ok (.invokevirtual 77, 3) := by decide +kernel
theorem dX2_readProduct_5 : decode cX2_readProduct 5 = .ok (.ifCond .ne 5, 3) := by decide +kernel
theorem dX2_readProduct_8 : decode cX2_readProduct 8 = .ok (.iconst 0, 1) := by decide +kernel
theorem dX2_readProduct_9 : decode cX2_readProduct 9 = .ok (.ireturn, 1) := by decide +kernel
theorem dX2_readProduct_10 : decode cX2_readProduct 10 = .ok (.iconst 0, 1) := by decide +kernel
theorem dX2_readProduct_11 : decode cX2_readProduct 11 = .ok (.istore_n 2, 1) := by decide +kernel
theorem dX2_readProduct_12 : decode cX2_readProduct 12 = .ok (.iload_n 2, 1) := by decide +kernel
theorem dX2_readProduct_13 : decode cX2_readProduct 13 = .ok (.bipush 60, 2) := by decide +kernel
theorem dX2_readProduct_15 : decode cX2_readProduct 15 = .ok (.if_icmp .ge 50, 3) := by decide +kernel
theorem dX2_readProduct_18 : decode cX2_readProduct 18 = .ok (.aload_n 0, 1) := by decide +kernel
theorem dX2_readProduct_19 : decode cX2_readProduct 19 = .ok (.invokevirtual 60, 3) := by decide +kernel
theorem dX2_readProduct_22 : decode cX2_readProduct 22 = .ok (.invokestatic 80, 3) := by decide +kernel
theorem dX2_readProduct_25 : decode cX2_readProduct 25 = .ok (.ifCond .eq 40, 3) := by decide +kernel
theorem dX2_readProduct_28 : decode cX2_readProduct 28 = .ok (.aload_n 0, 1) := by decide +kernel
theorem dX2_readProduct_29 : decode cX2_readProduct 29 = .ok (.invokevirtual 60, 3) := by decide +kernel
theorem dX2_readProduct_32 : decode cX2_readProduct 32 = .ok (.istore_n 3, 1) := by decide +kernel
theorem dX2_readProduct_33 : decode cX2_readProduct 33 = .ok (.aload_n 0, 1) := by decide +kernel
theorem dX2_readProduct_34 : decode cX2_readProduct 34 = .ok (.dup, 1) := by decide +kernel
theorem dX2_readProduct_35 : decode cX2_readProduct 35 = .ok (.getfield 19, 3) := by decide +kernel
theorem dX2_readProduct_38 : decode cX2_readProduct 38 = .ok (.iconst 1, 1) := by decide +kernel
theorem dX2_readProduct_39 : decode cX2_readProduct 39 = .ok (.iadd, 1) := by decide +kernel
theorem dX2_readProduct_40 : decode cX2_readProduct 40 = .ok (.putfield 19, 3) := by decide +kernel
theorem dX2_readProduct_43 : decode cX2_readProduct 43 = .ok (.aload_n 0, 1) := by decide +kernel
theorem dX2_readProduct_44 : decode cX2_readProduct 44 = .ok (.iload_n 1, 1) := by decide +kernel
theorem dX2_readProduct_45 : decode cX2_readProduct 45 = .ok (.invokevirtual 77, 3) := by decide +kernel
theorem dX2_readProduct_48 : decode cX2_readProduct 48 = .ok (.ifCond .ne 5, 3) := by decide +kernel
theorem dX2_readProduct_51 : decode cX2_readProduct 51 = .ok (.iconst 0, 1) := by decide +kernel
theorem dX2_readProduct_52 : decode cX2_readProduct 52 = .ok (.ireturn, 1) := by decide +kernel
theorem dX2_readProduct_53 : decode cX2_readProduct 53 = .ok (.aload_n 0, 1) := by decide +kernel
theorem dX2_readProduct_54 : decode cX2_readProduct 54 = .ok (.iload_n 3, 1) := by decide +kernel
theorem dX2_readProduct_55 : decode cX2_readProduct 55 = .ok (.ineg, 1) := by decide +kernel
theorem dX2_readProduct_56 : decode cX2_readProduct 56 = .ok (.invokevirtual 64, 3) := by decide +kernel
theorem dX2_readProduct_59 : decode cX2_readProduct 59 = .ok (.iinc 2 1, 3) := by decide +kernel
theorem dX2_readProduct_62 : decode cX2_readProduct 62 = .ok (.goto (-50), 3) := by decide +kernel
theorem dX2_readProduct_65 : decode cX2_readProduct 65 = .ok (.iconst 1, 1) := by decide +kernel
theorem dX2_readProduct_66 : decode cX2_readProduct 66 = .ok (.ireturn, 1) := by decide +kernel
theorem dX2_isOfProducts_0 : decode cX2_isOfProducts 0 = .ok (.iload_n 0, 1) := by decide +kernel
theorem dX2_isOfProducts_1 : decode cX2_isOfProducts 1 = .ok (.bipush 42, 2) := by decide +kernel
theorem dX2_isOfProducts_3 : decode cX2_isOfProducts 3 = .ok (.if_icmp .eq 15, 3) := by decide +kernel
theorem dX2_isOfProducts_6 : decode cX2_isOfProducts 6 = .ok (.iload_n 0, 1) := by decide +kernel
theorem dX2_isOfProducts_7 : decode cX2_isOfProducts 7 = .ok (.bipush 47, 2) := by decide +kernel
theorem dX2_isOfProducts_9 : decode cX2_isOfProducts 9 = .ok (.if_icmp .eq 9, 3) := by decide +kernel
theorem dX2_isOfProducts_12 : decode cX2_isOfProducts 12 = .ok (.iload_n 0, 1) := by decide +kernel
theorem dX2_isOfProducts_13 : decode cX2_isOfProducts 13 = .ok (.bipush 37, 2) := by decide +kernel
theorem dX2_isOfProducts_15 : decode cX2_isOfProducts 15 = .ok (.if_icmp .ne 7, 3) := by decide +kernel
theorem dX2_isOfProducts_18 : decode cX2_isOfProducts 18 = .ok (.iconst 1, 1) := by decide +kernel
theorem dX2_isOfProducts_19 : decode cX2_isOfProducts 19 = .ok (.goto 4, 3) := by decide +kernel
theorem dX2_isOfProducts_22 : decode cX2_isOfProducts 22 = .ok (.iconst 0, 1) := by decide +kernel
theorem dX2_isOfProducts_23 : decode cX2_isOfProducts 23 = .ok (.ireturn, 1) := by decide +kernel
theorem dX2_readOne_0 : decode cX2_readOne 0 = .ok (.aload_n 0, 1) := by decide +kernel
theorem dX2_readOne_1 : decode cX2_readOne 1 = .ok (.invokevirtual 60, 3) := by decide +kernel
theorem dX2_readOne_4 : decode cX2_readOne 4 = .ok (.istore_n 2, 1) := by decide +kernel
theorem dX2_readOne_5 : decode cX2_readOne 5 = .ok (.iload_n 2, 1) := by decide +kernel
theorem dX2_readOne_6 : decode cX2_readOne 6 = .ok (.bipush 33, 2) := by decide +kernel
theorem dX2_readOne_8 : decode cX2_readOne 8 = .ok (.if_icmp .eq 9, 3) := by decide +kernel
theorem dX2_readOne_11 : decode cX2_readOne 11 = .ok (.iload_n 2, 1) := by decide +kernel
theorem dX2_readOne_12 : decode cX2_readOne 12 = .ok (.bipush 40, 2) := by decide +kernel
theorem dX2_readOne_14 : decode cX2_readOne 14 = .ok (.if_icmp .ne 44, 3) := by decide +kernel
theorem dX2_readOne_17 : decode cX2_readOne 17 = .ok (.iload_n 1, 1) := by decide +kernel
theorem dX2_readOne_18 : decode cX2_readOne 18 = .ok (.iconst 5, 1) := by decide +kernel
theorem dX2_readOne_19 : decode cX2_readOne 19 = .ok (.if_icmp .lt 5, 3) := by decide +kernel
theorem dX2_readOne_22 : decode cX2_readOne 22 = .ok (.iconst 0, 1) := by decide +kernel
theorem dX2_readOne_23 : decode cX2_readOne 23 = .ok (.ireturn, 1) := by decide +kernel
theorem dX2_readOne_24 : decode cX2_readOne 24 = .ok (.aload_n 0, 1) := by decide +kernel
theorem dX2_readOne_25 : decode cX2_readOne 25 = .ok (.dup, 1) := by decide +kernel
theorem dX2_readOne_26 : decode cX2_readOne 26 = .ok (.getfield 19, 3) := by decide +kernel
theorem dX2_readOne_29 : decode cX2_readOne 29 = .ok (.iconst 1, 1) := by decide +kernel
theorem dX2_readOne_30 : decode cX2_readOne 30 = .ok (.iadd, 1) := by decide +kernel
theorem dX2_readOne_31 : decode cX2_readOne 31 = .ok (.putfield 19, 3) := by decide +kernel
theorem dX2_readOne_34 : decode cX2_readOne 34 = .ok (.iload_n 2, 1) := by decide +kernel
theorem dX2_readOne_35 : decode cX2_readOne 35 = .ok (.bipush 33, 2) := by decide +kernel
theorem dX2_readOne_37 : decode cX2_readOne 37 = .ok (.if_icmp .ne 13, 3) := by decide +kernel
theorem dX2_readOne_40 : decode cX2_readOne 40 = .ok (.aload_n 0, 1) := by decide +kernel
theorem dX2_readOne_41 : decode cX2_readOne 41 = .ok (.iload_n 1, 1) := by decide +kernel
theorem dX2_readOne_42 : decode cX2_readOne 42 = .ok (.iconst 1, 1) := by decide +kernel
theorem dX2_readOne_43 : decode cX2_readOne 43 = .ok (.iadd, 1) := by decide +kernel
theorem dX2_readOne_44 : decode cX2_readOne 44 = .ok (.invokevirtual 84, 3) := by decide +kernel
theorem dX2_readOne_47 : decode cX2_readOne 47 = .ok (.goto 10, 3) := by decide +kernel
theorem dX2_readOne_50 : decode cX2_readOne 50 = .ok (.aload_n 0, 1) := by decide +kernel
theorem dX2_readOne_51 : decode cX2_readOne 51 = .ok (.iload_n 1, 1) := by decide +kernel
theorem dX2_readOne_52 : decode cX2_readOne 52 = .ok (.iconst 1, 1) := by decide +kernel
theorem dX2_readOne_53 : decode cX2_readOne 53 = .ok (.iadd, 1) := by decide +kernel
theorem dX2_readOne_54 : decode cX2_readOne 54 = .ok (.invokevirtual 87, 3) := by decide +kernel
theorem dX2_readOne_57 : decode cX2_readOne 57 = .ok (.ireturn, 1) := by decide +kernel
theorem dX2_readOne_58 : decode cX2_readOne 58 = .ok (.iload_n 2, 1) := by decide +kernel
theorem dX2_readOne_59 : decode cX2_readOne 59 = .ok (.invokestatic 90, 3) := by decide +kernel
theorem dX2_readOne_62 : decode cX2_readOne 62 = .ok (.ifCond .eq 9, 3) := by decide +kernel
theorem dX2_readOne_65 : decode cX2_readOne 65 = .ok (.aload_n 0, 1) := by decide +kernel
theorem dX2_readOne_66 : decode cX2_readOne 66 = .ok (.invokevirtual 93, 3) := by decide +kernel
theorem dX2_readOne_69 : decode cX2_readOne 69 = .ok (.iconst 1, 1) := by decide +kernel
theorem dX2_readOne_70 : decode cX2_readOne 70 = .ok (.ireturn, 1) := by decide +kernel
theorem dX2_readOne_71 : decode cX2_readOne 71 = .ok (.aload_n 0, 1) := by decide +kernel
theorem dX2_readOne_72 : decode cX2_readOne 72 = .ok (.getfield 31, 3) := by decide +kernel
theorem dX2_readOne_75 : decode cX2_readOne 75 = .ok (.iload_n 2, 1) := by decide +kernel
theorem dX2_readOne_76 : decode cX2_readOne 76 = .ok (.invokevirtual 96, 3) := by decide +kernel
theorem dX2_readOne_79 : decode cX2_readOne 79 = .ok (.istore_n 3, 1) := by decide +kernel
theorem dX2_readOne_80 : decode cX2_readOne 80 = .ok (.iload_n 3, 1) := by decide +kernel
theorem dX2_readOne_81 : decode cX2_readOne 81 = .ok (.ifCond .ge 5, 3) := by decide +kernel
theorem dX2_readOne_84 : decode cX2_readOne 84 = .ok (.iconst 0, 1) := by decide +kernel
theorem dX2_readOne_85 : decode cX2_readOne 85 = .ok (.ireturn, 1) := by decide +kernel
theorem dX2_readOne_86 : decode cX2_readOne 86 = .ok (.aload_n 0, 1) := by decide +kernel
theorem dX2_readOne_87 : decode cX2_readOne 87 = .ok (.dup, 1) := by decide +kernel
theorem dX2_readOne_88 : decode cX2_readOne 88 = .ok (.getfield 19, 3) := by decide +kernel
theorem dX2_readOne_91 : decode cX2_readOne 91 = .ok (.iconst 1, 1) := by decide +kernel
theorem dX2_readOne_92 : decode cX2_readOne 92 = .ok (.iadd, 1) := by decide +kernel
theorem dX2_readOne_93 : decode cX2_readOne 93 = .ok (.putfield 19, 3) := by decide +kernel
theorem dX2_readOne_96 : decode cX2_readOne 96 = .ok (.aload_n 0, 1) := by decide +kernel
theorem dX2_readOne_97 : decode cX2_readOne 97 = .ok (.iconst (-1), 1) := by decide +kernel
theorem dX2_readOne_98 : decode cX2_readOne 98 = .ok (.iload_n 3, 1) := by decide +kernel
theorem dX2_readOne_99 : decode cX2_readOne 99 = .ok (.isub, 1) := by decide +kernel
theorem dX2_readOne_100 : decode cX2_readOne 100 = .ok (.invokevirtual 64, 3) := by decide +kernel
theorem dX2_readOne_103 : decode cX2_readOne 103 = .ok (.iconst 1, 1) := by decide +kernel
theorem dX2_readOne_104 : decode cX2_readOne 104 = .ok (.ireturn, 1) := by decide +kernel
theorem dX2_readNot_0 : decode cX2_readNot 0 = .ok (.aload_n 0, 1) := by decide +kernel
theorem dX2_readNot_1 : decode cX2_readNot 1 = .ok (.iload_n 1, 1) := by decide +kernel
theorem dX2_readNot_2 : decode cX2_readNot 2 = .ok (.invokevirtual 77, 3) := by decide +kernel
theorem dX2_readNot_5 : decode cX2_readNot 5 = .ok (.ifCond .ne 5, 3) := by decide +kernel
theorem dX2_readNot_8 : decode cX2_readNot 8 = .ok (.iconst 0, 1) := by decide +kernel
theorem dX2_readNot_9 : decode cX2_readNot 9 = .ok (.ireturn, 1) := by decide +kernel
theorem dX2_readNot_10 : decode cX2_readNot 10 = .ok (.aload_n 0, 1) := by decide +kernel
theorem dX2_readNot_11 : decode cX2_readNot 11 = .ok (.bipush (-33), 2) := by decide +kernel
theorem dX2_readNot_13 : decode cX2_readNot 13 = .ok (.invokevirtual 64, 3) := by decide +kernel
theorem dX2_readNot_16 : decode cX2_readNot 16 = .ok (.iconst 1, 1) := by decide +kernel
theorem dX2_readNot_17 : decode cX2_readNot 17 = .ok (.ireturn, 1) := by decide +kernel
theorem dX2_readWithin_0 : decode cX2_readWithin 0 = .ok (.aload_n 0, 1) := by decide +kernel
theorem dX2_readWithin_1 : decode cX2_readWithin 1 = .ok (.iload_n 1, 1) := by decide +kernel
theorem dX2_readWithin_2 : decode cX2_readWithin 2 = .ok (.invokevirtual 53, 3) := by decide +kernel
theorem dX2_readWithin_5 : decode cX2_readWithin 5 = .ok (.ifCond .eq 12, 3) := by decide +kernel
theorem dX2_readWithin_8 : decode cX2_readWithin 8 = .ok (.aload_n 0, 1) := by decide +kernel
theorem dX2_readWithin_9 : decode cX2_readWithin 9 = .ok (.invokevirtual 60, 3) := by decide +kernel
theorem dX2_readWithin_12 : decode cX2_readWithin 12 = .ok (.bipush 41, 2) := by decide +kernel
theorem dX2_readWithin_14 : decode cX2_readWithin 14 = .ok (.if_icmp .eq 5, 3) := by decide +kernel
theorem dX2_readWithin_17 : decode cX2_readWithin 17 = .ok (.iconst 0, 1) := by decide +kernel
theorem dX2_readWithin_18 : decode cX2_readWithin 18 = .ok (.ireturn, 1) := by decide +kernel
theorem dX2_readWithin_19 : decode cX2_readWithin 19 = .ok (.aload_n 0, 1) := by decide +kernel
theorem dX2_readWithin_20 : decode cX2_readWithin 20 = .ok (.dup, 1) := by decide +kernel
theorem dX2_readWithin_21 : decode cX2_readWithin 21 = .ok (.getfield 19, 3) := by decide +kernel
theorem dX2_readWithin_24 : decode cX2_readWithin 24 = .ok (.iconst 1, 1) := by decide +kernel
theorem dX2_readWithin_25 : decode cX2_readWithin 25 = .ok (.iadd, 1) := by decide +kernel
theorem dX2_readWithin_26 : decode cX2_readWithin 26 = .ok (.putfield 19, 3) := by decide +kernel
theorem dX2_readWithin_29 : decode cX2_readWithin 29 = .ok (.iconst 1, 1) := by decide +kernel
theorem dX2_readWithin_30 : decode cX2_readWithin 30 = .ok (.ireturn, 1) := by decide +kernel
theorem dX2_readNumber_0 : decode cX2_readNumber 0 = .ok (.iconst 0, 1) := by decide +kernel
theorem dX2_readNumber_1 : decode cX2_readNumber 1 = .ok (.istore_n 1, 1) := by decide +kernel
theorem dX2_readNumber_2 : decode cX2_readNumber 2 = .ok (.iconst 0, 1) := by decide +kernel
theorem dX2_readNumber_3 : decode cX2_readNumber 3 = .ok (.istore_n 2, 1) := by decide +kernel
theorem dX2_readNumber_4 : decode cX2_readNumber 4 = .ok (.iload_n 2, 1) := by decide +kernel
theorem dX2_readNumber_5 : decode cX2_readNumber 5 = .ok (.iconst 4, 1) := by decide +kernel
theorem dX2_readNumber_6 : decode cX2_readNumber 6 = .ok (.if_icmp .ge 42, 3) := by decide +kernel
theorem dX2_readNumber_9 : decode cX2_readNumber 9 = .ok (.aload_n 0, 1) := by decide +kernel
theorem dX2_readNumber_10 : decode cX2_readNumber 10 = .ok (.invokevirtual 60, 3) := by decide +kernel
theorem dX2_readNumber_13 : decode cX2_readNumber 13 = .ok (.invokestatic 90, 3) := by decide +kernel
theorem dX2_readNumber_16 : decode cX2_readNumber 16 = .ok (.ifCond .eq 32, 3) := by decide +kernel
theorem dX2_readNumber_19 : decode cX2_readNumber 19 = .ok (.iload_n 1, 1) := by decide +kernel
theorem dX2_readNumber_20 : decode cX2_readNumber 20 = .ok (.bipush 10, 2) := by decide +kernel
theorem dX2_readNumber_22 : decode cX2_readNumber 22 = .ok (.imul, 1) := by decide +kernel
theorem dX2_readNumber_23 : decode cX2_readNumber 23 = .ok (.aload_n 0, 1) := by decide +kernel
theorem dX2_readNumber_24 : decode cX2_readNumber 24 = .ok (.invokevirtual 60, 3) := by decide +kernel
theorem dX2_readNumber_27 : decode cX2_readNumber 27 = .ok (.bipush 48, 2) := by decide +kernel
theorem dX2_readNumber_29 : decode cX2_readNumber 29 = .ok (.isub, 1) := by decide +kernel
theorem dX2_readNumber_30 : decode cX2_readNumber 30 = .ok (.iadd, 1) := by decide +kernel
theorem dX2_readNumber_31 : decode cX2_readNumber 31 = .ok (.istore_n 1, 1) := by decide +kernel
theorem dX2_readNumber_32 : decode cX2_readNumber 32 = .ok (.aload_n 0, 1) := by decide +kernel
theorem dX2_readNumber_33 : decode cX2_readNumber 33 = .ok (.dup, 1) := by decide +kernel
theorem dX2_readNumber_34 : decode cX2_readNumber 34 = .ok (.getfield 19, 3) := by decide +kernel
theorem dX2_readNumber_37 : decode cX2_readNumber 37 = .ok (.iconst 1, 1) := by decide +kernel
theorem dX2_readNumber_38 : decode cX2_readNumber 38 = .ok (.iadd, 1) := by decide +kernel
theorem dX2_readNumber_39 : decode cX2_readNumber 39 = .ok (.putfield 19, 3) := by decide +kernel
theorem dX2_readNumber_42 : decode cX2_readNumber 42 = .ok (.iinc 2 1, 3) := by decide +kernel
theorem dX2_readNumber_45 : decode cX2_readNumber 45 = .ok (.goto (-41), 3) := by decide +kernel
theorem dX2_readNumber_48 : decode cX2_readNumber 48 = .ok (.aload_n 0, 1) := by decide +kernel
theorem dX2_readNumber_49 : decode cX2_readNumber 49 = .ok (.iload_n 1, 1) := by decide +kernel
theorem dX2_readNumber_50 : decode cX2_readNumber 50 = .ok (.invokevirtual 64, 3) := by decide +kernel
theorem dX2_readNumber_53 : decode cX2_readNumber 53 = .ok (.return_, 1) := by decide +kernel
theorem dX2_isDigit_0 : decode cX2_isDigit 0 = .ok (.iload_n 0, 1) := by decide +kernel
theorem dX2_isDigit_1 : decode cX2_isDigit 1 = .ok (.bipush 48, 2) := by decide +kernel
theorem dX2_isDigit_3 : decode cX2_isDigit 3 = .ok (.if_icmp .lt 13, 3) := by decide +kernel
theorem dX2_isDigit_6 : decode cX2_isDigit 6 = .ok (.iload_n 0, 1) := by decide +kernel
theorem dX2_isDigit_7 : decode cX2_isDigit 7 = .ok (.bipush 57, 2) := by decide +kernel
theorem dX2_isDigit_9 : decode cX2_isDigit 9 = .ok (.if_icmp .gt 7, 3) := by decide +kernel
theorem dX2_isDigit_12 : decode cX2_isDigit 12 = .ok (.iconst 1, 1) := by decide +kernel
theorem dX2_isDigit_13 : decode cX2_isDigit 13 = .ok (.goto 4, 3) := by decide +kernel
theorem dX2_isDigit_16 : decode cX2_isDigit 16 = .ok (.iconst 0, 1) := by decide +kernel
theorem dX2_isDigit_17 : decode cX2_isDigit 17 = .ok (.ireturn, 1) := by decide +kernel
theorem dX3_init_0 : decode cX3_init 0 = .ok (.aload_n 0, 1) := by decide +kernel
theorem dX3_init_1 : decode cX3_init 1 = .ok (.invokespecial 3, 3) := by decide +kernel
theorem dX3_init_4 : decode cX3_init 4 = .ok (.aload_n 0, 1) := by decide +kernel
theorem dX3_init_5 : decode cX3_init 5 = .ok (.iconst 0, 1) := by decide +kernel
theorem dX3_init_6 : decode cX3_init 6 = .ok (.putfield 9, 3) := by decide +kernel
theorem dX3_init_9 : decode cX3_init 9 = .ok (.aload_n 0, 1) := by decide +kernel
theorem dX3_init_10 : decode cX3_init 10 = .ok (.iconst 0, 1) := by decide +kernel
theorem dX3_init_11 : decode cX3_init 11 = .ok (.putfield 15, 3) := by decide +kernel
theorem dX3_init_14 : decode cX3_init 14 = .ok (.aload_n 0, 1) := by decide +kernel
theorem dX3_init_15 : decode cX3_init 15 = .ok (.bipush 24, 2) := by decide +kernel
theorem dX3_init_17 : decode cX3_init 17 = .ok (.newarray .int, 2) := by decide +kernel
theorem dX3_init_19 : decode cX3_init 19 = .ok (.putfield 18, 3) := by decide +kernel
theorem dX3_init_22 : decode cX3_init 22 = .ok (.return_, 1) := by decide +kernel
theorem dX3_isMissing_0 : decode cX3_isMissing 0 = .ok (.aload_n 0, 1) := by decide +kernel
theorem dX3_isMissing_1 : decode cX3_isMissing 1 = .ok (.getfield 9, 3) := by decide +kernel
theorem dX3_isMissing_4 : decode cX3_isMissing 4 = .ok (.ifCond .ne 7, 3) := by decide +kernel
theorem dX3_isMissing_7 : decode cX3_isMissing 7 = .ok (.iconst 1, 1) := by decide +kernel
theorem dX3_isMissing_8 : decode cX3_isMissing 8 = .ok (.goto 4, 3) := by decide +kernel
theorem dX3_isMissing_11 : decode cX3_isMissing 11 = .ok (.iconst 0, 1) := by decide +kernel
theorem dX3_isMissing_12 : decode cX3_isMissing 12 = .ok (.ireturn, 1) := by decide +kernel
theorem dX3_renew_0 : decode cX3_renew 0 = .ok (.aload_n 0, 1) := by decide +kernel
theorem dX3_renew_1 : decode cX3_renew 1 = .ok (.iload_n 1, 1) := by decide +kernel
theorem dX3_renew_2 : decode cX3_renew 2 = .ok (.putfield 9, 3) := by decide +kernel
theorem dX3_renew_5 : decode cX3_renew 5 = .ok (.aload_n 0, 1) := by decide +kernel
theorem dX3_renew_6 : decode cX3_renew 6 = .ok (.iload_n 2, 1) := by decide +kernel
theorem dX3_renew_7 : decode cX3_renew 7 = .ok (.putfield 15, 3) := by decide +kernel
theorem dX3_renew_10 : decode cX3_renew 10 = .ok (.iconst 0, 1) := by decide +kernel
theorem dX3_renew_11 : decode cX3_renew 11 = .ok (.istore_n 3, 1) := by decide +kernel
theorem dX3_renew_12 : decode cX3_renew 12 = .ok (.iload_n 3, 1) := by decide +kernel
theorem dX3_renew_13 : decode cX3_renew 13 = .ok (.bipush 24, 2) := by decide +kernel
theorem dX3_renew_15 : decode cX3_renew 15 = .ok (.if_icmp .ge 16, 3) := by decide +kernel
theorem dX3_renew_18 : decode cX3_renew 18 = .ok (.aload_n 0, 1) := by decide +kernel
theorem dX3_renew_19 : decode cX3_renew 19 = .ok (.getfield 18, 3) := by decide +kernel
theorem dX3_renew_22 : decode cX3_renew 22 = .ok (.iload_n 3, 1) := by decide +kernel
theorem dX3_renew_23 : decode cX3_renew 23 = .ok (.iconst 0, 1) := by decide +kernel
theorem dX3_renew_24 : decode cX3_renew 24 = .ok (.iastore, 1) := by decide +kernel
theorem dX3_renew_25 : decode cX3_renew 25 = .ok (.iinc 3 1, 3) := by decide +kernel
theorem dX3_renew_28 : decode cX3_renew 28 = .ok (.goto (-16), 3) := by decide +kernel
theorem dX3_renew_31 : decode cX3_renew 31 = .ok (.return_, 1) := by decide +kernel
theorem dX3_write_0 : decode cX3_write 0 = .ok (.aload_n 0, 1) := by decide +kernel
theorem dX3_write_1 : decode cX3_write 1 = .ok (.getfield 18, 3) := by decide +kernel
theorem dX3_write_4 : decode cX3_write 4 = .ok (.iload_n 1, 1) := by decide +kernel
theorem dX3_write_5 : decode cX3_write 5 = .ok (.aload_n 0, 1) := by decide +kernel
theorem dX3_write_6 : decode cX3_write 6 = .ok (.getfield 9, 3) := by decide +kernel
theorem dX3_write_9 : decode cX3_write 9 = .ok (.bipush 8, 2) := by decide +kernel
theorem dX3_write_11 : decode cX3_write 11 = .ok (.if_icmp .ne 8, 3) := by decide +kernel
theorem dX3_write_14 : decode cX3_write 14 = .ok (.iload_n 2, 1) := by decide +kernel
theorem dX3_write_15 : decode cX3_write 15 = .ok (.i2b, 1) := by decide +kernel
theorem dX3_write_16 : decode cX3_write 16 = .ok (.goto 18, 3) := by decide +kernel
theorem dX3_write_19 : decode cX3_write 19 = .ok (.aload_n 0, 1) := by decide +kernel
theorem dX3_write_20 : decode cX3_write 20 = .ok (.getfield 9, 3) := by decide +kernel
theorem dX3_write_23 : decode cX3_write 23 = .ok (.bipush 16, 2) := by decide +kernel
theorem dX3_write_25 : decode cX3_write 25 = .ok (.if_icmp .ne 8, 3) := by decide +kernel
theorem dX3_write_28 : decode cX3_write 28 = .ok (.iload_n 2, 1) := by decide +kernel
theorem dX3_write_29 : decode cX3_write 29 = .ok (.i2s, 1) := by decide +kernel
theorem dX3_write_30 : decode cX3_write 30 = .ok (.goto 4, 3) := by decide +kernel
theorem dX3_write_33 : decode cX3_write 33 = .ok (.iload_n 2, 1) := by decide +kernel
theorem dX3_write_34 : decode cX3_write 34 = .ok (.iastore, 1) := by decide +kernel
theorem dX3_write_35 : decode cX3_write 35 = .ok (.return_, 1) := by decide +kernel
theorem dX3_hasRow_0 : decode cX3_hasRow 0 = .ok (.iload_n 1, 1) := by decide +kernel
theorem dX3_hasRow_1 : decode cX3_hasRow 1 = .ok (.ifCond .lt 29, 3) := by decide +kernel
theorem dX3_hasRow_4 : decode cX3_hasRow 4 = .ok (.iload_n 2, 1) := by decide +kernel
theorem dX3_hasRow_5 : decode cX3_hasRow 5 = .ok (.ifCond .lt 25, 3) := by decide +kernel
theorem dX3_hasRow_8 : decode cX3_hasRow 8 = .ok (.iload_n 2, 1) := by decide +kernel
theorem dX3_hasRow_9 : decode cX3_hasRow 9 = .ok (.aload_n 0, 1) := by decide +kernel
theorem dX3_hasRow_10 : decode cX3_hasRow 10 = .ok (.getfield 15, 3) := by decide +kernel
theorem dX3_hasRow_13 : decode cX3_hasRow 13 = .ok (.if_icmp .gt 17, 3) := by decide +kernel
theorem dX3_hasRow_16 : decode cX3_hasRow 16 = .ok (.iload_n 1, 1) := by decide +kernel
theorem dX3_hasRow_17 : decode cX3_hasRow 17 = .ok (.aload_n 0, 1) := by decide +kernel
theorem dX3_hasRow_18 : decode cX3_hasRow 18 = .ok (.getfield 15, 3) := by decide +kernel
theorem dX3_hasRow_21 : decode cX3_hasRow 21 = .ok (.iload_n 2, 1) := by decide +kernel
theorem dX3_hasRow_22 : decode cX3_hasRow 22 = .ok (.isub, 1) := by decide +kernel
theorem dX3_hasRow_23 : decode cX3_hasRow 23 = .ok (.if_icmp .gt 7, 3) := by decide +kernel
theorem dX3_hasRow_26 : decode cX3_hasRow 26 = .ok (.iconst 1, 1) := by decide +kernel
theorem dX3_hasRow_27 : decode cX3_hasRow 27 = .ok (.goto 4, 3) := by decide +kernel
theorem dX3_hasRow_30 : decode cX3_hasRow 30 = .ok (.iconst 0, 1) := by decide +kernel
theorem dX3_hasRow_31 : decode cX3_hasRow 31 = .ok (.ireturn, 1) := by decide +kernel
theorem dX4_init_0 : decode cX4_init 0 = .ok (.aload_n 0, 1) := by decide +kernel
theorem dX4_init_1 : decode cX4_init 1 = .ok (.invokespecial 3, 3) := by decide +kernel
theorem dX4_init_4 : decode cX4_init 4 = .ok (.aload_n 0, 1) := by decide +kernel
theorem dX4_init_5 : decode cX4_init 5 = .ok (.iconst 0, 1) := by decide +kernel
theorem dX4_init_6 : decode cX4_init 6 = .ok (.putfield 9, 3) := by decide +kernel
theorem dX4_init_9 : decode cX4_init 9 = .ok (.aload_n 0, 1) := by decide +kernel
theorem dX4_init_10 : decode cX4_init 10 = .ok (.iconst 0, 1) := by decide +kernel
theorem dX4_init_11 : decode cX4_init 11 = .ok (.putfield 15, 3) := by decide +kernel
theorem dX4_init_14 : decode cX4_init 14 = .ok (.aload_n 0, 1) := by decide +kernel
theorem dX4_init_15 : decode cX4_init 15 = .ok (.iconst 0, 1) := by decide +kernel
theorem dX4_init_16 : decode cX4_init 16 = .ok (.putfield 18, 3) := by decide +kernel
theorem dX4_init_19 : decode cX4_init 19 = .ok (.aload_n 0, 1) := by decide +kernel
theorem dX4_init_20 : decode cX4_init 20 = .ok (.iconst 0, 1) := by decide +kernel
theorem dX4_init_21 : decode cX4_init 21 = .ok (.putfield 21, 3) := by decide +kernel
theorem dX4_init_24 : decode cX4_init 24 = .ok (.aload_n 0, 1) := by decide +kernel
theorem dX4_init_25 : decode cX4_init 25 = .ok (.iconst 0, 1) := by decide +kernel
theorem dX4_init_26 : decode cX4_init 26 = .ok (.putfield 24, 3) := by decide +kernel
theorem dX4_init_29 : decode cX4_init 29 = .ok (.aload_n 0, 1) := by decide +kernel
theorem dX4_init_30 : decode cX4_init 30 = .ok (.iconst 0, 1) := by decide +kernel
theorem dX4_init_31 : decode cX4_init 31 = .ok (.putfield 27, 3) := by decide +kernel
theorem dX4_init_34 : decode cX4_init 34 = .ok (.aload_n 0, 1) := by decide +kernel
theorem dX4_init_35 : decode cX4_init 35 = .ok (.iconst 0, 1) := by decide +kernel
theorem dX4_init_36 : decode cX4_init 36 = .ok (.putfield 30, 3) := by decide +kernel
theorem dX4_init_39 : decode cX4_init 39 = .ok (.return_, 1) := by decide +kernel
theorem dX4_takeFrom_0 : decode cX4_takeFrom 0 = .ok (.aload_n 0, 1) := by decide +kernel
theorem dX4_takeFrom_1 : decode cX4_takeFrom 1 = .ok (.aload_n 1, 1) := by decide +kernel
theorem dX4_takeFrom_2 : decode cX4_takeFrom 2 = .ok (.getfield 9, 3) := by decide +kernel
theorem dX4_takeFrom_5 : decode cX4_takeFrom 5 = .ok (.putfield 9, 3) := by decide +kernel
theorem dX4_takeFrom_8 : decode cX4_takeFrom 8 = .ok (.aload_n 0, 1) := by decide +kernel
theorem dX4_takeFrom_9 : decode cX4_takeFrom 9 = .ok (.aload_n 1, 1) := by decide +kernel
theorem dX4_takeFrom_10 : decode cX4_takeFrom 10 = .ok (.getfield 15, 3) := by decide +kernel
theorem dX4_takeFrom_13 : decode cX4_takeFrom 13 = .ok (.putfield 15, 3) := by decide +kernel
theorem dX4_takeFrom_16 : decode cX4_takeFrom 16 = .ok (.aload_n 0, 1) := by decide +kernel
theorem dX4_takeFrom_17 : decode cX4_takeFrom 17 = .ok (.aload_n 1, 1) := by decide +kernel
theorem dX4_takeFrom_18 : decode cX4_takeFrom 18 = .ok (.getfield 18, 3) := by decide +kernel
theorem dX4_takeFrom_21 : decode cX4_takeFrom 21 = .ok (.putfield 18, 3) := by decide +kernel
theorem dX4_takeFrom_24 : decode cX4_takeFrom 24 = .ok (.aload_n 0, 1) := by decide +kernel
theorem dX4_takeFrom_25 : decode cX4_takeFrom 25 = .ok (.aload_n 1, 1) := by decide +kernel
theorem dX4_takeFrom_26 : decode cX4_takeFrom 26 = .ok (.getfield 21, 3) := by decide +kernel
theorem dX4_takeFrom_29 : decode cX4_takeFrom 29 = .ok (.putfield 21, 3) := by decide +kernel
theorem dX4_takeFrom_32 : decode cX4_takeFrom 32 = .ok (.aload_n 0, 1) := by decide +kernel
theorem dX4_takeFrom_33 : decode cX4_takeFrom 33 = .ok (.aload_n 1, 1) := by decide +kernel
theorem dX4_takeFrom_34 : decode cX4_takeFrom 34 = .ok (.getfield 24, 3) := by decide +kernel
theorem dX4_takeFrom_37 : decode cX4_takeFrom 37 = .ok (.putfield 24, 3) := by decide +kernel
theorem dX4_takeFrom_40 : decode cX4_takeFrom 40 = .ok (.aload_n 0, 1) := by decide +kernel
theorem dX4_takeFrom_41 : decode cX4_takeFrom 41 = .ok (.aload_n 1, 1) := by decide +kernel
theorem dX4_takeFrom_42 : decode cX4_takeFrom 42 = .ok (.getfield 27, 3) := by decide +kernel
theorem dX4_takeFrom_45 : decode cX4_takeFrom 45 = .ok (.putfield 27, 3) := by decide +kernel
theorem dX4_takeFrom_48 : decode cX4_takeFrom 48 = .ok (.aload_n 0, 1) := by decide +kernel
theorem dX4_takeFrom_49 : decode cX4_takeFrom 49 = .ok (.aload_n 1, 1) := by decide +kernel
theorem dX4_takeFrom_50 : decode cX4_takeFrom 50 = .ok (.getfield 30, 3) := by decide +kernel
theorem dX4_takeFrom_53 : decode cX4_takeFrom 53 = .ok (.putfield 30, 3) := by decide +kernel
theorem dX4_takeFrom_56 : decode cX4_takeFrom 56 = .ok (.return_, 1) := by decide +kernel
theorem dX4_bakeAnew_0 : decode cX4_bakeAnew 0 = .ok (.aload_n 0, 1) := by decide +kernel
theorem dX4_bakeAnew_1 : decode cX4_bakeAnew 1 = .ok (.iconst 0, 1) := by decide +kernel
theorem dX4_bakeAnew_2 : decode cX4_bakeAnew 2 = .ok (.putfield 24, 3) := by decide +kernel
theorem dX4_bakeAnew_5 : decode cX4_bakeAnew 5 = .ok (.aload_n 0, 1) := by decide +kernel
theorem dX4_bakeAnew_6 : decode cX4_bakeAnew 6 = .ok (.iconst 0, 1) := by decide +kernel
theorem dX4_bakeAnew_7 : decode cX4_bakeAnew 7 = .ok (.putfield 27, 3) := by decide +kernel
theorem dX4_bakeAnew_10 : decode cX4_bakeAnew 10 = .ok (.aload_n 0, 1) := by decide +kernel
theorem dX4_bakeAnew_11 : decode cX4_bakeAnew 11 = .ok (.iconst 0, 1) := by decide +kernel
theorem dX4_bakeAnew_12 : decode cX4_bakeAnew 12 = .ok (.putfield 30, 3) := by decide +kernel
theorem dX4_bakeAnew_15 : decode cX4_bakeAnew 15 = .ok (.return_, 1) := by decide +kernel
theorem dX4_bearsOn_0 : decode cX4_bearsOn 0 = .ok (.aload_n 0, 1) := by decide +kernel
theorem dX4_bearsOn_1 : decode cX4_bearsOn 1 = .ok (.getfield 30, 3) := by decide +kernel
theorem dX4_bearsOn_4 : decode cX4_bearsOn 4 = .ok (.ifCond .eq 5, 3) := by decide +kernel
theorem dX4_bearsOn_7 : decode cX4_bearsOn 7 = .ok (.iconst (-1), 1) := by decide +kernel
theorem dX4_bearsOn_8 : decode cX4_bearsOn 8 = .ok (.ireturn, 1) := by decide +kernel
theorem dX4_bearsOn_9 : decode cX4_bearsOn 9 = .ok (.aload_n 0, 1) := by decide +kernel
theorem dX4_bearsOn_10 : decode cX4_bearsOn 10 = .ok (.getfield 9, 3) := by decide +kernel
theorem dX4_bearsOn_13 : decode cX4_bearsOn 13 = .ok (.tableswitch 110 1 6 #[39, 44, 49, 64, 88, 100], 39) := by decide +kernel
theorem dX4_bearsOn_52 : decode cX4_bearsOn 52 = .ok (.aload_n 0, 1) := by decide +kernel
theorem dX4_bearsOn_53 : decode cX4_bearsOn 53 = .ok (.invokevirtual 34, 3) := by decide +kernel
theorem dX4_bearsOn_56 : decode cX4_bearsOn 56 = .ok (.ireturn, 1) := by decide +kernel
theorem dX4_bearsOn_57 : decode cX4_bearsOn 57 = .ok (.aload_n 0, 1) := by decide +kernel
theorem dX4_bearsOn_58 : decode cX4_bearsOn 58 = .ok (.invokevirtual 38, 3) := by decide +kernel
theorem dX4_bearsOn_61 : decode cX4_bearsOn 61 = .ok (.ireturn, 1) := by decide +kernel
theorem dX4_bearsOn_62 : decode cX4_bearsOn 62 = .ok (.bipush 40, 2) := by decide +kernel
theorem dX4_bearsOn_64 : decode cX4_bearsOn 64 = .ok (.bipush 8, 2) := by decide +kernel
theorem dX4_bearsOn_66 : decode cX4_bearsOn 66 = .ok (.iconst 2, 1) := by decide +kernel
theorem dX4_bearsOn_67 : decode cX4_bearsOn 67 = .ok (.aload_n 0, 1) := by decide +kernel
theorem dX4_bearsOn_68 : decode cX4_bearsOn 68 = .ok (.getfield 24, 3) := by decide +kernel
theorem dX4_bearsOn_71 : decode cX4_bearsOn 71 = .ok (.imul, 1) := by decide +kernel
theorem dX4_bearsOn_72 : decode cX4_bearsOn 72 = .ok (.iadd, 1) := by decide +kernel
theorem dX4_bearsOn_73 : decode cX4_bearsOn 73 = .ok (.invokestatic 41, 3) := by decide +kernel
theorem dX4_bearsOn_76 : decode cX4_bearsOn 76 = .ok (.ireturn, 1) := by decide +kernel
theorem dX4_bearsOn_77 : decode cX4_bearsOn 77 = .ok (.aload_n 0, 1) := by decide +kernel
theorem dX4_bearsOn_78 : decode cX4_bearsOn 78 = .ok (.getfield 24, 3) := by decide +kernel
theorem dX4_bearsOn_81 : decode cX4_bearsOn 81 = .ok (.bipush 10, 2) := by decide +kernel
theorem dX4_bearsOn_83 : decode cX4_bearsOn 83 = .ok (.if_icmp .le 13, 3) := by decide +kernel
theorem dX4_bearsOn_86 : decode cX4_bearsOn 86 = .ok (.bipush 60, 2) := by decide +kernel
theorem dX4_bearsOn_88 : decode cX4_bearsOn 88 = .ok (.aload_n 0, 1) := by decide +kernel
theorem dX4_bearsOn_89 : decode cX4_bearsOn 89 = .ok (.getfield 15, 3) := by decide +kernel
theorem dX4_bearsOn_92 : decode cX4_bearsOn 92 = .ok (.iadd, 1) := by decide +kernel
theorem dX4_bearsOn_93 : decode cX4_bearsOn 93 = .ok (.goto 7, 3) := by decide +kernel
theorem dX4_bearsOn_96 : decode cX4_bearsOn 96 = .ok (.aload_n 0, 1) := by decide +kernel
theorem dX4_bearsOn_97 : decode cX4_bearsOn 97 = .ok (.invokevirtual 34, 3) := by decide +kernel
theorem dX4_bearsOn_100 : decode cX4_bearsOn 100 = .ok (.ireturn, 1) := by decide +kernel
theorem dX4_bearsOn_101 : decode cX4_bearsOn 101 = .ok (.aload_n 0, 1) := by decide +kernel
theorem dX4_bearsOn_102 : decode cX4_bearsOn 102 = .ok (.invokevirtual 38, 3) := by decide +kernel
theorem dX4_bearsOn_105 : decode cX4_bearsOn 105 = .ok (.iconst 2, 1) := by decide +kernel
theorem dX4_bearsOn_106 : decode cX4_bearsOn 106 = .ok (.aload_n 0, 1) := by decide +kernel
theorem dX4_bearsOn_107 : decode cX4_bearsOn 107 = .ok (.getfield 27, 3) := by decide +kernel
theorem dX4_bearsOn_110 : decode cX4_bearsOn 110 = .ok (.imul, 1) := by decide +kernel
theorem dX4_bearsOn_111 : decode cX4_bearsOn 111 = .ok (.iadd, 1) := by decide +kernel
theorem dX4_bearsOn_112 : decode cX4_bearsOn 112 = .ok (.ireturn, 1) := by decide +kernel
theorem dX4_bearsOn_113 : decode cX4_bearsOn 113 = .ok (.aload_n 0, 1) := by decide +kernel
theorem dX4_bearsOn_114 : decode cX4_bearsOn 114 = .ok (.invokevirtual 47, 3) := by decide +kernel
theorem dX4_bearsOn_117 : decode cX4_bearsOn 117 = .ok (.iload_n 1, 1) := by decide +kernel
theorem dX4_bearsOn_118 : decode cX4_bearsOn 118 = .ok (.bipush 7, 2) := by decide +kernel
theorem dX4_bearsOn_120 : decode cX4_bearsOn 120 = .ok (.irem, 1) := by decide +kernel
theorem dX4_bearsOn_121 : decode cX4_bearsOn 121 = .ok (.iadd, 1) := by decide +kernel
theorem dX4_bearsOn_122 : decode cX4_bearsOn 122 = .ok (.ireturn, 1) := by decide +kernel
theorem dX4_bearsOn_123 : decode cX4_bearsOn 123 = .ok (.aload_n 0, 1) := by decide +kernel
theorem dX4_bearsOn_124 : decode cX4_bearsOn 124 = .ok (.invokevirtual 47, 3) := by decide +kernel
theorem dX4_bearsOn_127 : decode cX4_bearsOn 127 = .ok (.ireturn, 1) := by decide +kernel
theorem dX4_bearsAsLoaf_0 : decode cX4_bearsAsLoaf 0 = .ok (.iconst 0, 1) := by decide +kernel
theorem dX4_bearsAsLoaf_1 : decode cX4_bearsAsLoaf 1 = .ok (.bipush 20, 2) := by decide +kernel
theorem dX4_bearsAsLoaf_3 : decode cX4_bearsAsLoaf 3 = .ok (.iconst 2, 1) := by decide +kernel
theorem dX4_bearsAsLoaf_4 : decode cX4_bearsAsLoaf 4 = .ok (.aload_n 0, 1) := by decide +kernel
theorem dX4_bearsAsLoaf_5 : decode cX4_bearsAsLoaf 5 = .ok (.getfield 24, 3) := by decide +kernel
theorem dX4_bearsAsLoaf_8 : decode cX4_bearsAsLoaf 8 = .ok (.imul, 1) := by decide +kernel
theorem dX4_bearsAsLoaf_9 : decode cX4_bearsAsLoaf 9 = .ok (.isub, 1) := by decide +kernel
theorem dX4_bearsAsLoaf_10 : decode cX4_bearsAsLoaf 10 = .ok (.iconst 3, 1) := by decide +kernel
theorem dX4_bearsAsLoaf_11 : decode cX4_bearsAsLoaf 11 = .ok (.aload_n 0, 1) := by decide +kernel
theorem dX4_bearsAsLoaf_12 : decode cX4_bearsAsLoaf 12 = .ok (.getfield 27, 3) := by decide +kernel
theorem dX4_bearsAsLoaf_15 : decode cX4_bearsAsLoaf 15 = .ok (.imul, 1) := by decide +kernel
theorem dX4_bearsAsLoaf_16 : decode cX4_bearsAsLoaf 16 = .ok (.isub, 1) := by decide +kernel
theorem dX4_bearsAsLoaf_17 : decode cX4_bearsAsLoaf 17 = .ok (.invokestatic 50, 3) := by decide +kernel
theorem dX4_bearsAsLoaf_20 : decode cX4_bearsAsLoaf 20 = .ok (.aload_n 0, 1) := by decide +kernel
theorem dX4_bearsAsLoaf_21 : decode cX4_bearsAsLoaf 21 = .ok (.getfield 15, 3) := by decide +kernel
theorem dX4_bearsAsLoaf_24 : decode cX4_bearsAsLoaf 24 = .ok (.iadd, 1) := by decide +kernel
theorem dX4_bearsAsLoaf_25 : decode cX4_bearsAsLoaf 25 = .ok (.ireturn, 1) := by decide +kernel
theorem dX4_bearsAsRye_0 : decode cX4_bearsAsRye 0 = .ok (.aload_n 0, 1) := by decide +kernel
theorem dX4_bearsAsRye_1 : decode cX4_bearsAsRye 1 = .ok (.invokevirtual 47, 3) := by decide +kernel
theorem dX4_bearsAsRye_4 : decode cX4_bearsAsRye 4 = .ok (.bipush 10, 2) := by decide +kernel
theorem dX4_bearsAsRye_6 : decode cX4_bearsAsRye 6 = .ok (.iadd, 1) := by decide +kernel
theorem dX4_bearsAsRye_7 : decode cX4_bearsAsRye 7 = .ok (.ireturn, 1) := by decide +kernel
theorem dX4_bearsAsBrioche_0 : decode cX4_bearsAsBrioche 0 = .ok (.iconst 0, 1) := by decide +kernel
theorem dX4_bearsAsBrioche_1 : decode cX4_bearsAsBrioche 1 = .ok (.aload_n 0, 1) := by decide +kernel
theorem dX4_bearsAsBrioche_2 : decode cX4_bearsAsBrioche 2 = .ok (.invokevirtual 47, 3) := by decide +kernel
theorem dX4_bearsAsBrioche_5 : decode cX4_bearsAsBrioche 5 = .ok (.bipush 8, 2) := by decide +kernel
theorem dX4_bearsAsBrioche_7 : decode cX4_bearsAsBrioche 7 = .ok (.isub, 1) := by decide +kernel
theorem dX4_bearsAsBrioche_8 : decode cX4_bearsAsBrioche 8 = .ok (.invokestatic 50, 3) := by decide +kernel
theorem dX4_bearsAsBrioche_11 : decode cX4_bearsAsBrioche 11 = .ok (.ireturn, 1) := by decide +kernel
theorem dX4_takes_0 : decode cX4_takes 0 = .ok (.iconst 5, 1) := by decide +kernel
theorem dX4_takes_1 : decode cX4_takes 1 = .ok (.aload_n 0, 1) := by decide +kernel
theorem dX4_takes_2 : decode cX4_takes 2 = .ok (.getfield 15, 3) := by decide +kernel
theorem dX4_takes_5 : decode cX4_takes 5 = .ok (.iadd, 1) := by decide +kernel
theorem dX4_takes_6 : decode cX4_takes 6 = .ok (.istore_n 1, 1) := by decide +kernel
theorem dX4_takes_7 : decode cX4_takes 7 = .ok (.aload_n 0, 1) := by decide +kernel
theorem dX4_takes_8 : decode cX4_takes 8 = .ok (.getfield 9, 3) := by decide +kernel
theorem dX4_takes_11 : decode cX4_takes 11 = .ok (.tableswitch 64 1 6 #[37, 41, 64, 45, 51, 62], 37) := by decide +kernel
theorem dX4_takes_48 : decode cX4_takes 48 = .ok (.iload_n 1, 1) := by decide +kernel
theorem dX4_takes_49 : decode cX4_takes 49 = .ok (.iconst 3, 1) := by decide +kernel
theorem dX4_takes_50 : decode cX4_takes 50 = .ok (.iadd, 1) := by decide +kernel
theorem dX4_takes_51 : decode cX4_takes 51 = .ok (.ireturn, 1) := by decide +kernel
theorem dX4_takes_52 : decode cX4_takes 52 = .ok (.iconst 2, 1) := by decide +kernel
theorem dX4_takes_53 : decode cX4_takes 53 = .ok (.iload_n 1, 1) := by decide +kernel
theorem dX4_takes_54 : decode cX4_takes 54 = .ok (.imul, 1) := by decide +kernel
theorem dX4_takes_55 : decode cX4_takes 55 = .ok (.ireturn, 1) := by decide +kernel
theorem dX4_takes_56 : decode cX4_takes 56 = .ok (.iload_n 1, 1) := by decide +kernel
theorem dX4_takes_57 : decode cX4_takes 57 = .ok (.iconst 3, 1) := by decide +kernel
theorem dX4_takes_58 : decode cX4_takes 58 = .ok (.iadd, 1) := by decide +kernel
theorem dX4_takes_59 : decode cX4_takes 59 = .ok (.iconst 4, 1) := by decide +kernel
theorem dX4_takes_60 : decode cX4_takes 60 = .ok (.isub, 1) := by decide +kernel
theorem dX4_takes_61 : decode cX4_takes 61 = .ok (.ireturn, 1) := by decide +kernel
theorem dX4_takes_62 : decode cX4_takes 62 = .ok (.iconst 2, 1) := by decide +kernel
theorem dX4_takes_63 : decode cX4_takes 63 = .ok (.iload_n 1, 1) := by decide +kernel
theorem dX4_takes_64 : decode cX4_takes 64 = .ok (.imul, 1) := by decide +kernel
theorem dX4_takes_65 : decode cX4_takes 65 = .ok (.aload_n 0, 1) := by decide +kernel
theorem dX4_takes_66 : decode cX4_takes 66 = .ok (.getfield 24, 3) := by decide +kernel
theorem dX4_takes_69 : decode cX4_takes 69 = .ok (.iconst 3, 1) := by decide +kernel
theorem dX4_takes_70 : decode cX4_takes 70 = .ok (.irem, 1) := by decide +kernel
theorem dX4_takes_71 : decode cX4_takes 71 = .ok (.iadd, 1) := by decide +kernel
theorem dX4_takes_72 : decode cX4_takes 72 = .ok (.ireturn, 1) := by decide +kernel
theorem dX4_takes_73 : decode cX4_takes 73 = .ok (.iconst 0, 1) := by decide +kernel
theorem dX4_takes_74 : decode cX4_takes 74 = .ok (.ireturn, 1) := by decide +kernel
theorem dX4_takes_75 : decode cX4_takes 75 = .ok (.iload_n 1, 1) := by decide +kernel
theorem dX4_takes_76 : decode cX4_takes 76 = .ok (.ireturn, 1) := by decide +kernel
theorem dX4_ends_0 : decode cX4_ends 0 = .ok (.iconst 1, 1) := by decide +kernel
theorem dX4_ends_1 : decode cX4_ends 1 = .ok (.aload_n 0, 1) := by decide +kernel
theorem dX4_ends_2 : decode cX4_ends 2 = .ok (.getfield 18, 3) := by decide +kernel
theorem dX4_ends_5 : decode cX4_ends 5 = .ok (.ishl, 1) := by decide +kernel
theorem dX4_ends_6 : decode cX4_ends 6 = .ok (.iconst 1, 1) := by decide +kernel
theorem dX4_ends_7 : decode cX4_ends 7 = .ok (.aload_n 0, 1) := by decide +kernel
theorem dX4_ends_8 : decode cX4_ends 8 = .ok (.getfield 21, 3) := by decide +kernel
theorem dX4_ends_11 : decode cX4_ends 11 = .ok (.ishl, 1) := by decide +kernel
theorem dX4_ends_12 : decode cX4_ends 12 = .ok (.ior, 1) := by decide +kernel
theorem dX4_ends_13 : decode cX4_ends 13 = .ok (.ireturn, 1) := by decide +kernel
theorem dX5_init_0 : decode cX5_init 0 = .ok (.aload_n 0, 1) := by decide +kernel
theorem dX5_init_1 : decode cX5_init 1 = .ok (.invokespecial 3, 3) := by decide +kernel
theorem dX5_init_4 : decode cX5_init 4 = .ok (.aload_n 0, 1) := by decide +kernel
theorem dX5_init_5 : decode cX5_init 5 = .ok (.bipush 30, 2) := by decide +kernel
theorem dX5_init_7 : decode cX5_init 7 = .ok (.newarray .int, 2) := by decide +kernel
theorem dX5_init_9 : decode cX5_init 9 = .ok (.putfield 9, 3) := by decide +kernel
theorem dX5_init_12 : decode cX5_init 12 = .ok (.aload_n 0, 1) := by decide +kernel
theorem dX5_init_13 : decode cX5_init 13 = .ok (.iconst 0, 1) := by decide +kernel
theorem dX5_init_14 : decode cX5_init 14 = .ok (.putfield 15, 3) := by decide +kernel
theorem dX5_init_17 : decode cX5_init 17 = .ok (.aload_n 0, 1) := by decide +kernel
theorem dX5_init_18 : decode cX5_init 18 = .ok (.iconst 0, 1) := by decide +kernel
theorem dX5_init_19 : decode cX5_init 19 = .ok (.putfield 19, 3) := by decide +kernel
theorem dX5_init_22 : decode cX5_init 22 = .ok (.aload_n 0, 1) := by decide +kernel
theorem dX5_init_23 : decode cX5_init 23 = .ok (.iconst 0, 1) := by decide +kernel
theorem dX5_init_24 : decode cX5_init 24 = .ok (.putfield 23, 3) := by decide +kernel
theorem dX5_init_27 : decode cX5_init 27 = .ok (.aload_n 0, 1) := by decide +kernel
theorem dX5_init_28 : decode cX5_init 28 = .ok (.iconst 0, 1) := by decide +kernel
theorem dX5_init_29 : decode cX5_init 29 = .ok (.putfield 26, 3) := by decide +kernel
theorem dX5_init_32 : decode cX5_init 32 = .ok (.aload_n 0, 1) := by decide +kernel
theorem dX5_init_33 : decode cX5_init 33 = .ok (.iconst 0, 1) := by decide +kernel
theorem dX5_init_34 : decode cX5_init 34 = .ok (.putfield 29, 3) := by decide +kernel
theorem dX5_init_37 : decode cX5_init 37 = .ok (.return_, 1) := by decide +kernel
theorem dX5_speak_0 : decode cX5_speak 0 = .ok (.aload_n 0, 1) := by decide +kernel
theorem dX5_speak_1 : decode cX5_speak 1 = .ok (.aload_n 1, 1) := by decide +kernel
theorem dX5_speak_2 : decode cX5_speak 2 = .ok (.getfield 32, 3) := by decide +kernel
theorem dX5_speak_5 : decode cX5_speak 5 = .ok (.putfield 23, 3) := by decide +kernel
theorem dX5_speak_8 : decode cX5_speak 8 = .ok (.aload_n 0, 1) := by decide +kernel
theorem dX5_speak_9 : decode cX5_speak 9 = .ok (.aload_n 1, 1) := by decide +kernel
theorem dX5_speak_10 : decode cX5_speak 10 = .ok (.getfield 35, 3) := by decide +kernel
theorem dX5_speak_13 : decode cX5_speak 13 = .ok (.putfield 26, 3) := by decide +kernel
theorem dX5_speak_16 : decode cX5_speak 16 = .ok (.aload_n 0, 1) := by decide +kernel
theorem dX5_speak_17 : decode cX5_speak 17 = .ok (.iload_n 2, 1) := by decide +kernel
theorem dX5_speak_18 : decode cX5_speak 18 = .ok (.putfield 29, 3) := by decide +kernel
theorem dX5_speak_21 : decode cX5_speak 21 = .ok (.aload_n 0, 1) := by decide +kernel
theorem dX5_speak_22 : decode cX5_speak 22 = .ok (.iconst 0, 1) := by decide +kernel
theorem dX5_speak_23 : decode cX5_speak 23 = .ok (.putfield 15, 3) := by decide +kernel
theorem dX5_speak_26 : decode cX5_speak 26 = .ok (.aload_n 0, 1) := by decide +kernel
theorem dX5_speak_27 : decode cX5_speak 27 = .ok (.iconst 0, 1) := by decide +kernel
theorem dX5_speak_28 : decode cX5_speak 28 = .ok (.putfield 19, 3) := by decide +kernel
theorem dX5_speak_31 : decode cX5_speak 31 = .ok (.aload_n 0, 1) := by decide +kernel
theorem dX5_speak_32 : decode cX5_speak 32 = .ok (.aload_n 0, 1) := by decide +kernel
theorem dX5_speak_33 : decode cX5_speak 33 = .ok (.getfield 23, 3) := by decide +kernel
theorem dX5_speak_36 : decode cX5_speak 36 = .ok (.iload_n 3, 1) := by decide +kernel
theorem dX5_speak_37 : decode cX5_speak 37 = .ok (.iload 4, 2) := by decide +kernel
theorem dX5_speak_39 : decode cX5_speak 39 = .ok (.iconst 0, 1) := by decide +kernel
theorem dX5_speak_40 : decode cX5_speak 40 = .ok (.invokevirtual 36, 3) := by decide +kernel
theorem dX5_speak_43 : decode cX5_speak 43 = .ok (.ireturn, 1) := by decide +kernel
theorem dX5_say_0 : decode cX5_say 0 = .ok (.iload 4, 2) := by decide +kernel
theorem dX5_say_2 : decode cX5_say 2 = .ok (.bipush 40, 2) := by decide +kernel
theorem dX5_say_4 : decode cX5_say 4 = .ok (.if_icmp .gt 12, 3) := by decide +kernel
theorem dX5_say_7 : decode cX5_say 7 = .ok (.iload_n 2, 1) := by decide +kernel
theorem dX5_say_8 : decode cX5_say 8 = .ok (.iconst 0, 1) := by decide +kernel
theorem dX5_say_9 : decode cX5_say 9 = .ok (.iconst 3, 1) := by decide +kernel
theorem dX5_say_10 : decode cX5_say 10 = .ok (.invokestatic 40, 3) := by decide +kernel
theorem dX5_say_13 : decode cX5_say 13 = .ok (.ifCond .ne 5, 3) := by decide +kernel
theorem dX5_say_16 : decode cX5_say 16 = .ok (.iconst 0, 1) := by decide +kernel
theorem dX5_say_17 : decode cX5_say 17 = .ok (.ireturn, 1) := by decide +kernel
theorem dX5_say_18 : decode cX5_say 18 = .ok (.iload_n 1, 1) := by decide +kernel
theorem dX5_say_19 : decode cX5_say 19 = .ok (.istore 5, 2) := by decide +kernel
theorem dX5_say_21 : decode cX5_say 21 = .ok (.iconst 0, 1) := by decide +kernel
theorem dX5_say_22 : decode cX5_say 22 = .ok (.istore 6, 2) := by decide +kernel
theorem dX5_say_24 : decode cX5_say 24 = .ok (.iload 6, 2) := by decide +kernel
theorem dX5_say_26 : decode cX5_say 26 = .ok (.bipush 6, 2) := by decide +kernel
theorem dX5_say_28 : decode cX5_say 28 = .ok (.if_icmp .gt 61, 3) := by decide +kernel
theorem dX5_say_31 : decode cX5_say 31 = .ok (.iload 5, 2) := by decide +kernel
theorem dX5_say_33 : decode cX5_say 33 = .ok (.iconst 0, 1) := by decide +kernel
theorem dX5_say_34 : decode cX5_say 34 = .ok (.bipush 6, 2) := by decide +kernel
theorem dX5_say_36 : decode cX5_say 36 = .ok (.invokestatic 40, 3) := by decide +kernel
theorem dX5_say_39 : decode cX5_say 39 = .ok (.ifCond .eq 50, 3) := by decide +kernel
theorem dX5_say_42 : decode cX5_say 42 = .ok (.getstatic 44, 3) := by decide +kernel
theorem dX5_say_45 : decode cX5_say 45 = .ok (.iconst 4, 1) := by decide +kernel
theorem dX5_say_46 : decode cX5_say 46 = .ok (.iload 5, 2) := by decide +kernel
theorem dX5_say_48 : decode cX5_say 48 = .ok (.imul, 1) := by decide +kernel
theorem dX5_say_49 : decode cX5_say 49 = .ok (.iload_n 2, 1) := by decide +kernel
theorem dX5_say_50 : decode cX5_say 50 = .ok (.iadd, 1) := by decide +kernel
theorem dX5_say_51 : decode cX5_say 51 = .ok (.iaload, 1) := by decide +kernel
theorem dX5_say_52 : decode cX5_say 52 = .ok (.istore 7, 2) := by decide +kernel
theorem dX5_say_54 : decode cX5_say 54 = .ok (.iload 7, 2) := by decide +kernel
theorem dX5_say_56 : decode cX5_say 56 = .ok (.ifCond .eq 20, 3) := by decide +kernel
theorem dX5_say_59 : decode cX5_say 59 = .ok (.aload_n 0, 1) := by decide +kernel
theorem dX5_say_60 : decode cX5_say 60 = .ok (.iload 7, 2) := by decide +kernel
theorem dX5_say_62 : decode cX5_say 62 = .ok (.iload 5, 2) := by decide +kernel
theorem dX5_say_64 : decode cX5_say 64 = .ok (.invokestatic 47, 3) := by decide +kernel
theorem dX5_say_67 : decode cX5_say 67 = .ok (.iload_n 3, 1) := by decide +kernel
theorem dX5_say_68 : decode cX5_say 68 = .ok (.iload 4, 2) := by decide +kernel
theorem dX5_say_70 : decode cX5_say 70 = .ok (.iconst 1, 1) := by decide +kernel
theorem dX5_say_71 : decode cX5_say 71 = .ok (.iadd, 1) := by decide +kernel
theorem dX5_say_72 : decode cX5_say 72 = .ok (.invokevirtual 51, 3) := by decide +kernel
theorem dX5_say_75 : decode cX5_say 75 = .ok (.ireturn, 1) := by decide +kernel
theorem dX5_say_76 : decode cX5_say 76 = .ok (.iload 5, 2) := by decide +kernel
theorem dX5_say_78 : decode cX5_say 78 = .ok (.invokestatic 47, 3) := by decide +kernel
theorem dX5_say_81 : decode cX5_say 81 = .ok (.istore 5, 2) := by decide +kernel
theorem dX5_say_83 : decode cX5_say 83 = .ok (.iinc 6 1, 3) := by decide +kernel
theorem dX5_say_86 : decode cX5_say 86 = .ok (.goto (-62), 3) := by decide +kernel
theorem dX5_say_89 : decode cX5_say 89 = .ok (.iconst 0, 1) := by decide +kernel
theorem dX5_say_90 : decode cX5_say 90 = .ok (.ireturn, 1) := by decide +kernel
theorem dX5_begin_0 : decode cX5_begin 0 = .ok (.aload_n 0, 1) := by decide +kernel
theorem dX5_begin_1 : decode cX5_begin 1 = .ok (.getfield 19, 3) := by decide +kernel
theorem dX5_begin_4 : decode cX5_begin 4 = .ok (.ifCond .eq 5, 3) := by decide +kernel
theorem dX5_begin_7 : decode cX5_begin 7 = .ok (.iconst 0, 1) := by decide +kernel
theorem dX5_begin_8 : decode cX5_begin 8 = .ok (.ireturn, 1) := by decide +kernel
theorem dX5_begin_9 : decode cX5_begin 9 = .ok (.aload_n 0, 1) := by decide +kernel
theorem dX5_begin_10 : decode cX5_begin 10 = .ok (.getfield 15, 3) := by decide +kernel
theorem dX5_begin_13 : decode cX5_begin 13 = .ok (.bipush 30, 2) := by decide +kernel
theorem dX5_begin_15 : decode cX5_begin 15 = .ok (.if_icmp .ge 23, 3) := by decide +kernel
theorem dX5_begin_18 : decode cX5_begin 18 = .ok (.aload_n 0, 1) := by decide +kernel
theorem dX5_begin_19 : decode cX5_begin 19 = .ok (.getfield 9, 3) := by decide +kernel
theorem dX5_begin_22 : decode cX5_begin 22 = .ok (.aload_n 0, 1) := by decide +kernel
theorem dX5_begin_23 : decode cX5_begin 23 = .ok (.getfield 15, 3) := by decide +kernel
theorem dX5_begin_26 : decode cX5_begin 26 = .ok (.iload_n 1, 1) := by decide +kernel
theorem dX5_begin_27 : decode cX5_begin 27 = .ok (.iastore, 1) := by decide +kernel
theorem dX5_begin_28 : decode cX5_begin 28 = .ok (.aload_n 0, 1) := by decide +kernel
theorem dX5_begin_29 : decode cX5_begin 29 = .ok (.dup, 1) := by decide +kernel
theorem dX5_begin_30 : decode cX5_begin 30 = .ok (.getfield 15, 3) := by decide +kernel
theorem dX5_begin_33 : decode cX5_begin 33 = .ok (.iconst 1, 1) := by decide +kernel
theorem dX5_begin_34 : decode cX5_begin 34 = .ok (.iadd, 1) := by decide +kernel
theorem dX5_begin_35 : decode cX5_begin 35 = .ok (.putfield 15, 3) := by decide +kernel
theorem dX5_begin_38 : decode cX5_begin 38 = .ok (.iload_n 1, 1) := by decide +kernel
theorem dX5_begin_39 : decode cX5_begin 39 = .ok (.lookupswitch 265 #[(10, 105), (11, 112), (12, 127), (13, 145), (20, 160), (21, 172), (30, 199), (40, 211), (50, 223), (51, 235), (60, 250), (70, 262)], 105) := by decide +kernel
theorem dX5_begin_144 : decode cX5_begin 144 = .ok (.iload_n 3, 1) := by decide +kernel
theorem dX5_begin_145 : decode cX5_begin 145 = .ok (.aload_n 0, 1) := by decide +kernel
theorem dX5_begin_146 : decode cX5_begin 146 = .ok (.getfield 29, 3) := by decide +kernel
theorem dX5_begin_149 : decode cX5_begin 149 = .ok (.iadd, 1) := by decide +kernel
theorem dX5_begin_150 : decode cX5_begin 150 = .ok (.ireturn, 1) := by decide +kernel
theorem dX5_begin_151 : decode cX5_begin 151 = .ok (.aload_n 0, 1) := by decide +kernel
theorem dX5_begin_152 : decode cX5_begin 152 = .ok (.aload_n 0, 1) := by decide +kernel
theorem dX5_begin_153 : decode cX5_begin 153 = .ok (.getfield 23, 3) := by decide +kernel
theorem dX5_begin_156 : decode cX5_begin 156 = .ok (.iconst 0, 1) := by decide +kernel
theorem dX5_begin_157 : decode cX5_begin 157 = .ok (.iload_n 3, 1) := by decide +kernel
theorem dX5_begin_158 : decode cX5_begin 158 = .ok (.iload 4, 2) := by decide +kernel
theorem dX5_begin_160 : decode cX5_begin 160 = .ok (.invokevirtual 36, 3) := by decide +kernel
theorem dX5_begin_163 : decode cX5_begin 163 = .ok (.iconst 2, 1) := by decide +kernel
theorem dX5_begin_164 : decode cX5_begin 164 = .ok (.imul, 1) := by decide +kernel
theorem dX5_begin_165 : decode cX5_begin 165 = .ok (.ireturn, 1) := by decide +kernel
theorem dX5_begin_166 : decode cX5_begin 166 = .ok (.aload_n 0, 1) := by decide +kernel
theorem dX5_begin_167 : decode cX5_begin 167 = .ok (.aload_n 0, 1) := by decide +kernel
theorem dX5_begin_168 : decode cX5_begin 168 = .ok (.getfield 23, 3) := by decide +kernel
theorem dX5_begin_171 : decode cX5_begin 171 = .ok (.iconst 1, 1) := by decide +kernel
theorem dX5_begin_172 : decode cX5_begin 172 = .ok (.iload_n 3, 1) := by decide +kernel
theorem dX5_begin_173 : decode cX5_begin 173 = .ok (.iload 4, 2) := by decide +kernel
theorem dX5_begin_175 : decode cX5_begin 175 = .ok (.invokevirtual 36, 3) := by decide +kernel
theorem dX5_begin_178 : decode cX5_begin 178 = .ok (.aload_n 0, 1) := by decide +kernel
theorem dX5_begin_179 : decode cX5_begin 179 = .ok (.getfield 26, 3) := by decide +kernel
theorem dX5_begin_182 : decode cX5_begin 182 = .ok (.isub, 1) := by decide +kernel
theorem dX5_begin_183 : decode cX5_begin 183 = .ok (.ireturn, 1) := by decide +kernel
theorem dX5_begin_184 : decode cX5_begin 184 = .ok (.aload_n 0, 1) := by decide +kernel
theorem dX5_begin_185 : decode cX5_begin 185 = .ok (.iload_n 3, 1) := by decide +kernel
theorem dX5_begin_186 : decode cX5_begin 186 = .ok (.aload_n 0, 1) := by decide +kernel
theorem dX5_begin_187 : decode cX5_begin 187 = .ok (.getfield 26, 3) := by decide +kernel
theorem dX5_begin_190 : decode cX5_begin 190 = .ok (.aload_n 0, 1) := by decide +kernel
theorem dX5_begin_191 : decode cX5_begin 191 = .ok (.getfield 29, 3) := by decide +kernel
theorem dX5_begin_194 : decode cX5_begin 194 = .ok (.isub, 1) := by decide +kernel
theorem dX5_begin_195 : decode cX5_begin 195 = .ok (.invokevirtual 54, 3) := by decide +kernel
theorem dX5_begin_198 : decode cX5_begin 198 = .ok (.ireturn, 1) := by decide +kernel
theorem dX5_begin_199 : decode cX5_begin 199 = .ok (.aload_n 0, 1) := by decide +kernel
theorem dX5_begin_200 : decode cX5_begin 200 = .ok (.iload_n 2, 1) := by decide +kernel
theorem dX5_begin_201 : decode cX5_begin 201 = .ok (.iconst 0, 1) := by decide +kernel
theorem dX5_begin_202 : decode cX5_begin 202 = .ok (.iload_n 3, 1) := by decide +kernel
theorem dX5_begin_203 : decode cX5_begin 203 = .ok (.iload 4, 2) := by decide +kernel
theorem dX5_begin_205 : decode cX5_begin 205 = .ok (.invokevirtual 36, 3) := by decide +kernel
theorem dX5_begin_208 : decode cX5_begin 208 = .ok (.iconst 4, 1) := by decide +kernel
theorem dX5_begin_209 : decode cX5_begin 209 = .ok (.isub, 1) := by decide +kernel
theorem dX5_begin_210 : decode cX5_begin 210 = .ok (.ireturn, 1) := by decide +kernel
theorem dX5_begin_211 : decode cX5_begin 211 = .ok (.aload_n 0, 1) := by decide +kernel
theorem dX5_begin_212 : decode cX5_begin 212 = .ok (.iload_n 2, 1) := by decide +kernel
theorem dX5_begin_213 : decode cX5_begin 213 = .ok (.iconst 3, 1) := by decide +kernel
theorem dX5_begin_214 : decode cX5_begin 214 = .ok (.iload_n 3, 1) := by decide +kernel
theorem dX5_begin_215 : decode cX5_begin 215 = .ok (.iload 4, 2) := by decide +kernel
theorem dX5_begin_217 : decode cX5_begin 217 = .ok (.invokevirtual 36, 3) := by decide +kernel
theorem dX5_begin_220 : decode cX5_begin 220 = .ok (.istore 5, 2) := by decide +kernel
theorem dX5_begin_222 : decode cX5_begin 222 = .ok (.iload 5, 2) := by decide +kernel
theorem dX5_begin_224 : decode cX5_begin 224 = .ok (.aload_n 0, 1) := by decide +kernel
theorem dX5_begin_225 : decode cX5_begin 225 = .ok (.aload_n 0, 1) := by decide +kernel
theorem dX5_begin_226 : decode cX5_begin 226 = .ok (.getfield 23, 3) := by decide +kernel
theorem dX5_begin_229 : decode cX5_begin 229 = .ok (.iconst 1, 1) := by decide +kernel
theorem dX5_begin_230 : decode cX5_begin 230 = .ok (.iconst 1, 1) := by decide +kernel
theorem dX5_begin_231 : decode cX5_begin 231 = .ok (.iload 4, 2) := by decide +kernel
theorem dX5_begin_233 : decode cX5_begin 233 = .ok (.invokevirtual 36, 3) := by decide +kernel
theorem dX5_begin_236 : decode cX5_begin 236 = .ok (.iadd, 1) := by decide +kernel
theorem dX5_begin_237 : decode cX5_begin 237 = .ok (.ireturn, 1) := by decide +kernel
theorem dX5_begin_238 : decode cX5_begin 238 = .ok (.iconst 0, 1) := by decide +kernel
theorem dX5_begin_239 : decode cX5_begin 239 = .ok (.aload_n 0, 1) := by decide +kernel
theorem dX5_begin_240 : decode cX5_begin 240 = .ok (.iload_n 2, 1) := by decide +kernel
theorem dX5_begin_241 : decode cX5_begin 241 = .ok (.iconst 1, 1) := by decide +kernel
theorem dX5_begin_242 : decode cX5_begin 242 = .ok (.iload_n 3, 1) := by decide +kernel
theorem dX5_begin_243 : decode cX5_begin 243 = .ok (.iload 4, 2) := by decide +kernel
theorem dX5_begin_245 : decode cX5_begin 245 = .ok (.invokevirtual 36, 3) := by decide +kernel
theorem dX5_begin_248 : decode cX5_begin 248 = .ok (.isub, 1) := by decide +kernel
theorem dX5_begin_249 : decode cX5_begin 249 = .ok (.ireturn, 1) := by decide +kernel
theorem dX5_begin_250 : decode cX5_begin 250 = .ok (.aload_n 0, 1) := by decide +kernel
theorem dX5_begin_251 : decode cX5_begin 251 = .ok (.iload_n 2, 1) := by decide +kernel
theorem dX5_begin_252 : decode cX5_begin 252 = .ok (.iconst 2, 1) := by decide +kernel
theorem dX5_begin_253 : decode cX5_begin 253 = .ok (.iload_n 3, 1) := by decide +kernel
theorem dX5_begin_254 : decode cX5_begin 254 = .ok (.iconst 2, 1) := by decide +kernel
theorem dX5_begin_255 : decode cX5_begin 255 = .ok (.idiv, 1) := by decide +kernel
theorem dX5_begin_256 : decode cX5_begin 256 = .ok (.iload 4, 2) := by decide +kernel
theorem dX5_begin_258 : decode cX5_begin 258 = .ok (.invokevirtual 36, 3) := by decide +kernel
theorem dX5_begin_261 : decode cX5_begin 261 = .ok (.ireturn, 1) := by decide +kernel
theorem dX5_begin_262 : decode cX5_begin 262 = .ok (.aload_n 0, 1) := by decide +kernel
theorem dX5_begin_263 : decode cX5_begin 263 = .ok (.iload_n 2, 1) := by decide +kernel
theorem dX5_begin_264 : decode cX5_begin 264 = .ok (.iconst 0, 1) := by decide +kernel
theorem dX5_begin_265 : decode cX5_begin 265 = .ok (.iload_n 3, 1) := by decide +kernel
theorem dX5_begin_266 : decode cX5_begin 266 = .ok (.iload 4, 2) := by decide +kernel
theorem dX5_begin_268 : decode cX5_begin 268 = .ok (.invokevirtual 36, 3) := by decide +kernel
theorem dX5_begin_271 : decode cX5_begin 271 = .ok (.iconst 3, 1) := by decide +kernel
theorem dX5_begin_272 : decode cX5_begin 272 = .ok (.imul, 1) := by decide +kernel
theorem dX5_begin_273 : decode cX5_begin 273 = .ok (.ireturn, 1) := by decide +kernel
theorem dX5_begin_274 : decode cX5_begin 274 = .ok (.aload_n 0, 1) := by decide +kernel
theorem dX5_begin_275 : decode cX5_begin 275 = .ok (.iload_n 2, 1) := by decide +kernel
theorem dX5_begin_276 : decode cX5_begin 276 = .ok (.iconst 2, 1) := by decide +kernel
theorem dX5_begin_277 : decode cX5_begin 277 = .ok (.iload_n 3, 1) := by decide +kernel
theorem dX5_begin_278 : decode cX5_begin 278 = .ok (.iload 4, 2) := by decide +kernel
theorem dX5_begin_280 : decode cX5_begin 280 = .ok (.invokevirtual 36, 3) := by decide +kernel
theorem dX5_begin_283 : decode cX5_begin 283 = .ok (.aload_n 0, 1) := by decide +kernel
theorem dX5_begin_284 : decode cX5_begin 284 = .ok (.getfield 29, 3) := by decide +kernel
theorem dX5_begin_287 : decode cX5_begin 287 = .ok (.ixor, 1) := by decide +kernel
theorem dX5_begin_288 : decode cX5_begin 288 = .ok (.ireturn, 1) := by decide +kernel
theorem dX5_begin_289 : decode cX5_begin 289 = .ok (.aload_n 0, 1) := by decide +kernel
theorem dX5_begin_290 : decode cX5_begin 290 = .ok (.iload_n 2, 1) := by decide +kernel
theorem dX5_begin_291 : decode cX5_begin 291 = .ok (.iconst 1, 1) := by decide +kernel
theorem dX5_begin_292 : decode cX5_begin 292 = .ok (.iload_n 3, 1) := by decide +kernel
theorem dX5_begin_293 : decode cX5_begin 293 = .ok (.iconst 1, 1) := by decide +kernel
theorem dX5_begin_294 : decode cX5_begin 294 = .ok (.iadd, 1) := by decide +kernel
theorem dX5_begin_295 : decode cX5_begin 295 = .ok (.iload 4, 2) := by decide +kernel
theorem dX5_begin_297 : decode cX5_begin 297 = .ok (.invokevirtual 36, 3) := by decide +kernel
theorem dX5_begin_300 : decode cX5_begin 300 = .ok (.ireturn, 1) := by decide +kernel
theorem dX5_begin_301 : decode cX5_begin 301 = .ok (.bipush 9, 2) := by decide +kernel
theorem dX5_begin_303 : decode cX5_begin 303 = .ok (.ireturn, 1) := by decide +kernel
theorem dX5_begin_304 : decode cX5_begin 304 = .ok (.aload_n 0, 1) := by decide +kernel
theorem dX5_begin_305 : decode cX5_begin 305 = .ok (.iload_n 2, 1) := by decide +kernel
theorem dX5_begin_306 : decode cX5_begin 306 = .ok (.iconst 1, 1) := by decide +kernel
theorem dX5_begin_307 : decode cX5_begin 307 = .ok (.iload_n 3, 1) := by decide +kernel
theorem dX5_begin_308 : decode cX5_begin 308 = .ok (.iload 4, 2) := by decide +kernel
theorem dX5_begin_310 : decode cX5_begin 310 = .ok (.invokevirtual 36, 3) := by decide +kernel
theorem dX5_begin_313 : decode cX5_begin 313 = .ok (.aload_n 0, 1) := by decide +kernel
theorem dX5_begin_314 : decode cX5_begin 314 = .ok (.getfield 26, 3) := by decide +kernel
theorem dX5_begin_317 : decode cX5_begin 317 = .ok (.iadd, 1) := by decide +kernel
theorem dX5_begin_318 : decode cX5_begin 318 = .ok (.ireturn, 1) := by decide +kernel
theorem dX5_part_0 : decode cX5_part 0 = .ok (.iload_n 2, 1) := by decide +kernel
theorem dX5_part_1 : decode cX5_part 1 = .ok (.ifCond .ne 10, 3) := by decide +kernel
theorem dX5_part_4 : decode cX5_part 4 = .ok (.aload_n 0, 1) := by decide +kernel
theorem dX5_part_5 : decode cX5_part 5 = .ok (.iconst 1, 1) := by decide +kernel
theorem dX5_part_6 : decode cX5_part 6 = .ok (.putfield 19, 3) := by decide +kernel
theorem dX5_part_9 : decode cX5_part 9 = .ok (.iconst 0, 1) := by decide +kernel
theorem dX5_part_10 : decode cX5_part 10 = .ok (.ireturn, 1) := by decide +kernel
theorem dX5_part_11 : decode cX5_part 11 = .ok (.iload_n 1, 1) := by decide +kernel
theorem dX5_part_12 : decode cX5_part 12 = .ok (.iload_n 2, 1) := by decide +kernel
theorem dX5_part_13 : decode cX5_part 13 = .ok (.idiv, 1) := by decide +kernel
theorem dX5_part_14 : decode cX5_part 14 = .ok (.ireturn, 1) := by decide +kernel
theorem dJ11_isValidCodePoint_9a6ad_0 : decode cJ11_isValidCodePoint_9a6ad 0 = .ok (.iload_n 0, 1) := by decide +kernel
theorem dJ11_isValidCodePoint_9a6ad_1 : decode cJ11_isValidCodePoint_9a6ad 1 = .ok (.bipush 16, 2) := by decide +kernel
theorem dJ11_isValidCodePoint_9a6ad_3 : decode cJ11_isValidCodePoint_9a6ad 3 = .ok (.iushr, 1) := by decide +kernel
theorem dJ11_isValidCodePoint_9a6ad_4 : decode cJ11_isValidCodePoint_9a6ad 4 = .ok (.istore_n 1, 1) := by decide +kernel
theorem dJ11_isValidCodePoint_9a6ad_5 : decode cJ11_isValidCodePoint_9a6ad 5 = .ok (.iload_n 1, 1) := by decide +kernel
theorem dJ11_isValidCodePoint_9a6ad_6 : decode cJ11_isValidCodePoint_9a6ad 6 = .ok (.bipush 17, 2) := by decide +kernel
theorem dJ11_isValidCodePoint_9a6ad_8 : decode cJ11_isValidCodePoint_9a6ad 8 = .ok (.if_icmp .ge 7, 3) := by decide +kernel
theorem dJ11_isValidCodePoint_9a6ad_11 : decode cJ11_isValidCodePoint_9a6ad 11 = .ok (.iconst 1, 1) := by decide +kernel
theorem dJ11_isValidCodePoint_9a6ad_12 : decode cJ11_isValidCodePoint_9a6ad 12 = .ok (.goto 4, 3) := by decide +kernel
theorem dJ11_isValidCodePoint_9a6ad_15 : decode cJ11_isValidCodePoint_9a6ad 15 = .ok (.iconst 0, 1) := by decide +kernel
theorem dJ11_isValidCodePoint_9a6ad_16 : decode cJ11_isValidCodePoint_9a6ad 16 = .ok (.ireturn, 1) := by decide +kernel
theorem dJ11_highSurrogate_5068e_0 : decode cJ11_highSurrogate_5068e 0 = .ok (.iload_n 0, 1) := by decide +kernel
theorem dJ11_highSurrogate_5068e_1 : decode cJ11_highSurrogate_5068e 1 = .ok (.bipush 10, 2) := by decide +kernel
theorem dJ11_highSurrogate_5068e_3 : decode cJ11_highSurrogate_5068e 3 = .ok (.iushr, 1) := by decide +kernel
theorem dJ11_highSurrogate_5068e_4 : decode cJ11_highSurrogate_5068e 4 = .ok (.ldc 110, 2) := by decide +kernel
theorem dJ11_highSurrogate_5068e_6 : decode cJ11_highSurrogate_5068e 6 = .ok (.iadd, 1) := by decide +kernel
theorem dJ11_highSurrogate_5068e_7 : decode cJ11_highSurrogate_5068e 7 = .ok (.i2c, 1) := by decide +kernel
theorem dJ11_highSurrogate_5068e_8 : decode cJ11_highSurrogate_5068e 8 = .ok (.ireturn, 1) := by decide +kernel
theorem dJ11_lowSurrogate_5068e_0 : decode cJ11_lowSurrogate_5068e 0 = .ok (.iload_n 0, 1) := by decide +kernel
theorem dJ11_lowSurrogate_5068e_1 : decode cJ11_lowSurrogate_5068e 1 = .ok (.sipush 1023, 3) := by decide +kernel
theorem dJ11_lowSurrogate_5068e_4 : decode cJ11_lowSurrogate_5068e 4 = .ok (.iand, 1) := by decide +kernel
theorem dJ11_lowSurrogate_5068e_5 : decode cJ11_lowSurrogate_5068e 5 = .ok (.ldc 76, 2) := by decide +kernel
theorem dJ11_lowSurrogate_5068e_7 : decode cJ11_lowSurrogate_5068e 7 = .ok (.iadd, 1) := by decide +kernel
theorem dJ11_lowSurrogate_5068e_8 : decode cJ11_lowSurrogate_5068e 8 = .ok (.i2c, 1) := by decide +kernel
theorem dJ11_lowSurrogate_5068e_9 : decode cJ11_lowSurrogate_5068e 9 = .ok (.ireturn, 1) := by decide +kernel
theorem dJ6_bitCount_0f7a4_0 : decode cJ6_bitCount_0f7a4 0 = .ok (.iload_n 0, 1) := by decide +kernel
theorem dJ6_bitCount_0f7a4_1 : decode cJ6_bitCount_0f7a4 1 = .ok (.iload_n 0, 1) := by decide +kernel
theorem dJ6_bitCount_0f7a4_2 : decode cJ6_bitCount_0f7a4 2 = .ok (.iconst 1, 1) := by decide +kernel
theorem dJ6_bitCount_0f7a4_3 : decode cJ6_bitCount_0f7a4 3 = .ok (.iushr, 1) := by decide +kernel
theorem dJ6_bitCount_0f7a4_4 : decode cJ6_bitCount_0f7a4 4 = .ok (.ldc_w 265, 3) := by decide +kernel
theorem dJ6_bitCount_0f7a4_7 : decode cJ6_bitCount_0f7a4 7 = .ok (.iand, 1) := by decide +kernel
theorem dJ6_bitCount_0f7a4_8 : decode cJ6_bitCount_0f7a4 8 = .ok (.isub, 1) := by decide +kernel
theorem dJ6_bitCount_0f7a4_9 : decode cJ6_bitCount_0f7a4 9 = .ok (.istore_n 0, 1) := by decide +kernel
theorem dJ6_bitCount_0f7a4_10 : decode cJ6_bitCount_0f7a4 10 = .ok (.iload_n 0, 1) := by decide +kernel
theorem dJ6_bitCount_0f7a4_11 : decode cJ6_bitCount_0f7a4 11 = .ok (.ldc_w 266, 3) := by decide +kernel
theorem dJ6_bitCount_0f7a4_14 : decode cJ6_bitCount_0f7a4 14 = .ok (.iand, 1) := by decide +kernel
theorem dJ6_bitCount_0f7a4_15 : decode cJ6_bitCount_0f7a4 15 = .ok (.iload_n 0, 1) := by decide +kernel
theorem dJ6_bitCount_0f7a4_16 : decode cJ6_bitCount_0f7a4 16 = .ok (.iconst 2, 1) := by decide +kernel
theorem dJ6_bitCount_0f7a4_17 : decode cJ6_bitCount_0f7a4 17 = .ok (.iushr, 1) := by decide +kernel
theorem dJ6_bitCount_0f7a4_18 : decode cJ6_bitCount_0f7a4 18 = .ok (.ldc_w 266, 3) := by decide +kernel
theorem dJ6_bitCount_0f7a4_21 : decode cJ6_bitCount_0f7a4 21 = .ok (.iand, 1) := by decide +kernel
theorem dJ6_bitCount_0f7a4_22 : decode cJ6_bitCount_0f7a4 22 = .ok (.iadd, 1) := by decide +kernel
theorem dJ6_bitCount_0f7a4_23 : decode cJ6_bitCount_0f7a4 23 = .ok (.istore_n 0, 1) := by decide +kernel
theorem dJ6_bitCount_0f7a4_24 : decode cJ6_bitCount_0f7a4 24 = .ok (.iload_n 0, 1) := by decide +kernel
theorem dJ6_bitCount_0f7a4_25 : decode cJ6_bitCount_0f7a4 25 = .ok (.iload_n 0, 1) := by decide +kernel
theorem dJ6_bitCount_0f7a4_26 : decode cJ6_bitCount_0f7a4 26 = .ok (.iconst 4, 1) := by decide +kernel
theorem dJ6_bitCount_0f7a4_27 : decode cJ6_bitCount_0f7a4 27 = .ok (.iushr, 1) := by decide +kernel
theorem dJ6_bitCount_0f7a4_28 : decode cJ6_bitCount_0f7a4 28 = .ok (.iadd, 1) := by decide +kernel
theorem dJ6_bitCount_0f7a4_29 : decode cJ6_bitCount_0f7a4 29 = .ok (.ldc_w 267, 3) := by decide +kernel
theorem dJ6_bitCount_0f7a4_32 : decode cJ6_bitCount_0f7a4 32 = .ok (.iand, 1) := by decide +kernel
theorem dJ6_bitCount_0f7a4_33 : decode cJ6_bitCount_0f7a4 33 = .ok (.istore_n 0, 1) := by decide +kernel
theorem dJ6_bitCount_0f7a4_34 : decode cJ6_bitCount_0f7a4 34 = .ok (.iload_n 0, 1) := by decide +kernel
theorem dJ6_bitCount_0f7a4_35 : decode cJ6_bitCount_0f7a4 35 = .ok (.iload_n 0, 1) := by decide +kernel
theorem dJ6_bitCount_0f7a4_36 : decode cJ6_bitCount_0f7a4 36 = .ok (.bipush 8, 2) := by decide +kernel
theorem dJ6_bitCount_0f7a4_38 : decode cJ6_bitCount_0f7a4 38 = .ok (.iushr, 1) := by decide +kernel
theorem dJ6_bitCount_0f7a4_39 : decode cJ6_bitCount_0f7a4 39 = .ok (.iadd, 1) := by decide +kernel
theorem dJ6_bitCount_0f7a4_40 : decode cJ6_bitCount_0f7a4 40 = .ok (.istore_n 0, 1) := by decide +kernel
theorem dJ6_bitCount_0f7a4_41 : decode cJ6_bitCount_0f7a4 41 = .ok (.iload_n 0, 1) := by decide +kernel
theorem dJ6_bitCount_0f7a4_42 : decode cJ6_bitCount_0f7a4 42 = .ok (.iload_n 0, 1) := by decide +kernel
theorem dJ6_bitCount_0f7a4_43 : decode cJ6_bitCount_0f7a4 43 = .ok (.bipush 16, 2) := by decide +kernel
theorem dJ6_bitCount_0f7a4_45 : decode cJ6_bitCount_0f7a4 45 = .ok (.iushr, 1) := by decide +kernel
theorem dJ6_bitCount_0f7a4_46 : decode cJ6_bitCount_0f7a4 46 = .ok (.iadd, 1) := by decide +kernel
theorem dJ6_bitCount_0f7a4_47 : decode cJ6_bitCount_0f7a4 47 = .ok (.istore_n 0, 1) := by decide +kernel
theorem dJ6_bitCount_0f7a4_48 : decode cJ6_bitCount_0f7a4 48 = .ok (.iload_n 0, 1) := by decide +kernel
theorem dJ6_bitCount_0f7a4_49 : decode cJ6_bitCount_0f7a4 49 = .ok (.bipush 63, 2) := by decide +kernel
theorem dJ6_bitCount_0f7a4_51 : decode cJ6_bitCount_0f7a4 51 = .ok (.iand, 1) := by decide +kernel
theorem dJ6_bitCount_0f7a4_52 : decode cJ6_bitCount_0f7a4 52 = .ok (.ireturn, 1) := by decide +kernel
theorem dJ9_max_7cf53_0 : decode cJ9_max_7cf53 0 = .ok (.iload_n 0, 1) := by decide +kernel
theorem dJ9_max_7cf53_1 : decode cJ9_max_7cf53 1 = .ok (.iload_n 1, 1) := by decide +kernel
theorem dJ9_max_7cf53_2 : decode cJ9_max_7cf53 2 = .ok (.if_icmp .lt 7, 3) := by decide +kernel
theorem dJ9_max_7cf53_5 : decode cJ9_max_7cf53 5 = .ok (.iload_n 0, 1) := by decide +kernel
theorem dJ9_max_7cf53_6 : decode cJ9_max_7cf53 6 = .ok (.goto 4, 3) := by decide +kernel
theorem dJ9_max_7cf53_9 : decode cJ9_max_7cf53 9 = .ok (.iload_n 1, 1) := by decide +kernel
theorem dJ9_max_7cf53_10 : decode cJ9_max_7cf53 10 = .ok (.ireturn, 1) := by decide +kernel
theorem dJ9_min_7cf53_0 : decode cJ9_min_7cf53 0 = .ok (.iload_n 0, 1) := by decide +kernel
theorem dJ9_min_7cf53_1 : decode cJ9_min_7cf53 1 = .ok (.iload_n 1, 1) := by decide +kernel
theorem dJ9_min_7cf53_2 : decode cJ9_min_7cf53 2 = .ok (.if_icmp .gt 7, 3) := by decide +kernel
theorem dJ9_min_7cf53_5 : decode cJ9_min_7cf53 5 = .ok (.iload_n 0, 1) := by decide +kernel
theorem dJ9_min_7cf53_6 : decode cJ9_min_7cf53 6 = .ok (.goto 4, 3) := by decide +kernel
theorem dJ9_min_7cf53_9 : decode cJ9_min_7cf53 9 = .ok (.iload_n 1, 1) := by decide +kernel
theorem dJ9_min_7cf53_10 : decode cJ9_min_7cf53 10 = .ok (.ireturn, 1) := by decide +kernel
theorem dJ0_length_8abf5_0 : decode cJ0_length_8abf5 0 = .ok (.aload_n 0, 1) := by decide +kernel
theorem dJ0_length_8abf5_1 : decode cJ0_length_8abf5 1 = .ok (.getfield 9, 3) := by decide +kernel
theorem dJ0_length_8abf5_4 : decode cJ0_length_8abf5 4 = .ok (.arraylength, 1) := by decide +kernel
theorem dJ0_length_8abf5_5 : decode cJ0_length_8abf5 5 = .ok (.aload_n 0, 1) := by decide +kernel
theorem dJ0_length_8abf5_6 : decode cJ0_length_8abf5 6 = .ok (.invokevirtual 335, 3) := by decide +kernel
theorem dJ0_length_8abf5_9 : decode cJ0_length_8abf5 9 = .ok (.ishr, 1) := by decide +kernel
theorem dJ0_length_8abf5_10 : decode cJ0_length_8abf5 10 = .ok (.ireturn, 1) := by decide +kernel
theorem dJ0_indexOf_0f7a4_0 : decode cJ0_indexOf_0f7a4 0 = .ok (.aload_n 0, 1) := by decide +kernel
theorem dJ0_indexOf_0f7a4_1 : decode cJ0_indexOf_0f7a4 1 = .ok (.iload_n 1, 1) := by decide +kernel
theorem dJ0_indexOf_0f7a4_2 : decode cJ0_indexOf_0f7a4 2 = .ok (.iconst 0, 1) := by decide +kernel
theorem dJ0_indexOf_0f7a4_3 : decode cJ0_indexOf_0f7a4 3 = .ok (.invokevirtual 633, 3) := by decide +kernel
theorem dJ0_indexOf_0f7a4_6 : decode cJ0_indexOf_0f7a4 6 = .ok (.ireturn, 1) := by decide +kernel
theorem dJ0_indexOf_7cf53_0 : decode cJ0_indexOf_7cf53 0 = .ok (.aload_n 0, 1) := by decide +kernel
theorem dJ0_indexOf_7cf53_1 : decode cJ0_indexOf_7cf53 1 = .ok (.invokevirtual 492, 3) := by decide +kernel
theorem dJ0_indexOf_7cf53_4 : decode cJ0_indexOf_7cf53 4 = .ok (.ifCond .eq 19, 3) := by decide +kernel
theorem dJ0_indexOf_7cf53_7 : decode cJ0_indexOf_7cf53 7 = .ok (.aload_n 0, 1) := by decide +kernel
theorem dJ0_indexOf_7cf53_8 : decode cJ0_indexOf_7cf53 8 = .ok (.getfield 9, 3) := by decide +kernel
theorem dJ0_indexOf_7cf53_11 : decode cJ0_indexOf_7cf53 11 = .ok (.iload_n 1, 1) := by decide +kernel
theorem dJ0_indexOf_7cf53_12 : decode cJ0_indexOf_7cf53 12 = .ok (.iload_n 2, 1) := by decide +kernel
theorem dJ0_indexOf_7cf53_13 : decode cJ0_indexOf_7cf53 13 = .ok (.aload_n 0, 1) := by decide +kernel
theorem dJ0_indexOf_7cf53_14 : decode cJ0_indexOf_7cf53 14 = .ok (.invokevirtual 505, 3) := by decide +kernel
theorem dJ0_indexOf_7cf53_17 : decode cJ0_indexOf_7cf53 17 = .ok (.invokestatic 637, 3) := by decide +kernel
theorem dJ0_indexOf_7cf53_20 : decode cJ0_indexOf_7cf53 20 = .ok (.goto 16, 3) := by decide +kernel
theorem dJ0_indexOf_7cf53_23 : decode cJ0_indexOf_7cf53 23 = .ok (.aload_n 0, 1) := by decide +kernel
theorem dJ0_indexOf_7cf53_24 : decode cJ0_indexOf_7cf53 24 = .ok (.getfield 9, 3) := by decide +kernel
theorem dJ0_indexOf_7cf53_27 : decode cJ0_indexOf_7cf53 27 = .ok (.iload_n 1, 1) := by decide +kernel
theorem dJ0_indexOf_7cf53_28 : decode cJ0_indexOf_7cf53 28 = .ok (.iload_n 2, 1) := by decide +kernel
theorem dJ0_indexOf_7cf53_29 : decode cJ0_indexOf_7cf53 29 = .ok (.aload_n 0, 1) := by decide +kernel
theorem dJ0_indexOf_7cf53_30 : decode cJ0_indexOf_7cf53 30 = .ok (.invokevirtual 505, 3) := by decide +kernel
theorem dJ0_indexOf_7cf53_33 : decode cJ0_indexOf_7cf53 33 = .ok (.invokestatic 640, 3) := by decide +kernel
theorem dJ0_indexOf_7cf53_36 : decode cJ0_indexOf_7cf53 36 = .ok (.ireturn, 1) := by decide +kernel
theorem dJ0_coder_7d493_0 : decode cJ0_coder_7d493 0 = .ok (.getstatic 38, 3) := by decide +kernel
theorem dJ0_coder_7d493_3 : decode cJ0_coder_7d493 3 = .ok (.ifCond .eq 10, 3) := by decide +kernel
theorem dJ0_coder_7d493_6 : decode cJ0_coder_7d493 6 = .ok (.aload_n 0, 1) := by decide +kernel
theorem dJ0_coder_7d493_7 : decode cJ0_coder_7d493 7 = .ok (.getfield 15, 3) := by decide +kernel
theorem dJ0_coder_7d493_10 : decode cJ0_coder_7d493 10 = .ok (.goto 4, 3) := by decide +kernel
theorem dJ0_coder_7d493_13 : decode cJ0_coder_7d493 13 = .ok (.iconst 1, 1) := by decide +kernel
theorem dJ0_coder_7d493_14 : decode cJ0_coder_7d493 14 = .ok (.ireturn, 1) := by decide +kernel
theorem dJ0_isLatin1_aae02_0 : decode cJ0_isLatin1_aae02 0 = .ok (.getstatic 38, 3) := by decide +kernel
theorem dJ0_isLatin1_aae02_3 : decode cJ0_isLatin1_aae02 3 = .ok (.ifCond .eq 14, 3) := by decide +kernel
theorem dJ0_isLatin1_aae02_6 : decode cJ0_isLatin1_aae02 6 = .ok (.aload_n 0, 1) := by decide +kernel
theorem dJ0_isLatin1_aae02_7 : decode cJ0_isLatin1_aae02 7 = .ok (.getfield 15, 3) := by decide +kernel
theorem dJ0_isLatin1_aae02_10 : decode cJ0_isLatin1_aae02 10 = .ok (.ifCond .ne 7, 3) := by decide +kernel
theorem dJ0_isLatin1_aae02_13 : decode cJ0_isLatin1_aae02 13 = .ok (.iconst 1, 1) := by decide +kernel
theorem dJ0_isLatin1_aae02_14 : decode cJ0_isLatin1_aae02 14 = .ok (.goto 4, 3) := by decide +kernel
theorem dJ0_isLatin1_aae02_17 : decode cJ0_isLatin1_aae02 17 = .ok (.iconst 0, 1) := by decide +kernel
theorem dJ0_isLatin1_aae02_18 : decode cJ0_isLatin1_aae02 18 = .ok (.ireturn, 1) := by decide +kernel
theorem dJ0_checkBoundsBeginEnd_23922_0 : decode cJ0_checkBoundsBeginEnd_23922 0 = .ok (.iload_n 0, 1) := by decide +kernel
theorem dJ0_checkBoundsBeginEnd_23922_1 : decode cJ0_checkBoundsBeginEnd_23922 1 = .ok (.iload_n 1, 1) := by decide +kernel
theorem dJ0_checkBoundsBeginEnd_23922_2 : decode cJ0_checkBoundsBeginEnd_23922 2 = .ok (.iload_n 2, 1) := by decide +kernel
theorem dJ0_checkBoundsBeginEnd_23922_3 : decode cJ0_checkBoundsBeginEnd_23922 3 = .ok (.getstatic 1053, 3) := by decide +kernel
theorem dJ0_checkBoundsBeginEnd_23922_6 : decode cJ0_checkBoundsBeginEnd_23922 6 = .ok (.invokestatic 1062, 3) := by decide +kernel
theorem dJ0_checkBoundsBeginEnd_23922_9 : decode cJ0_checkBoundsBeginEnd_23922 9 = .ok (.pop, 1) := by decide +kernel
theorem dJ0_checkBoundsBeginEnd_23922_10 : decode cJ0_checkBoundsBeginEnd_23922 10 = .ok (.return_, 1) := by decide +kernel
theorem dJ1_canEncode_9a6ad_0 : decode cJ1_canEncode_9a6ad 0 = .ok (.iload_n 0, 1) := by decide +kernel
theorem dJ1_canEncode_9a6ad_1 : decode cJ1_canEncode_9a6ad 1 = .ok (.ifCond .lt 14, 3) := by decide +kernel
theorem dJ1_canEncode_9a6ad_4 : decode cJ1_canEncode_9a6ad 4 = .ok (.iload_n 0, 1) := by decide +kernel
theorem dJ1_canEncode_9a6ad_5 : decode cJ1_canEncode_9a6ad 5 = .ok (.sipush 255, 3) := by decide +kernel
theorem dJ1_canEncode_9a6ad_8 : decode cJ1_canEncode_9a6ad 8 = .ok (.if_icmp .gt 7, 3) := by decide +kernel
theorem dJ1_canEncode_9a6ad_11 : decode cJ1_canEncode_9a6ad 11 = .ok (.iconst 1, 1) := by decide +kernel
theorem dJ1_canEncode_9a6ad_12 : decode cJ1_canEncode_9a6ad 12 = .ok (.goto 4, 3) := by decide +kernel
theorem dJ1_canEncode_9a6ad_15 : decode cJ1_canEncode_9a6ad 15 = .ok (.iconst 0, 1) := by decide +kernel
end
section
theorem dJ1_canEncode_9a6ad_16 : decode cJ1_canEncode_9a6ad 16 = .ok (.ireturn, 1) := by decide +kernel
theorem dJ1_indexOf_4cfef_0 : decode cJ1_indexOf_4cfef 0 = .ok (.iload_n 1, 1) := by decide +kernel
theorem dJ1_indexOf_4cfef_1 : decode cJ1_indexOf_4cfef 1 = .ok (.invokestatic 88, 3) := by decide +kernel
theorem dJ1_indexOf_4cfef_4 : decode cJ1_indexOf_4cfef 4 = .ok (.ifCond .ne 5, 3) := by decide +kernel
theorem dJ1_indexOf_4cfef_7 : decode cJ1_indexOf_4cfef 7 = .ok (.iconst (-1), 1) := by decide +kernel
theorem dJ1_indexOf_4cfef_8 : decode cJ1_indexOf_4cfef 8 = .ok (.ireturn, 1) := by decide +kernel
theorem dJ1_indexOf_4cfef_9 : decode cJ1_indexOf_4cfef 9 = .ok (.iload_n 2, 1) := by decide +kernel
theorem dJ1_indexOf_4cfef_10 : decode cJ1_indexOf_4cfef 10 = .ok (.iconst 0, 1) := by decide +kernel
theorem dJ1_indexOf_4cfef_11 : decode cJ1_indexOf_4cfef 11 = .ok (.invokestatic 92, 3) := by decide +kernel
theorem dJ1_indexOf_4cfef_14 : decode cJ1_indexOf_4cfef 14 = .ok (.istore_n 2, 1) := by decide +kernel
theorem dJ1_indexOf_4cfef_15 : decode cJ1_indexOf_4cfef 15 = .ok (.iload_n 3, 1) := by decide +kernel
theorem dJ1_indexOf_4cfef_16 : decode cJ1_indexOf_4cfef 16 = .ok (.aload_n 0, 1) := by decide +kernel
theorem dJ1_indexOf_4cfef_17 : decode cJ1_indexOf_4cfef 17 = .ok (.arraylength, 1) := by decide +kernel
theorem dJ1_indexOf_4cfef_18 : decode cJ1_indexOf_4cfef 18 = .ok (.invokestatic 38, 3) := by decide +kernel
theorem dJ1_indexOf_4cfef_21 : decode cJ1_indexOf_4cfef 21 = .ok (.istore_n 3, 1) := by decide +kernel
theorem dJ1_indexOf_4cfef_22 : decode cJ1_indexOf_4cfef 22 = .ok (.iload_n 2, 1) := by decide +kernel
theorem dJ1_indexOf_4cfef_23 : decode cJ1_indexOf_4cfef 23 = .ok (.iload_n 3, 1) := by decide +kernel
theorem dJ1_indexOf_4cfef_24 : decode cJ1_indexOf_4cfef 24 = .ok (.if_icmp .lt 5, 3) := by decide +kernel
theorem dJ1_indexOf_4cfef_27 : decode cJ1_indexOf_4cfef 27 = .ok (.iconst (-1), 1) := by decide +kernel
theorem dJ1_indexOf_4cfef_28 : decode cJ1_indexOf_4cfef 28 = .ok (.ireturn, 1) := by decide +kernel
theorem dJ1_indexOf_4cfef_29 : decode cJ1_indexOf_4cfef 29 = .ok (.aload_n 0, 1) := by decide +kernel
theorem dJ1_indexOf_4cfef_30 : decode cJ1_indexOf_4cfef 30 = .ok (.iload_n 1, 1) := by decide +kernel
theorem dJ1_indexOf_4cfef_31 : decode cJ1_indexOf_4cfef 31 = .ok (.iload_n 2, 1) := by decide +kernel
theorem dJ1_indexOf_4cfef_32 : decode cJ1_indexOf_4cfef 32 = .ok (.iload_n 3, 1) := by decide +kernel
theorem dJ1_indexOf_4cfef_33 : decode cJ1_indexOf_4cfef 33 = .ok (.invokestatic 95, 3) := by decide +kernel
theorem dJ1_indexOf_4cfef_36 : decode cJ1_indexOf_4cfef 36 = .ok (.ireturn, 1) := by decide +kernel
theorem dJ1_indexOfChar_4cfef_0 : decode cJ1_indexOfChar_4cfef 0 = .ok (.iload_n 1, 1) := by decide +kernel
theorem dJ1_indexOfChar_4cfef_1 : decode cJ1_indexOfChar_4cfef 1 = .ok (.i2b, 1) := by decide +kernel
theorem dJ1_indexOfChar_4cfef_2 : decode cJ1_indexOfChar_4cfef 2 = .ok (.istore 4, 2) := by decide +kernel
theorem dJ1_indexOfChar_4cfef_4 : decode cJ1_indexOfChar_4cfef 4 = .ok (.iload_n 2, 1) := by decide +kernel
theorem dJ1_indexOfChar_4cfef_5 : decode cJ1_indexOfChar_4cfef 5 = .ok (.istore 5, 2) := by decide +kernel
theorem dJ1_indexOfChar_4cfef_7 : decode cJ1_indexOfChar_4cfef 7 = .ok (.iload 5, 2) := by decide +kernel
theorem dJ1_indexOfChar_4cfef_9 : decode cJ1_indexOfChar_4cfef 9 = .ok (.iload_n 3, 1) := by decide +kernel
theorem dJ1_indexOfChar_4cfef_10 : decode cJ1_indexOfChar_4cfef 10 = .ok (.if_icmp .ge 21, 3) := by decide +kernel
theorem dJ1_indexOfChar_4cfef_13 : decode cJ1_indexOfChar_4cfef 13 = .ok (.aload_n 0, 1) := by decide +kernel
theorem dJ1_indexOfChar_4cfef_14 : decode cJ1_indexOfChar_4cfef 14 = .ok (.iload 5, 2) := by decide +kernel
theorem dJ1_indexOfChar_4cfef_16 : decode cJ1_indexOfChar_4cfef 16 = .ok (.baload, 1) := by decide +kernel
theorem dJ1_indexOfChar_4cfef_17 : decode cJ1_indexOfChar_4cfef 17 = .ok (.iload 4, 2) := by decide +kernel
theorem dJ1_indexOfChar_4cfef_19 : decode cJ1_indexOfChar_4cfef 19 = .ok (.if_icmp .ne 6, 3) := by decide +kernel
theorem dJ1_indexOfChar_4cfef_22 : decode cJ1_indexOfChar_4cfef 22 = .ok (.iload 5, 2) := by decide +kernel
theorem dJ1_indexOfChar_4cfef_24 : decode cJ1_indexOfChar_4cfef 24 = .ok (.ireturn, 1) := by decide +kernel
theorem dJ1_indexOfChar_4cfef_25 : decode cJ1_indexOfChar_4cfef 25 = .ok (.iinc 5 1, 3) := by decide +kernel
theorem dJ1_indexOfChar_4cfef_28 : decode cJ1_indexOfChar_4cfef 28 = .ok (.goto (-21), 3) := by decide +kernel
theorem dJ1_indexOfChar_4cfef_31 : decode cJ1_indexOfChar_4cfef 31 = .ok (.iconst (-1), 1) := by decide +kernel
theorem dJ1_indexOfChar_4cfef_32 : decode cJ1_indexOfChar_4cfef 32 = .ok (.ireturn, 1) := by decide +kernel
theorem dJ2_getChar_3b067_0 : decode cJ2_getChar_3b067 0 = .ok (.getstatic 44, 3) := by decide +kernel
theorem dJ2_getChar_3b067_3 : decode cJ2_getChar_3b067 3 = .ok (.ifCond .ne 25, 3) := by decide +kernel
theorem dJ2_getChar_3b067_6 : decode cJ2_getChar_3b067 6 = .ok (.iload_n 1, 1) := by decide +kernel
theorem dJ2_getChar_3b067_7 : decode cJ2_getChar_3b067 7 = .ok (.ifCond .lt 11, 3) := by decide +kernel
theorem dJ2_getChar_3b067_10 : decode cJ2_getChar_3b067 10 = .ok (.iload_n 1, 1) := by decide +kernel
theorem dJ2_getChar_3b067_11 : decode cJ2_getChar_3b067 11 = .ok (.aload_n 0, 1) := by decide +kernel
theorem dJ2_getChar_3b067_12 : decode cJ2_getChar_3b067 12 = .ok (.invokestatic 48, 3) := by decide +kernel
theorem dJ2_getChar_3b067_15 : decode cJ2_getChar_3b067 15 = .ok (.if_icmp .lt 13, 3) := by decide +kernel
theorem dJ2_getChar_3b067_18 : decode cJ2_getChar_3b067 18 = .ok (.new 52, 3) := by decide +kernel
theorem dJ2_getChar_3b067_21 : decode cJ2_getChar_3b067 21 = .ok (.dup, 1) := by decide +kernel
theorem dJ2_getChar_3b067_22 : decode cJ2_getChar_3b067 22 = .ok (.ldc 54, 2) := by decide +kernel
theorem dJ2_getChar_3b067_24 : decode cJ2_getChar_3b067 24 = .ok (.invokespecial 56, 3) := by decide +kernel
theorem dJ2_getChar_3b067_27 : decode cJ2_getChar_3b067 27 = .ok (.athrow, 1) := by decide +kernel
theorem dJ2_getChar_3b067_28 : decode cJ2_getChar_3b067 28 = .ok (.iload_n 1, 1) := by decide +kernel
theorem dJ2_getChar_3b067_29 : decode cJ2_getChar_3b067 29 = .ok (.iconst 1, 1) := by decide +kernel
theorem dJ2_getChar_3b067_30 : decode cJ2_getChar_3b067 30 = .ok (.ishl, 1) := by decide +kernel
theorem dJ2_getChar_3b067_31 : decode cJ2_getChar_3b067 31 = .ok (.istore_n 1, 1) := by decide +kernel
theorem dJ2_getChar_3b067_32 : decode cJ2_getChar_3b067 32 = .ok (.aload_n 0, 1) := by decide +kernel
theorem dJ2_getChar_3b067_33 : decode cJ2_getChar_3b067 33 = .ok (.iload_n 1, 1) := by decide +kernel
theorem dJ2_getChar_3b067_34 : decode cJ2_getChar_3b067 34 = .ok (.iinc 1 1, 3) := by decide +kernel
theorem dJ2_getChar_3b067_37 : decode cJ2_getChar_3b067 37 = .ok (.baload, 1) := by decide +kernel
theorem dJ2_getChar_3b067_38 : decode cJ2_getChar_3b067 38 = .ok (.sipush 255, 3) := by decide +kernel
theorem dJ2_getChar_3b067_41 : decode cJ2_getChar_3b067 41 = .ok (.iand, 1) := by decide +kernel
theorem dJ2_getChar_3b067_42 : decode cJ2_getChar_3b067 42 = .ok (.getstatic 59, 3) := by decide +kernel
theorem dJ2_getChar_3b067_45 : decode cJ2_getChar_3b067 45 = .ok (.ishl, 1) := by decide +kernel
theorem dJ2_getChar_3b067_46 : decode cJ2_getChar_3b067 46 = .ok (.aload_n 0, 1) := by decide +kernel
theorem dJ2_getChar_3b067_47 : decode cJ2_getChar_3b067 47 = .ok (.iload_n 1, 1) := by decide +kernel
theorem dJ2_getChar_3b067_48 : decode cJ2_getChar_3b067 48 = .ok (.baload, 1) := by decide +kernel
theorem dJ2_getChar_3b067_49 : decode cJ2_getChar_3b067 49 = .ok (.sipush 255, 3) := by decide +kernel
theorem dJ2_getChar_3b067_52 : decode cJ2_getChar_3b067 52 = .ok (.iand, 1) := by decide +kernel
theorem dJ2_getChar_3b067_53 : decode cJ2_getChar_3b067 53 = .ok (.getstatic 63, 3) := by decide +kernel
theorem dJ2_getChar_3b067_56 : decode cJ2_getChar_3b067 56 = .ok (.ishl, 1) := by decide +kernel
theorem dJ2_getChar_3b067_57 : decode cJ2_getChar_3b067 57 = .ok (.ior, 1) := by decide +kernel
theorem dJ2_getChar_3b067_58 : decode cJ2_getChar_3b067 58 = .ok (.i2c, 1) := by decide +kernel
theorem dJ2_getChar_3b067_59 : decode cJ2_getChar_3b067 59 = .ok (.ireturn, 1) := by decide +kernel
theorem dJ2_length_9d52b_0 : decode cJ2_length_9d52b 0 = .ok (.aload_n 0, 1) := by decide +kernel
theorem dJ2_length_9d52b_1 : decode cJ2_length_9d52b 1 = .ok (.arraylength, 1) := by decide +kernel
theorem dJ2_length_9d52b_2 : decode cJ2_length_9d52b 2 = .ok (.iconst 1, 1) := by decide +kernel
theorem dJ2_length_9d52b_3 : decode cJ2_length_9d52b 3 = .ok (.ishr, 1) := by decide +kernel
theorem dJ2_length_9d52b_4 : decode cJ2_length_9d52b 4 = .ok (.ireturn, 1) := by decide +kernel
theorem dJ2_indexOf_4cfef_0 : decode cJ2_indexOf_4cfef 0 = .ok (.iload_n 2, 1) := by decide +kernel
theorem dJ2_indexOf_4cfef_1 : decode cJ2_indexOf_4cfef 1 = .ok (.iconst 0, 1) := by decide +kernel
theorem dJ2_indexOf_4cfef_2 : decode cJ2_indexOf_4cfef 2 = .ok (.invokestatic 224, 3) := by decide +kernel
theorem dJ2_indexOf_4cfef_5 : decode cJ2_indexOf_4cfef 5 = .ok (.istore_n 2, 1) := by decide +kernel
theorem dJ2_indexOf_4cfef_6 : decode cJ2_indexOf_4cfef 6 = .ok (.iload_n 3, 1) := by decide +kernel
theorem dJ2_indexOf_4cfef_7 : decode cJ2_indexOf_4cfef 7 = .ok (.aload_n 0, 1) := by decide +kernel
theorem dJ2_indexOf_4cfef_8 : decode cJ2_indexOf_4cfef 8 = .ok (.arraylength, 1) := by decide +kernel
theorem dJ2_indexOf_4cfef_9 : decode cJ2_indexOf_4cfef 9 = .ok (.iconst 1, 1) := by decide +kernel
theorem dJ2_indexOf_4cfef_10 : decode cJ2_indexOf_4cfef 10 = .ok (.ishr, 1) := by decide +kernel
theorem dJ2_indexOf_4cfef_11 : decode cJ2_indexOf_4cfef 11 = .ok (.invokestatic 183, 3) := by decide +kernel
theorem dJ2_indexOf_4cfef_14 : decode cJ2_indexOf_4cfef 14 = .ok (.istore_n 3, 1) := by decide +kernel
theorem dJ2_indexOf_4cfef_15 : decode cJ2_indexOf_4cfef 15 = .ok (.iload_n 2, 1) := by decide +kernel
theorem dJ2_indexOf_4cfef_16 : decode cJ2_indexOf_4cfef 16 = .ok (.iload_n 3, 1) := by decide +kernel
theorem dJ2_indexOf_4cfef_17 : decode cJ2_indexOf_4cfef 17 = .ok (.if_icmp .lt 5, 3) := by decide +kernel
theorem dJ2_indexOf_4cfef_20 : decode cJ2_indexOf_4cfef 20 = .ok (.iconst (-1), 1) := by decide +kernel
theorem dJ2_indexOf_4cfef_21 : decode cJ2_indexOf_4cfef 21 = .ok (.ireturn, 1) := by decide +kernel
theorem dJ2_indexOf_4cfef_22 : decode cJ2_indexOf_4cfef 22 = .ok (.iload_n 1, 1) := by decide +kernel
theorem dJ2_indexOf_4cfef_23 : decode cJ2_indexOf_4cfef 23 = .ok (.ldc 227, 2) := by decide +kernel
theorem dJ2_indexOf_4cfef_25 : decode cJ2_indexOf_4cfef 25 = .ok (.if_icmp .ge 11, 3) := by decide +kernel
theorem dJ2_indexOf_4cfef_28 : decode cJ2_indexOf_4cfef 28 = .ok (.aload_n 0, 1) := by decide +kernel
theorem dJ2_indexOf_4cfef_29 : decode cJ2_indexOf_4cfef 29 = .ok (.iload_n 1, 1) := by decide +kernel
theorem dJ2_indexOf_4cfef_30 : decode cJ2_indexOf_4cfef 30 = .ok (.iload_n 2, 1) := by decide +kernel
theorem dJ2_indexOf_4cfef_31 : decode cJ2_indexOf_4cfef 31 = .ok (.iload_n 3, 1) := by decide +kernel
theorem dJ2_indexOf_4cfef_32 : decode cJ2_indexOf_4cfef 32 = .ok (.invokestatic 228, 3) := by decide +kernel
theorem dJ2_indexOf_4cfef_35 : decode cJ2_indexOf_4cfef 35 = .ok (.ireturn, 1) := by decide +kernel
theorem dJ2_indexOf_4cfef_36 : decode cJ2_indexOf_4cfef 36 = .ok (.aload_n 0, 1) := by decide +kernel
theorem dJ2_indexOf_4cfef_37 : decode cJ2_indexOf_4cfef 37 = .ok (.iload_n 1, 1) := by decide +kernel
theorem dJ2_indexOf_4cfef_38 : decode cJ2_indexOf_4cfef 38 = .ok (.iload_n 2, 1) := by decide +kernel
theorem dJ2_indexOf_4cfef_39 : decode cJ2_indexOf_4cfef 39 = .ok (.iload_n 3, 1) := by decide +kernel
theorem dJ2_indexOf_4cfef_40 : decode cJ2_indexOf_4cfef 40 = .ok (.invokestatic 232, 3) := by decide +kernel
theorem dJ2_indexOf_4cfef_43 : decode cJ2_indexOf_4cfef 43 = .ok (.ireturn, 1) := by decide +kernel
theorem dJ2_indexOfChar_4cfef_0 : decode cJ2_indexOfChar_4cfef 0 = .ok (.iload_n 2, 1) := by decide +kernel
theorem dJ2_indexOfChar_4cfef_1 : decode cJ2_indexOfChar_4cfef 1 = .ok (.iload_n 3, 1) := by decide +kernel
theorem dJ2_indexOfChar_4cfef_2 : decode cJ2_indexOfChar_4cfef 2 = .ok (.aload_n 0, 1) := by decide +kernel
theorem dJ2_indexOfChar_4cfef_3 : decode cJ2_indexOfChar_4cfef 3 = .ok (.invokestatic 96, 3) := by decide +kernel
theorem dJ2_indexOfChar_4cfef_6 : decode cJ2_indexOfChar_4cfef 6 = .ok (.aload_n 0, 1) := by decide +kernel
theorem dJ2_indexOfChar_4cfef_7 : decode cJ2_indexOfChar_4cfef 7 = .ok (.iload_n 1, 1) := by decide +kernel
theorem dJ2_indexOfChar_4cfef_8 : decode cJ2_indexOfChar_4cfef 8 = .ok (.iload_n 2, 1) := by decide +kernel
theorem dJ2_indexOfChar_4cfef_9 : decode cJ2_indexOfChar_4cfef 9 = .ok (.iload_n 3, 1) := by decide +kernel
theorem dJ2_indexOfChar_4cfef_10 : decode cJ2_indexOfChar_4cfef 10 = .ok (.invokestatic 244, 3) := by decide +kernel
theorem dJ2_indexOfChar_4cfef_13 : decode cJ2_indexOfChar_4cfef 13 = .ok (.ireturn, 1) := by decide +kernel
theorem dJ2_indexOfCharUnsafe_4cfef_0 : decode cJ2_indexOfCharUnsafe_4cfef 0 = .ok (.iload_n 2, 1) := by decide +kernel
theorem dJ2_indexOfCharUnsafe_4cfef_1 : decode cJ2_indexOfCharUnsafe_4cfef 1 = .ok (.istore 4, 2) := by decide +kernel
theorem dJ2_indexOfCharUnsafe_4cfef_3 : decode cJ2_indexOfCharUnsafe_4cfef 3 = .ok (.iload 4, 2) := by decide +kernel
theorem dJ2_indexOfCharUnsafe_4cfef_5 : decode cJ2_indexOfCharUnsafe_4cfef 5 = .ok (.iload_n 3, 1) := by decide +kernel
theorem dJ2_indexOfCharUnsafe_4cfef_6 : decode cJ2_indexOfCharUnsafe_4cfef 6 = .ok (.if_icmp .ge 22, 3) := by decide +kernel
theorem dJ2_indexOfCharUnsafe_4cfef_9 : decode cJ2_indexOfCharUnsafe_4cfef 9 = .ok (.aload_n 0, 1) := by decide +kernel
theorem dJ2_indexOfCharUnsafe_4cfef_10 : decode cJ2_indexOfCharUnsafe_4cfef 10 = .ok (.iload 4, 2) := by decide +kernel
theorem dJ2_indexOfCharUnsafe_4cfef_12 : decode cJ2_indexOfCharUnsafe_4cfef 12 = .ok (.invokestatic 71, 3) := by decide +kernel
theorem dJ2_indexOfCharUnsafe_4cfef_15 : decode cJ2_indexOfCharUnsafe_4cfef 15 = .ok (.iload_n 1, 1) := by decide +kernel
theorem dJ2_indexOfCharUnsafe_4cfef_16 : decode cJ2_indexOfCharUnsafe_4cfef 16 = .ok (.if_icmp .ne 6, 3) := by decide +kernel
theorem dJ2_indexOfCharUnsafe_4cfef_19 : decode cJ2_indexOfCharUnsafe_4cfef 19 = .ok (.iload 4, 2) := by decide +kernel
theorem dJ2_indexOfCharUnsafe_4cfef_21 : decode cJ2_indexOfCharUnsafe_4cfef 21 = .ok (.ireturn, 1) := by decide +kernel
theorem dJ2_indexOfCharUnsafe_4cfef_22 : decode cJ2_indexOfCharUnsafe_4cfef 22 = .ok (.iinc 4 1, 3) := by decide +kernel
theorem dJ2_indexOfCharUnsafe_4cfef_25 : decode cJ2_indexOfCharUnsafe_4cfef 25 = .ok (.goto (-22), 3) := by decide +kernel
theorem dJ2_indexOfCharUnsafe_4cfef_28 : decode cJ2_indexOfCharUnsafe_4cfef 28 = .ok (.iconst (-1), 1) := by decide +kernel
theorem dJ2_indexOfCharUnsafe_4cfef_29 : decode cJ2_indexOfCharUnsafe_4cfef 29 = .ok (.ireturn, 1) := by decide +kernel
theorem dJ2_indexOfSupplementary_4cfef_0 : decode cJ2_indexOfSupplementary_4cfef 0 = .ok (.iload_n 1, 1) := by decide +kernel
theorem dJ2_indexOfSupplementary_4cfef_1 : decode cJ2_indexOfSupplementary_4cfef 1 = .ok (.invokestatic 164, 3) := by decide +kernel
theorem dJ2_indexOfSupplementary_4cfef_4 : decode cJ2_indexOfSupplementary_4cfef 4 = .ok (.ifCond .eq 65, 3) := by decide +kernel
theorem dJ2_indexOfSupplementary_4cfef_7 : decode cJ2_indexOfSupplementary_4cfef 7 = .ok (.iload_n 1, 1) := by decide +kernel
theorem dJ2_indexOfSupplementary_4cfef_8 : decode cJ2_indexOfSupplementary_4cfef 8 = .ok (.invokestatic 157, 3) := by decide +kernel
theorem dJ2_indexOfSupplementary_4cfef_11 : decode cJ2_indexOfSupplementary_4cfef 11 = .ok (.istore 4, 2) := by decide +kernel
theorem dJ2_indexOfSupplementary_4cfef_13 : decode cJ2_indexOfSupplementary_4cfef 13 = .ok (.iload_n 1, 1) := by decide +kernel
theorem dJ2_indexOfSupplementary_4cfef_14 : decode cJ2_indexOfSupplementary_4cfef 14 = .ok (.invokestatic 161, 3) := by decide +kernel
theorem dJ2_indexOfSupplementary_4cfef_17 : decode cJ2_indexOfSupplementary_4cfef 17 = .ok (.istore 5, 2) := by decide +kernel
theorem dJ2_indexOfSupplementary_4cfef_19 : decode cJ2_indexOfSupplementary_4cfef 19 = .ok (.iload_n 2, 1) := by decide +kernel
theorem dJ2_indexOfSupplementary_4cfef_20 : decode cJ2_indexOfSupplementary_4cfef 20 = .ok (.iload_n 3, 1) := by decide +kernel
theorem dJ2_indexOfSupplementary_4cfef_21 : decode cJ2_indexOfSupplementary_4cfef 21 = .ok (.aload_n 0, 1) := by decide +kernel
theorem dJ2_indexOfSupplementary_4cfef_22 : decode cJ2_indexOfSupplementary_4cfef 22 = .ok (.invokestatic 96, 3) := by decide +kernel
theorem dJ2_indexOfSupplementary_4cfef_25 : decode cJ2_indexOfSupplementary_4cfef 25 = .ok (.iload_n 2, 1) := by decide +kernel
theorem dJ2_indexOfSupplementary_4cfef_26 : decode cJ2_indexOfSupplementary_4cfef 26 = .ok (.istore 6, 2) := by decide +kernel
theorem dJ2_indexOfSupplementary_4cfef_28 : decode cJ2_indexOfSupplementary_4cfef 28 = .ok (.iload 6, 2) := by decide +kernel
theorem dJ2_indexOfSupplementary_4cfef_30 : decode cJ2_indexOfSupplementary_4cfef 30 = .ok (.iload_n 3, 1) := by decide +kernel
theorem dJ2_indexOfSupplementary_4cfef_31 : decode cJ2_indexOfSupplementary_4cfef 31 = .ok (.iconst 1, 1) := by decide +kernel
theorem dJ2_indexOfSupplementary_4cfef_32 : decode cJ2_indexOfSupplementary_4cfef 32 = .ok (.isub, 1) := by decide +kernel
theorem dJ2_indexOfSupplementary_4cfef_33 : decode cJ2_indexOfSupplementary_4cfef 33 = .ok (.if_icmp .ge 36, 3) := by decide +kernel
theorem dJ2_indexOfSupplementary_4cfef_36 : decode cJ2_indexOfSupplementary_4cfef 36 = .ok (.aload_n 0, 1) := by decide +kernel
theorem dJ2_indexOfSupplementary_4cfef_37 : decode cJ2_indexOfSupplementary_4cfef 37 = .ok (.iload 6, 2) := by decide +kernel
theorem dJ2_indexOfSupplementary_4cfef_39 : decode cJ2_indexOfSupplementary_4cfef 39 = .ok (.invokestatic 71, 3) := by decide +kernel
theorem dJ2_indexOfSupplementary_4cfef_42 : decode cJ2_indexOfSupplementary_4cfef 42 = .ok (.iload 4, 2) := by decide +kernel
theorem dJ2_indexOfSupplementary_4cfef_44 : decode cJ2_indexOfSupplementary_4cfef 44 = .ok (.if_icmp .ne 19, 3) := by decide +kernel
theorem dJ2_indexOfSupplementary_4cfef_47 : decode cJ2_indexOfSupplementary_4cfef 47 = .ok (.aload_n 0, 1) := by decide +kernel
theorem dJ2_indexOfSupplementary_4cfef_48 : decode cJ2_indexOfSupplementary_4cfef 48 = .ok (.iload 6, 2) := by decide +kernel
theorem dJ2_indexOfSupplementary_4cfef_50 : decode cJ2_indexOfSupplementary_4cfef 50 = .ok (.iconst 1, 1) := by decide +kernel
theorem dJ2_indexOfSupplementary_4cfef_51 : decode cJ2_indexOfSupplementary_4cfef 51 = .ok (.iadd, 1) := by decide +kernel
theorem dJ2_indexOfSupplementary_4cfef_52 : decode cJ2_indexOfSupplementary_4cfef 52 = .ok (.invokestatic 71, 3) := by decide +kernel
theorem dJ2_indexOfSupplementary_4cfef_55 : decode cJ2_indexOfSupplementary_4cfef 55 = .ok (.iload 5, 2) := by decide +kernel
theorem dJ2_indexOfSupplementary_4cfef_57 : decode cJ2_indexOfSupplementary_4cfef 57 = .ok (.if_icmp .ne 6, 3) := by decide +kernel
theorem dJ2_indexOfSupplementary_4cfef_60 : decode cJ2_indexOfSupplementary_4cfef 60 = .ok (.iload 6, 2) := by decide +kernel
theorem dJ2_indexOfSupplementary_4cfef_62 : decode cJ2_indexOfSupplementary_4cfef 62 = .ok (.ireturn, 1) := by decide +kernel
theorem dJ2_indexOfSupplementary_4cfef_63 : decode cJ2_indexOfSupplementary_4cfef 63 = .ok (.iinc 6 1, 3) := by decide +kernel
theorem dJ2_indexOfSupplementary_4cfef_66 : decode cJ2_indexOfSupplementary_4cfef 66 = .ok (.goto (-38), 3) := by decide +kernel
theorem dJ2_indexOfSupplementary_4cfef_69 : decode cJ2_indexOfSupplementary_4cfef 69 = .ok (.iconst (-1), 1) := by decide +kernel
theorem dJ2_indexOfSupplementary_4cfef_70 : decode cJ2_indexOfSupplementary_4cfef 70 = .ok (.ireturn, 1) := by decide +kernel
theorem dJ2_checkBoundsBeginEnd_d044e_0 : decode cJ2_checkBoundsBeginEnd_d044e 0 = .ok (.iload_n 0, 1) := by decide +kernel
theorem dJ2_checkBoundsBeginEnd_d044e_1 : decode cJ2_checkBoundsBeginEnd_d044e 1 = .ok (.iload_n 1, 1) := by decide +kernel
theorem dJ2_checkBoundsBeginEnd_d044e_2 : decode cJ2_checkBoundsBeginEnd_d044e 2 = .ok (.aload_n 2, 1) := by decide +kernel
theorem dJ2_checkBoundsBeginEnd_d044e_3 : decode cJ2_checkBoundsBeginEnd_d044e 3 = .ok (.invokestatic 48, 3) := by decide +kernel
theorem dJ2_checkBoundsBeginEnd_d044e_6 : decode cJ2_checkBoundsBeginEnd_d044e 6 = .ok (.invokestatic 241, 3) := by decide +kernel
theorem dJ2_checkBoundsBeginEnd_d044e_9 : decode cJ2_checkBoundsBeginEnd_d044e 9 = .ok (.return_, 1) := by decide +kernel
theorem dJ3_checkFromToIndex_8c36e_0 : decode cJ3_checkFromToIndex_8c36e 0 = .ok (.iload_n 0, 1) := by decide +kernel
theorem dJ3_checkFromToIndex_8c36e_1 : decode cJ3_checkFromToIndex_8c36e 1 = .ok (.ifCond .lt 13, 3) := by decide +kernel
theorem dJ3_checkFromToIndex_8c36e_4 : decode cJ3_checkFromToIndex_8c36e 4 = .ok (.iload_n 0, 1) := by decide +kernel
theorem dJ3_checkFromToIndex_8c36e_5 : decode cJ3_checkFromToIndex_8c36e 5 = .ok (.iload_n 1, 1) := by decide +kernel
theorem dJ3_checkFromToIndex_8c36e_6 : decode cJ3_checkFromToIndex_8c36e 6 = .ok (.if_icmp .gt 8, 3) := by decide +kernel
theorem dJ3_checkFromToIndex_8c36e_9 : decode cJ3_checkFromToIndex_8c36e 9 = .ok (.iload_n 1, 1) := by decide +kernel
theorem dJ3_checkFromToIndex_8c36e_10 : decode cJ3_checkFromToIndex_8c36e 10 = .ok (.iload_n 2, 1) := by decide +kernel
theorem dJ3_checkFromToIndex_8c36e_11 : decode cJ3_checkFromToIndex_8c36e 11 = .ok (.if_icmp .le 11, 3) := by decide +kernel
theorem dJ3_checkFromToIndex_8c36e_14 : decode cJ3_checkFromToIndex_8c36e 14 = .ok (.aload_n 3, 1) := by decide +kernel
theorem dJ3_checkFromToIndex_8c36e_15 : decode cJ3_checkFromToIndex_8c36e 15 = .ok (.iload_n 0, 1) := by decide +kernel
theorem dJ3_checkFromToIndex_8c36e_16 : decode cJ3_checkFromToIndex_8c36e 16 = .ok (.iload_n 1, 1) := by decide +kernel
theorem dJ3_checkFromToIndex_8c36e_17 : decode cJ3_checkFromToIndex_8c36e 17 = .ok (.iload_n 2, 1) := by decide +kernel
theorem dJ3_checkFromToIndex_8c36e_18 : decode cJ3_checkFromToIndex_8c36e 18 = .ok (.invokestatic 99, 3) := by decide +kernel
theorem dJ3_checkFromToIndex_8c36e_21 : decode cJ3_checkFromToIndex_8c36e 21 = .ok (.athrow, 1) := by decide +kernel
theorem dJ3_checkFromToIndex_8c36e_22 : decode cJ3_checkFromToIndex_8c36e 22 = .ok (.iload_n 0, 1) := by decide +kernel
theorem dJ3_checkFromToIndex_8c36e_23 : decode cJ3_checkFromToIndex_8c36e 23 = .ok (.ireturn, 1) := by decide +kernel
end
section
theorem dX6_init_0 : decode cX6_init 0 = .ok (.aload_n 0, 1) := by decide +kernel
theorem dX6_init_1 : decode cX6_init 1 = .ok (.invokespecial 1, 3) := by decide +kernel
theorem dX6_init_4 : decode cX6_init 4 = .ok (.aload_n 0, 1) := by decide +kernel
theorem dX6_init_5 : decode cX6_init 5 = .ok (.new 7, 3) := by decide +kernel
theorem dX6_init_8 : decode cX6_init 8 = .ok (.dup, 1) := by decide +kernel
theorem dX6_init_9 : decode cX6_init 9 = .ok (.invokespecial 9, 3) := by decide +kernel
theorem dX6_init_12 : decode cX6_init 12 = .ok (.putfield 10, 3) := by decide +kernel
theorem dX6_init_15 : decode cX6_init 15 = .ok (.aload_n 0, 1) := by decide +kernel
theorem dX6_init_16 : decode cX6_init 16 = .ok (.new 7, 3) := by decide +kernel
theorem dX6_init_19 : decode cX6_init 19 = .ok (.dup, 1) := by decide +kernel
theorem dX6_init_20 : decode cX6_init 20 = .ok (.invokespecial 9, 3) := by decide +kernel
theorem dX6_init_23 : decode cX6_init 23 = .ok (.putfield 16, 3) := by decide +kernel
theorem dX6_init_26 : decode cX6_init 26 = .ok (.aload_n 0, 1) := by decide +kernel
theorem dX6_init_27 : decode cX6_init 27 = .ok (.new 7, 3) := by decide +kernel
theorem dX6_init_30 : decode cX6_init 30 = .ok (.dup, 1) := by decide +kernel
theorem dX6_init_31 : decode cX6_init 31 = .ok (.invokespecial 9, 3) := by decide +kernel
theorem dX6_init_34 : decode cX6_init 34 = .ok (.putfield 19, 3) := by decide +kernel
theorem dX6_init_37 : decode cX6_init 37 = .ok (.aload_n 0, 1) := by decide +kernel
theorem dX6_init_38 : decode cX6_init 38 = .ok (.new 22, 3) := by decide +kernel
theorem dX6_init_41 : decode cX6_init 41 = .ok (.dup, 1) := by decide +kernel
theorem dX6_init_42 : decode cX6_init 42 = .ok (.invokespecial 24, 3) := by decide +kernel
theorem dX6_init_45 : decode cX6_init 45 = .ok (.putfield 25, 3) := by decide +kernel
theorem dX6_init_48 : decode cX6_init 48 = .ok (.aload_n 0, 1) := by decide +kernel
theorem dX6_init_49 : decode cX6_init 49 = .ok (.new 29, 3) := by decide +kernel
theorem dX6_init_52 : decode cX6_init 52 = .ok (.dup, 1) := by decide +kernel
theorem dX6_init_53 : decode cX6_init 53 = .ok (.invokespecial 31, 3) := by decide +kernel
theorem dX6_init_56 : decode cX6_init 56 = .ok (.putfield 32, 3) := by decide +kernel
theorem dX6_init_59 : decode cX6_init 59 = .ok (.aload_n 0, 1) := by decide +kernel
theorem dX6_init_60 : decode cX6_init 60 = .ok (.iconst 4, 1) := by decide +kernel
theorem dX6_init_61 : decode cX6_init 61 = .ok (.anewarray 36, 3) := by decide +kernel
theorem dX6_init_64 : decode cX6_init 64 = .ok (.putfield 38, 3) := by decide +kernel
theorem dX6_init_67 : decode cX6_init 67 = .ok (.aload_n 0, 1) := by decide +kernel
theorem dX6_init_68 : decode cX6_init 68 = .ok (.bipush 7, 2) := by decide +kernel
theorem dX6_init_70 : decode cX6_init 70 = .ok (.newarray .int, 2) := by decide +kernel
theorem dX6_init_72 : decode cX6_init 72 = .ok (.putfield 42, 3) := by decide +kernel
theorem dX6_init_75 : decode cX6_init 75 = .ok (.aload_n 0, 1) := by decide +kernel
theorem dX6_init_76 : decode cX6_init 76 = .ok (.iconst 0, 1) := by decide +kernel
theorem dX6_init_77 : decode cX6_init 77 = .ok (.putfield 46, 3) := by decide +kernel
theorem dX6_init_80 : decode cX6_init 80 = .ok (.iconst 0, 1) := by decide +kernel
theorem dX6_init_81 : decode cX6_init 81 = .ok (.istore_n 1, 1) := by decide +kernel
theorem dX6_init_82 : decode cX6_init 82 = .ok (.iload_n 1, 1) := by decide +kernel
theorem dX6_init_83 : decode cX6_init 83 = .ok (.iconst 4, 1) := by decide +kernel
theorem dX6_init_84 : decode cX6_init 84 = .ok (.if_icmp .ge 22, 3) := by decide +kernel
theorem dX6_init_87 : decode cX6_init 87 = .ok (.aload_n 0, 1) := by decide +kernel
theorem dX6_init_88 : decode cX6_init 88 = .ok (.getfield 38, 3) := by decide +kernel
theorem dX6_init_91 : decode cX6_init 91 = .ok (.iload_n 1, 1) := by decide +kernel
theorem dX6_init_92 : decode cX6_init 92 = .ok (.new 36, 3) := by decide +kernel
theorem dX6_init_95 : decode cX6_init 95 = .ok (.dup, 1) := by decide +kernel
theorem dX6_init_96 : decode cX6_init 96 = .ok (.invokespecial 50, 3) := by decide +kernel
theorem dX6_init_99 : decode cX6_init 99 = .ok (.aastore, 1) := by decide +kernel
theorem dX6_init_100 : decode cX6_init 100 = .ok (.iinc 1 1, 3) := by decide +kernel
theorem dX6_init_103 : decode cX6_init 103 = .ok (.goto (-21), 3) := by decide +kernel
theorem dX6_init_106 : decode cX6_init 106 = .ok (.return_, 1) := by decide +kernel
theorem dX6_span_0 : decode cX6_span 0 = .ok (.iload_n 1, 1) := by decide +kernel
theorem dX6_span_1 : decode cX6_span 1 = .ok (.invokestatic 51, 3) := by decide +kernel
theorem dX6_span_4 : decode cX6_span 4 = .ok (.ifCond .eq 11, 3) := by decide +kernel
theorem dX6_span_7 : decode cX6_span 7 = .ok (.iload_n 2, 1) := by decide +kernel
theorem dX6_span_8 : decode cX6_span 8 = .ok (.iload_n 3, 1) := by decide +kernel
theorem dX6_span_9 : decode cX6_span 9 = .ok (.invokestatic 55, 3) := by decide +kernel
theorem dX6_span_12 : decode cX6_span 12 = .ok (.ifCond .ne 9, 3) := by decide +kernel
theorem dX6_span_15 : decode cX6_span 15 = .ok (.aload_n 0, 1) := by decide +kernel
theorem dX6_span_16 : decode cX6_span 16 = .ok (.iconst 1, 1) := by decide +kernel
theorem dX6_span_17 : decode cX6_span 17 = .ok (.invokevirtual 59, 3) := by decide +kernel
theorem dX6_span_20 : decode cX6_span 20 = .ok (.ireturn, 1) := by decide +kernel
theorem dX6_span_21 : decode cX6_span 21 = .ok (.aload_n 0, 1) := by decide +kernel
theorem dX6_span_22 : decode cX6_span 22 = .ok (.getfield 10, 3) := by decide +kernel
theorem dX6_span_25 : decode cX6_span 25 = .ok (.getfield 63, 3) := by decide +kernel
theorem dX6_span_28 : decode cX6_span 28 = .ok (.bipush 9, 2) := by decide +kernel
theorem dX6_span_30 : decode cX6_span 30 = .ok (.if_icmp .lt 9, 3) := by decide +kernel
theorem dX6_span_33 : decode cX6_span 33 = .ok (.aload_n 0, 1) := by decide +kernel
theorem dX6_span_34 : decode cX6_span 34 = .ok (.iconst 4, 1) := by decide +kernel
theorem dX6_span_35 : decode cX6_span 35 = .ok (.invokevirtual 59, 3) := by decide +kernel
theorem dX6_span_38 : decode cX6_span 38 = .ok (.ireturn, 1) := by decide +kernel
theorem dX6_span_39 : decode cX6_span 39 = .ok (.aload_n 0, 1) := by decide +kernel
theorem dX6_span_40 : decode cX6_span 40 = .ok (.getfield 10, 3) := by decide +kernel
theorem dX6_span_43 : decode cX6_span 43 = .ok (.iload_n 1, 1) := by decide +kernel
theorem dX6_span_44 : decode cX6_span 44 = .ok (.iload_n 2, 1) := by decide +kernel
theorem dX6_span_45 : decode cX6_span 45 = .ok (.iload_n 3, 1) := by decide +kernel
theorem dX6_span_46 : decode cX6_span 46 = .ok (.invokevirtual 66, 3) := by decide +kernel
theorem dX6_span_49 : decode cX6_span 49 = .ok (.ireturn, 1) := by decide +kernel
theorem dX6_spanIs_0 : decode cX6_spanIs 0 = .ok (.aload_n 0, 1) := by decide +kernel
theorem dX6_spanIs_1 : decode cX6_spanIs 1 = .ok (.getfield 10, 3) := by decide +kernel
theorem dX6_spanIs_4 : decode cX6_spanIs 4 = .ok (.iload_n 1, 1) := by decide +kernel
theorem dX6_spanIs_5 : decode cX6_spanIs 5 = .ok (.invokevirtual 70, 3) := by decide +kernel
theorem dX6_spanIs_8 : decode cX6_spanIs 8 = .ok (.ifCond .eq 13, 3) := by decide +kernel
theorem dX6_spanIs_11 : decode cX6_spanIs 11 = .ok (.iload_n 2, 1) := by decide +kernel
theorem dX6_spanIs_12 : decode cX6_spanIs 12 = .ok (.iconst 0, 1) := by decide +kernel
theorem dX6_spanIs_13 : decode cX6_spanIs 13 = .ok (.bipush 8, 2) := by decide +kernel
theorem dX6_spanIs_15 : decode cX6_spanIs 15 = .ok (.invokestatic 73, 3) := by decide +kernel
theorem dX6_spanIs_18 : decode cX6_spanIs 18 = .ok (.ifCond .ne 9, 3) := by decide +kernel
theorem dX6_spanIs_21 : decode cX6_spanIs 21 = .ok (.aload_n 0, 1) := by decide +kernel
theorem dX6_spanIs_22 : decode cX6_spanIs 22 = .ok (.iconst 1, 1) := by decide +kernel
theorem dX6_spanIs_23 : decode cX6_spanIs 23 = .ok (.invokevirtual 59, 3) := by decide +kernel
theorem dX6_spanIs_26 : decode cX6_spanIs 26 = .ok (.ireturn, 1) := by decide +kernel
theorem dX6_spanIs_27 : decode cX6_spanIs 27 = .ok (.aload_n 0, 1) := by decide +kernel
theorem dX6_spanIs_28 : decode cX6_spanIs 28 = .ok (.getfield 10, 3) := by decide +kernel
theorem dX6_spanIs_31 : decode cX6_spanIs 31 = .ok (.getfield 77, 3) := by decide +kernel
theorem dX6_spanIs_34 : decode cX6_spanIs 34 = .ok (.iload_n 1, 1) := by decide +kernel
theorem dX6_spanIs_35 : decode cX6_spanIs 35 = .ok (.aaload, 1) := by decide +kernel
theorem dX6_spanIs_36 : decode cX6_spanIs 36 = .ok (.astore_n 3, 1) := by decide +kernel
theorem dX6_spanIs_37 : decode cX6_spanIs 37 = .ok (.iload_n 2, 1) := by decide +kernel
theorem dX6_spanIs_38 : decode cX6_spanIs 38 = .ok (.tableswitch 101 0 7 #[46, 51, 56, 61, 66, 71, 76, 89], 46) := by decide +kernel
theorem dX6_spanIs_84 : decode cX6_spanIs 84 = .ok (.aload_n 3, 1) := by decide +kernel
theorem dX6_spanIs_85 : decode cX6_spanIs 85 = .ok (.getfield 81, 3) := by decide +kernel
theorem dX6_spanIs_88 : decode cX6_spanIs 88 = .ok (.ireturn, 1) := by decide +kernel
theorem dX6_spanIs_89 : decode cX6_spanIs 89 = .ok (.aload_n 3, 1) := by decide +kernel
theorem dX6_spanIs_90 : decode cX6_spanIs 90 = .ok (.getfield 86, 3) := by decide +kernel
theorem dX6_spanIs_93 : decode cX6_spanIs 93 = .ok (.ireturn, 1) := by decide +kernel
theorem dX6_spanIs_94 : decode cX6_spanIs 94 = .ok (.aload_n 3, 1) := by decide +kernel
theorem dX6_spanIs_95 : decode cX6_spanIs 95 = .ok (.getfield 89, 3) := by decide +kernel
theorem dX6_spanIs_98 : decode cX6_spanIs 98 = .ok (.ireturn, 1) := by decide +kernel
theorem dX6_spanIs_99 : decode cX6_spanIs 99 = .ok (.aload_n 3, 1) := by decide +kernel
theorem dX6_spanIs_100 : decode cX6_spanIs 100 = .ok (.getfield 92, 3) := by decide +kernel
theorem dX6_spanIs_103 : decode cX6_spanIs 103 = .ok (.ireturn, 1) := by decide +kernel
theorem dX6_spanIs_104 : decode cX6_spanIs 104 = .ok (.aload_n 3, 1) := by decide +kernel
theorem dX6_spanIs_105 : decode cX6_spanIs 105 = .ok (.getfield 95, 3) := by decide +kernel
theorem dX6_spanIs_108 : decode cX6_spanIs 108 = .ok (.ireturn, 1) := by decide +kernel
theorem dX6_spanIs_109 : decode cX6_spanIs 109 = .ok (.aload_n 3, 1) := by decide +kernel
theorem dX6_spanIs_110 : decode cX6_spanIs 110 = .ok (.getfield 98, 3) := by decide +kernel
theorem dX6_spanIs_113 : decode cX6_spanIs 113 = .ok (.ireturn, 1) := by decide +kernel
theorem dX6_spanIs_114 : decode cX6_spanIs 114 = .ok (.aload_n 3, 1) := by decide +kernel
theorem dX6_spanIs_115 : decode cX6_spanIs 115 = .ok (.getfield 101, 3) := by decide +kernel
theorem dX6_spanIs_118 : decode cX6_spanIs 118 = .ok (.ifCond .eq 7, 3) := by decide +kernel
theorem dX6_spanIs_121 : decode cX6_spanIs 121 = .ok (.iconst 1, 1) := by decide +kernel
theorem dX6_spanIs_122 : decode cX6_spanIs 122 = .ok (.goto 4, 3) := by decide +kernel
theorem dX6_spanIs_125 : decode cX6_spanIs 125 = .ok (.iconst 0, 1) := by decide +kernel
theorem dX6_spanIs_126 : decode cX6_spanIs 126 = .ok (.ireturn, 1) := by decide +kernel
theorem dX6_spanIs_127 : decode cX6_spanIs 127 = .ok (.aload_n 3, 1) := by decide +kernel
theorem dX6_spanIs_128 : decode cX6_spanIs 128 = .ok (.aload_n 0, 1) := by decide +kernel
theorem dX6_spanIs_129 : decode cX6_spanIs 129 = .ok (.getfield 10, 3) := by decide +kernel
theorem dX6_spanIs_132 : decode cX6_spanIs 132 = .ok (.getfield 105, 3) := by decide +kernel
theorem dX6_spanIs_135 : decode cX6_spanIs 135 = .ok (.invokevirtual 108, 3) := by decide +kernel
theorem dX6_spanIs_138 : decode cX6_spanIs 138 = .ok (.ireturn, 1) := by decide +kernel
theorem dX6_spanIs_139 : decode cX6_spanIs 139 = .ok (.aload_n 3, 1) := by decide +kernel
theorem dX6_spanIs_140 : decode cX6_spanIs 140 = .ok (.invokevirtual 111, 3) := by decide +kernel
theorem dX6_spanIs_143 : decode cX6_spanIs 143 = .ok (.ireturn, 1) := by decide +kernel
theorem dX6_become_0 : decode cX6_become 0 = .ok (.aload_n 0, 1) := by decide +kernel
theorem dX6_become_1 : decode cX6_become 1 = .ok (.getfield 10, 3) := by decide +kernel
theorem dX6_become_4 : decode cX6_become 4 = .ok (.iload_n 1, 1) := by decide +kernel
theorem dX6_become_5 : decode cX6_become 5 = .ok (.invokevirtual 70, 3) := by decide +kernel
theorem dX6_become_8 : decode cX6_become 8 = .ok (.ifCond .eq 10, 3) := by decide +kernel
theorem dX6_become_11 : decode cX6_become 11 = .ok (.iload_n 2, 1) := by decide +kernel
theorem dX6_become_12 : decode cX6_become 12 = .ok (.invokestatic 51, 3) := by decide +kernel
theorem dX6_become_15 : decode cX6_become 15 = .ok (.ifCond .ne 9, 3) := by decide +kernel
theorem dX6_become_18 : decode cX6_become 18 = .ok (.aload_n 0, 1) := by decide +kernel
theorem dX6_become_19 : decode cX6_become 19 = .ok (.iconst 1, 1) := by decide +kernel
theorem dX6_become_20 : decode cX6_become 20 = .ok (.invokevirtual 59, 3) := by decide +kernel
theorem dX6_become_23 : decode cX6_become 23 = .ok (.ireturn, 1) := by decide +kernel
theorem dX6_become_24 : decode cX6_become 24 = .ok (.aload_n 0, 1) := by decide +kernel
theorem dX6_become_25 : decode cX6_become 25 = .ok (.getfield 10, 3) := by decide +kernel
theorem dX6_become_28 : decode cX6_become 28 = .ok (.getfield 77, 3) := by decide +kernel
theorem dX6_become_31 : decode cX6_become 31 = .ok (.iload_n 1, 1) := by decide +kernel
theorem dX6_become_32 : decode cX6_become 32 = .ok (.aaload, 1) := by decide +kernel
theorem dX6_become_33 : decode cX6_become 33 = .ok (.astore_n 3, 1) := by decide +kernel
theorem dX6_become_34 : decode cX6_become 34 = .ok (.aload_n 3, 1) := by decide +kernel
theorem dX6_become_35 : decode cX6_become 35 = .ok (.getfield 81, 3) := by decide +kernel
theorem dX6_become_38 : decode cX6_become 38 = .ok (.istore 4, 2) := by decide +kernel
theorem dX6_become_40 : decode cX6_become 40 = .ok (.aload_n 3, 1) := by decide +kernel
theorem dX6_become_41 : decode cX6_become 41 = .ok (.iload_n 2, 1) := by decide +kernel
theorem dX6_become_42 : decode cX6_become 42 = .ok (.bipush 10, 2) := by decide +kernel
theorem dX6_become_44 : decode cX6_become 44 = .ok (.idiv, 1) := by decide +kernel
theorem dX6_become_45 : decode cX6_become 45 = .ok (.putfield 81, 3) := by decide +kernel
theorem dX6_become_48 : decode cX6_become 48 = .ok (.aload_n 3, 1) := by decide +kernel
theorem dX6_become_49 : decode cX6_become 49 = .ok (.iload_n 2, 1) := by decide +kernel
theorem dX6_become_50 : decode cX6_become 50 = .ok (.bipush 10, 2) := by decide +kernel
theorem dX6_become_52 : decode cX6_become 52 = .ok (.irem, 1) := by decide +kernel
theorem dX6_become_53 : decode cX6_become 53 = .ok (.putfield 86, 3) := by decide +kernel
theorem dX6_become_56 : decode cX6_become 56 = .ok (.iload 4, 2) := by decide +kernel
theorem dX6_become_58 : decode cX6_become 58 = .ok (.ireturn, 1) := by decide +kernel
theorem dX6_as_0 : decode cX6_as 0 = .ok (.aload_n 0, 1) := by decide +kernel
theorem dX6_as_1 : decode cX6_as 1 = .ok (.getfield 10, 3) := by decide +kernel
theorem dX6_as_4 : decode cX6_as 4 = .ok (.iload_n 1, 1) := by decide +kernel
theorem dX6_as_5 : decode cX6_as 5 = .ok (.invokevirtual 70, 3) := by decide +kernel
theorem dX6_as_8 : decode cX6_as 8 = .ok (.ifCond .eq 13, 3) := by decide +kernel
theorem dX6_as_11 : decode cX6_as 11 = .ok (.iload_n 2, 1) := by decide +kernel
theorem dX6_as_12 : decode cX6_as 12 = .ok (.iconst 0, 1) := by decide +kernel
theorem dX6_as_13 : decode cX6_as 13 = .ok (.bipush 6, 2) := by decide +kernel
theorem dX6_as_15 : decode cX6_as 15 = .ok (.invokestatic 73, 3) := by decide +kernel
theorem dX6_as_18 : decode cX6_as 18 = .ok (.ifCond .ne 9, 3) := by decide +kernel
theorem dX6_as_21 : decode cX6_as 21 = .ok (.aload_n 0, 1) := by decide +kernel
theorem dX6_as_22 : decode cX6_as 22 = .ok (.iconst 1, 1) := by decide +kernel
theorem dX6_as_23 : decode cX6_as 23 = .ok (.invokevirtual 59, 3) := by decide +kernel
theorem dX6_as_26 : decode cX6_as 26 = .ok (.ireturn, 1) := by decide +kernel
theorem dX6_as_27 : decode cX6_as 27 = .ok (.aload_n 0, 1) := by decide +kernel
theorem dX6_as_28 : decode cX6_as 28 = .ok (.getfield 10, 3) := by decide +kernel
theorem dX6_as_31 : decode cX6_as 31 = .ok (.getfield 77, 3) := by decide +kernel
theorem dX6_as_34 : decode cX6_as 34 = .ok (.iload_n 1, 1) := by decide +kernel
theorem dX6_as_35 : decode cX6_as 35 = .ok (.aaload, 1) := by decide +kernel
theorem dX6_as_36 : decode cX6_as 36 = .ok (.astore_n 3, 1) := by decide +kernel
theorem dX6_as_37 : decode cX6_as 37 = .ok (.aload_n 3, 1) := by decide +kernel
theorem dX6_as_38 : decode cX6_as 38 = .ok (.getfield 81, 3) := by decide +kernel
theorem dX6_as_41 : decode cX6_as 41 = .ok (.iload_n 2, 1) := by decide +kernel
theorem dX6_as_42 : decode cX6_as 42 = .ok (.invokestatic 115, 3) := by decide +kernel
theorem dX6_as_45 : decode cX6_as 45 = .ok (.ifCond .ne 9, 3) := by decide +kernel
theorem dX6_as_48 : decode cX6_as 48 = .ok (.aload_n 0, 1) := by decide +kernel
theorem dX6_as_49 : decode cX6_as 49 = .ok (.iconst 5, 1) := by decide +kernel
theorem dX6_as_50 : decode cX6_as 50 = .ok (.invokevirtual 59, 3) := by decide +kernel
theorem dX6_as_53 : decode cX6_as 53 = .ok (.ireturn, 1) := by decide +kernel
theorem dX6_as_54 : decode cX6_as 54 = .ok (.aload_n 3, 1) := by decide +kernel
theorem dX6_as_55 : decode cX6_as 55 = .ok (.getfield 86, 3) := by decide +kernel
theorem dX6_as_58 : decode cX6_as 58 = .ok (.ireturn, 1) := by decide +kernel
theorem dX6_soak_0 : decode cX6_soak 0 = .ok (.aload_n 0, 1) := by decide +kernel
theorem dX6_soak_1 : decode cX6_soak 1 = .ok (.getfield 10, 3) := by decide +kernel
theorem dX6_soak_4 : decode cX6_soak 4 = .ok (.iload_n 1, 1) := by decide +kernel
theorem dX6_soak_5 : decode cX6_soak 5 = .ok (.invokevirtual 70, 3) := by decide +kernel
theorem dX6_soak_8 : decode cX6_soak 8 = .ok (.ifCond .eq 13, 3) := by decide +kernel
theorem dX6_soak_11 : decode cX6_soak 11 = .ok (.iload_n 2, 1) := by decide +kernel
theorem dX6_soak_12 : decode cX6_soak 12 = .ok (.iconst 0, 1) := by decide +kernel
theorem dX6_soak_13 : decode cX6_soak 13 = .ok (.bipush 9, 2) := by decide +kernel
theorem dX6_soak_15 : decode cX6_soak 15 = .ok (.invokestatic 73, 3) := by decide +kernel
theorem dX6_soak_18 : decode cX6_soak 18 = .ok (.ifCond .ne 9, 3) := by decide +kernel
theorem dX6_soak_21 : decode cX6_soak 21 = .ok (.aload_n 0, 1) := by decide +kernel
theorem dX6_soak_22 : decode cX6_soak 22 = .ok (.iconst 1, 1) := by decide +kernel
theorem dX6_soak_23 : decode cX6_soak 23 = .ok (.invokevirtual 59, 3) := by decide +kernel
theorem dX6_soak_26 : decode cX6_soak 26 = .ok (.ireturn, 1) := by decide +kernel
theorem dX6_soak_27 : decode cX6_soak 27 = .ok (.aload_n 0, 1) := by decide +kernel
theorem dX6_soak_28 : decode cX6_soak 28 = .ok (.getfield 10, 3) := by decide +kernel
theorem dX6_soak_31 : decode cX6_soak 31 = .ok (.getfield 77, 3) := by decide +kernel
theorem dX6_soak_34 : decode cX6_soak 34 = .ok (.iload_n 1, 1) := by decide +kernel
theorem dX6_soak_35 : decode cX6_soak 35 = .ok (.aaload, 1) := by decide +kernel
theorem dX6_soak_36 : decode cX6_soak 36 = .ok (.astore_n 3, 1) := by decide +kernel
theorem dX6_soak_37 : decode cX6_soak 37 = .ok (.aload_n 3, 1) := by decide +kernel
theorem dX6_soak_38 : decode cX6_soak 38 = .ok (.getfield 98, 3) := by decide +kernel
theorem dX6_soak_41 : decode cX6_soak 41 = .ok (.istore 4, 2) := by decide +kernel
theorem dX6_soak_43 : decode cX6_soak 43 = .ok (.aload_n 3, 1) := by decide +kernel
theorem dX6_soak_44 : decode cX6_soak 44 = .ok (.iload_n 2, 1) := by decide +kernel
theorem dX6_soak_45 : decode cX6_soak 45 = .ok (.putfield 98, 3) := by decide +kernel
theorem dX6_soak_48 : decode cX6_soak 48 = .ok (.iload 4, 2) := by decide +kernel
theorem dX6_soak_50 : decode cX6_soak 50 = .ok (.ireturn, 1) := by decide +kernel
theorem dX6_bakes_0 : decode cX6_bakes 0 = .ok (.aload_n 0, 1) := by decide +kernel
theorem dX6_bakes_1 : decode cX6_bakes 1 = .ok (.getfield 10, 3) := by decide +kernel
theorem dX6_bakes_4 : decode cX6_bakes 4 = .ok (.iload_n 1, 1) := by decide +kernel
theorem dX6_bakes_5 : decode cX6_bakes 5 = .ok (.invokevirtual 70, 3) := by decide +kernel
theorem dX6_bakes_8 : decode cX6_bakes 8 = .ok (.ifCond .ne 9, 3) := by decide +kernel
theorem dX6_bakes_11 : decode cX6_bakes 11 = .ok (.aload_n 0, 1) := by decide +kernel
theorem dX6_bakes_12 : decode cX6_bakes 12 = .ok (.iconst 1, 1) := by decide +kernel
theorem dX6_bakes_13 : decode cX6_bakes 13 = .ok (.invokevirtual 59, 3) := by decide +kernel
theorem dX6_bakes_16 : decode cX6_bakes 16 = .ok (.ireturn, 1) := by decide +kernel
theorem dX6_bakes_17 : decode cX6_bakes 17 = .ok (.aload_n 0, 1) := by decide +kernel
theorem dX6_bakes_18 : decode cX6_bakes 18 = .ok (.getfield 10, 3) := by decide +kernel
theorem dX6_bakes_21 : decode cX6_bakes 21 = .ok (.getfield 77, 3) := by decide +kernel
theorem dX6_bakes_24 : decode cX6_bakes 24 = .ok (.iload_n 1, 1) := by decide +kernel
theorem dX6_bakes_25 : decode cX6_bakes 25 = .ok (.aaload, 1) := by decide +kernel
theorem dX6_bakes_26 : decode cX6_bakes 26 = .ok (.astore_n 2, 1) := by decide +kernel
theorem dX6_bakes_27 : decode cX6_bakes 27 = .ok (.aload_n 2, 1) := by decide +kernel
theorem dX6_bakes_28 : decode cX6_bakes 28 = .ok (.invokevirtual 111, 3) := by decide +kernel
theorem dX6_bakes_31 : decode cX6_bakes 31 = .ok (.istore_n 3, 1) := by decide +kernel
theorem dX6_bakes_32 : decode cX6_bakes 32 = .ok (.aload_n 0, 1) := by decide +kernel
theorem dX6_bakes_33 : decode cX6_bakes 33 = .ok (.getfield 10, 3) := by decide +kernel
theorem dX6_bakes_36 : decode cX6_bakes 36 = .ok (.getfield 118, 3) := by decide +kernel
theorem dX6_bakes_39 : decode cX6_bakes 39 = .ok (.iload_n 3, 1) := by decide +kernel
theorem dX6_bakes_40 : decode cX6_bakes 40 = .ok (.if_icmp .ge 9, 3) := by decide +kernel
theorem dX6_bakes_43 : decode cX6_bakes 43 = .ok (.aload_n 0, 1) := by decide +kernel
theorem dX6_bakes_44 : decode cX6_bakes 44 = .ok (.iconst 3, 1) := by decide +kernel
theorem dX6_bakes_45 : decode cX6_bakes 45 = .ok (.invokevirtual 59, 3) := by decide +kernel
theorem dX6_bakes_48 : decode cX6_bakes 48 = .ok (.ireturn, 1) := by decide +kernel
theorem dX6_bakes_49 : decode cX6_bakes 49 = .ok (.aload_n 0, 1) := by decide +kernel
theorem dX6_bakes_50 : decode cX6_bakes 50 = .ok (.getfield 10, 3) := by decide +kernel
theorem dX6_bakes_53 : decode cX6_bakes 53 = .ok (.dup, 1) := by decide +kernel
theorem dX6_bakes_54 : decode cX6_bakes 54 = .ok (.getfield 118, 3) := by decide +kernel
theorem dX6_bakes_57 : decode cX6_bakes 57 = .ok (.iload_n 3, 1) := by decide +kernel
theorem dX6_bakes_58 : decode cX6_bakes 58 = .ok (.isub, 1) := by decide +kernel
theorem dX6_bakes_59 : decode cX6_bakes 59 = .ok (.putfield 118, 3) := by decide +kernel
theorem dX6_bakes_62 : decode cX6_bakes 62 = .ok (.aload_n 2, 1) := by decide +kernel
theorem dX6_bakes_63 : decode cX6_bakes 63 = .ok (.invokevirtual 121, 3) := by decide +kernel
theorem dX6_bakes_66 : decode cX6_bakes 66 = .ok (.iload_n 3, 1) := by decide +kernel
theorem dX6_bakes_67 : decode cX6_bakes 67 = .ok (.ireturn, 1) := by decide +kernel
theorem dX6_eat_0 : decode cX6_eat 0 = .ok (.aload_n 0, 1) := by decide +kernel
theorem dX6_eat_1 : decode cX6_eat 1 = .ok (.getfield 10, 3) := by decide +kernel
theorem dX6_eat_4 : decode cX6_eat 4 = .ok (.iload_n 1, 1) := by decide +kernel
theorem dX6_eat_5 : decode cX6_eat 5 = .ok (.invokevirtual 70, 3) := by decide +kernel
theorem dX6_eat_8 : decode cX6_eat 8 = .ok (.ifCond .ne 9, 3) := by decide +kernel
theorem dX6_eat_11 : decode cX6_eat 11 = .ok (.aload_n 0, 1) := by decide +kernel
theorem dX6_eat_12 : decode cX6_eat 12 = .ok (.iconst 1, 1) := by decide +kernel
theorem dX6_eat_13 : decode cX6_eat 13 = .ok (.invokevirtual 59, 3) := by decide +kernel
theorem dX6_eat_16 : decode cX6_eat 16 = .ok (.ireturn, 1) := by decide +kernel
theorem dX6_eat_17 : decode cX6_eat 17 = .ok (.aload_n 0, 1) := by decide +kernel
theorem dX6_eat_18 : decode cX6_eat 18 = .ok (.getfield 10, 3) := by decide +kernel
theorem dX6_eat_21 : decode cX6_eat 21 = .ok (.getfield 77, 3) := by decide +kernel
theorem dX6_eat_24 : decode cX6_eat 24 = .ok (.iload_n 1, 1) := by decide +kernel
theorem dX6_eat_25 : decode cX6_eat 25 = .ok (.aaload, 1) := by decide +kernel
theorem dX6_eat_26 : decode cX6_eat 26 = .ok (.astore_n 2, 1) := by decide +kernel
theorem dX6_eat_27 : decode cX6_eat 27 = .ok (.aload_n 2, 1) := by decide +kernel
theorem dX6_eat_28 : decode cX6_eat 28 = .ok (.getfield 101, 3) := by decide +kernel
theorem dX6_eat_31 : decode cX6_eat 31 = .ok (.ifCond .eq 7, 3) := by decide +kernel
theorem dX6_eat_34 : decode cX6_eat 34 = .ok (.iconst 1, 1) := by decide +kernel
theorem dX6_eat_35 : decode cX6_eat 35 = .ok (.goto 4, 3) := by decide +kernel
theorem dX6_eat_38 : decode cX6_eat 38 = .ok (.iconst 0, 1) := by decide +kernel
theorem dX6_eat_39 : decode cX6_eat 39 = .ok (.istore_n 3, 1) := by decide +kernel
theorem dX6_eat_40 : decode cX6_eat 40 = .ok (.aload_n 2, 1) := by decide +kernel
theorem dX6_eat_41 : decode cX6_eat 41 = .ok (.iconst 1, 1) := by decide +kernel
theorem dX6_eat_42 : decode cX6_eat 42 = .ok (.putfield 101, 3) := by decide +kernel
theorem dX6_eat_45 : decode cX6_eat 45 = .ok (.iload_n 3, 1) := by decide +kernel
theorem dX6_eat_46 : decode cX6_eat 46 = .ok (.ireturn, 1) := by decide +kernel
theorem dX6_store_0 : decode cX6_store 0 = .ok (.iload_n 1, 1) := by decide +kernel
theorem dX6_store_1 : decode cX6_store 1 = .ok (.iconst 0, 1) := by decide +kernel
theorem dX6_store_2 : decode cX6_store 2 = .ok (.iconst 1, 1) := by decide +kernel
theorem dX6_store_3 : decode cX6_store 3 = .ok (.invokestatic 73, 3) := by decide +kernel
theorem dX6_store_6 : decode cX6_store 6 = .ok (.ifCond .eq 23, 3) := by decide +kernel
theorem dX6_store_9 : decode cX6_store 9 = .ok (.iload_n 2, 1) := by decide +kernel
theorem dX6_store_10 : decode cX6_store 10 = .ok (.iconst 0, 1) := by decide +kernel
theorem dX6_store_11 : decode cX6_store 11 = .ok (.iload_n 1, 1) := by decide +kernel
theorem dX6_store_12 : decode cX6_store 12 = .ok (.ifCond .ne 9, 3) := by decide +kernel
theorem dX6_store_15 : decode cX6_store 15 = .ok (.sipush 9999, 3) := by decide +kernel
theorem dX6_store_18 : decode cX6_store 18 = .ok (.goto 5, 3) := by decide +kernel
theorem dX6_store_21 : decode cX6_store 21 = .ok (.bipush 9, 2) := by decide +kernel
theorem dX6_store_23 : decode cX6_store 23 = .ok (.invokestatic 73, 3) := by decide +kernel
theorem dX6_store_26 : decode cX6_store 26 = .ok (.ifCond .ne 9, 3) := by decide +kernel
theorem dX6_store_29 : decode cX6_store 29 = .ok (.aload_n 0, 1) := by decide +kernel
theorem dX6_store_30 : decode cX6_store 30 = .ok (.iconst 1, 1) := by decide +kernel
theorem dX6_store_31 : decode cX6_store 31 = .ok (.invokevirtual 59, 3) := by decide +kernel
theorem dX6_store_34 : decode cX6_store 34 = .ok (.ireturn, 1) := by decide +kernel
theorem dX6_store_35 : decode cX6_store 35 = .ok (.iload_n 1, 1) := by decide +kernel
theorem dX6_store_36 : decode cX6_store 36 = .ok (.ifCond .ne 22, 3) := by decide +kernel
theorem dX6_store_39 : decode cX6_store 39 = .ok (.aload_n 0, 1) := by decide +kernel
theorem dX6_store_40 : decode cX6_store 40 = .ok (.getfield 10, 3) := by decide +kernel
theorem dX6_store_43 : decode cX6_store 43 = .ok (.getfield 118, 3) := by decide +kernel
theorem dX6_store_46 : decode cX6_store 46 = .ok (.istore_n 3, 1) := by decide +kernel
theorem dX6_store_47 : decode cX6_store 47 = .ok (.aload_n 0, 1) := by decide +kernel
theorem dX6_store_48 : decode cX6_store 48 = .ok (.getfield 10, 3) := by decide +kernel
theorem dX6_store_51 : decode cX6_store 51 = .ok (.iload_n 2, 1) := by decide +kernel
theorem dX6_store_52 : decode cX6_store 52 = .ok (.putfield 118, 3) := by decide +kernel
theorem dX6_store_55 : decode cX6_store 55 = .ok (.goto 19, 3) := by decide +kernel
theorem dX6_store_58 : decode cX6_store 58 = .ok (.aload_n 0, 1) := by decide +kernel
theorem dX6_store_59 : decode cX6_store 59 = .ok (.getfield 10, 3) := by decide +kernel
theorem dX6_store_62 : decode cX6_store 62 = .ok (.getfield 124, 3) := by decide +kernel
theorem dX6_store_65 : decode cX6_store 65 = .ok (.istore_n 3, 1) := by decide +kernel
theorem dX6_store_66 : decode cX6_store 66 = .ok (.aload_n 0, 1) := by decide +kernel
theorem dX6_store_67 : decode cX6_store 67 = .ok (.getfield 10, 3) := by decide +kernel
theorem dX6_store_70 : decode cX6_store 70 = .ok (.iload_n 2, 1) := by decide +kernel
theorem dX6_store_71 : decode cX6_store 71 = .ok (.putfield 124, 3) := by decide +kernel
theorem dX6_store_74 : decode cX6_store 74 = .ok (.iload_n 3, 1) := by decide +kernel
theorem dX6_store_75 : decode cX6_store 75 = .ok (.ireturn, 1) := by decide +kernel
theorem dX6_cross_0 : decode cX6_cross 0 = .ok (.aload_n 0, 1) := by decide +kernel
theorem dX6_cross_1 : decode cX6_cross 1 = .ok (.getfield 10, 3) := by decide +kernel
theorem dX6_cross_4 : decode cX6_cross 4 = .ok (.iload_n 1, 1) := by decide +kernel
theorem dX6_cross_5 : decode cX6_cross 5 = .ok (.invokevirtual 70, 3) := by decide +kernel
theorem dX6_cross_8 : decode cX6_cross 8 = .ok (.ifCond .eq 10, 3) := by decide +kernel
theorem dX6_cross_11 : decode cX6_cross 11 = .ok (.iload_n 2, 1) := by decide +kernel
theorem dX6_cross_12 : decode cX6_cross 12 = .ok (.invokestatic 127, 3) := by decide +kernel
theorem dX6_cross_15 : decode cX6_cross 15 = .ok (.ifCond .ne 9, 3) := by decide +kernel
theorem dX6_cross_18 : decode cX6_cross 18 = .ok (.aload_n 0, 1) := by decide +kernel
theorem dX6_cross_19 : decode cX6_cross 19 = .ok (.iconst 1, 1) := by decide +kernel
theorem dX6_cross_20 : decode cX6_cross 20 = .ok (.invokevirtual 59, 3) := by decide +kernel
theorem dX6_cross_23 : decode cX6_cross 23 = .ok (.ireturn, 1) := by decide +kernel
theorem dX6_cross_24 : decode cX6_cross 24 = .ok (.aload_n 0, 1) := by decide +kernel
theorem dX6_cross_25 : decode cX6_cross 25 = .ok (.getfield 10, 3) := by decide +kernel
theorem dX6_cross_28 : decode cX6_cross 28 = .ok (.getfield 77, 3) := by decide +kernel
theorem dX6_cross_31 : decode cX6_cross 31 = .ok (.iload_n 1, 1) := by decide +kernel
theorem dX6_cross_32 : decode cX6_cross 32 = .ok (.aaload, 1) := by decide +kernel
theorem dX6_cross_33 : decode cX6_cross 33 = .ok (.astore_n 3, 1) := by decide +kernel
theorem dX6_cross_34 : decode cX6_cross 34 = .ok (.aload_n 3, 1) := by decide +kernel
theorem dX6_cross_35 : decode cX6_cross 35 = .ok (.getfield 101, 3) := by decide +kernel
theorem dX6_cross_38 : decode cX6_cross 38 = .ok (.ifCond .eq 9, 3) := by decide +kernel
theorem dX6_cross_41 : decode cX6_cross 41 = .ok (.aload_n 0, 1) := by decide +kernel
theorem dX6_cross_42 : decode cX6_cross 42 = .ok (.iconst 3, 1) := by decide +kernel
theorem dX6_cross_43 : decode cX6_cross 43 = .ok (.invokevirtual 59, 3) := by decide +kernel
theorem dX6_cross_46 : decode cX6_cross 46 = .ok (.ireturn, 1) := by decide +kernel
theorem dX6_cross_47 : decode cX6_cross 47 = .ok (.aload_n 0, 1) := by decide +kernel
theorem dX6_cross_48 : decode cX6_cross 48 = .ok (.getfield 10, 3) := by decide +kernel
theorem dX6_cross_51 : decode cX6_cross 51 = .ok (.aload_n 3, 1) := by decide +kernel
theorem dX6_cross_52 : decode cX6_cross 52 = .ok (.iload_n 2, 1) := by decide +kernel
theorem dX6_cross_53 : decode cX6_cross 53 = .ok (.invokevirtual 130, 3) := by decide +kernel
theorem dX6_cross_56 : decode cX6_cross 56 = .ok (.ireturn, 1) := by decide +kernel
theorem dX6_feed_0 : decode cX6_feed 0 = .ok (.iload_n 3, 1) := by decide +kernel
theorem dX6_feed_1 : decode cX6_feed 1 = .ok (.iconst 1, 1) := by decide +kernel
theorem dX6_feed_2 : decode cX6_feed 2 = .ok (.bipush 8, 2) := by decide +kernel
theorem dX6_feed_4 : decode cX6_feed 4 = .ok (.invokestatic 73, 3) := by decide +kernel
theorem dX6_feed_7 : decode cX6_feed 7 = .ok (.ifCond .ne 9, 3) := by decide +kernel
theorem dX6_feed_10 : decode cX6_feed 10 = .ok (.aload_n 0, 1) := by decide +kernel
theorem dX6_feed_11 : decode cX6_feed 11 = .ok (.iconst 1, 1) := by decide +kernel
theorem dX6_feed_12 : decode cX6_feed 12 = .ok (.invokevirtual 59, 3) := by decide +kernel
theorem dX6_feed_15 : decode cX6_feed 15 = .ok (.ireturn, 1) := by decide +kernel
theorem dX6_feed_16 : decode cX6_feed 16 = .ok (.aload_n 0, 1) := by decide +kernel
theorem dX6_feed_17 : decode cX6_feed 17 = .ok (.getfield 10, 3) := by decide +kernel
theorem dX6_feed_20 : decode cX6_feed 20 = .ok (.getfield 134, 3) := by decide +kernel
theorem dX6_feed_23 : decode cX6_feed 23 = .ok (.bipush 60, 2) := by decide +kernel
theorem dX6_feed_25 : decode cX6_feed 25 = .ok (.iload_n 3, 1) := by decide +kernel
theorem dX6_feed_26 : decode cX6_feed 26 = .ok (.isub, 1) := by decide +kernel
theorem dX6_feed_27 : decode cX6_feed 27 = .ok (.if_icmp .le 9, 3) := by decide +kernel
theorem dX6_feed_30 : decode cX6_feed 30 = .ok (.aload_n 0, 1) := by decide +kernel
theorem dX6_feed_31 : decode cX6_feed 31 = .ok (.iconst 4, 1) := by decide +kernel
theorem dX6_feed_32 : decode cX6_feed 32 = .ok (.invokevirtual 59, 3) := by decide +kernel
theorem dX6_feed_35 : decode cX6_feed 35 = .ok (.ireturn, 1) := by decide +kernel
theorem dX6_feed_36 : decode cX6_feed 36 = .ok (.aload_n 0, 1) := by decide +kernel
theorem dX6_feed_37 : decode cX6_feed 37 = .ok (.getfield 10, 3) := by decide +kernel
theorem dX6_feed_40 : decode cX6_feed 40 = .ok (.lload_n 1, 1) := by decide +kernel
theorem dX6_feed_41 : decode cX6_feed 41 = .ok (.iload_n 3, 1) := by decide +kernel
theorem dX6_feed_42 : decode cX6_feed 42 = .ok (.invokevirtual 137, 3) := by decide +kernel
theorem dX6_feed_45 : decode cX6_feed 45 = .ok (.ireturn, 1) := by decide +kernel
theorem dX6_text_0 : decode cX6_text 0 = .ok (.iload_n 1, 1) := by decide +kernel
theorem dX6_text_1 : decode cX6_text 1 = .ok (.invokestatic 141, 3) := by decide +kernel
theorem dX6_text_4 : decode cX6_text 4 = .ok (.ifCond .ne 9, 3) := by decide +kernel
theorem dX6_text_7 : decode cX6_text 7 = .ok (.aload_n 0, 1) := by decide +kernel
theorem dX6_text_8 : decode cX6_text 8 = .ok (.iconst 1, 1) := by decide +kernel
theorem dX6_text_9 : decode cX6_text 9 = .ok (.invokevirtual 59, 3) := by decide +kernel
theorem dX6_text_12 : decode cX6_text 12 = .ok (.ireturn, 1) := by decide +kernel
theorem dX6_text_13 : decode cX6_text 13 = .ok (.aload_n 0, 1) := by decide +kernel
theorem dX6_text_14 : decode cX6_text 14 = .ok (.getfield 25, 3) := by decide +kernel
theorem dX6_text_17 : decode cX6_text 17 = .ok (.aload_n 0, 1) := by decide +kernel
theorem dX6_text_18 : decode cX6_text 18 = .ok (.getfield 10, 3) := by decide +kernel
theorem dX6_text_21 : decode cX6_text 21 = .ok (.getfield 144, 3) := by decide +kernel
theorem dX6_text_24 : decode cX6_text 24 = .ok (.aload_n 0, 1) := by decide +kernel
theorem dX6_text_25 : decode cX6_text 25 = .ok (.getfield 10, 3) := by decide +kernel
theorem dX6_text_28 : decode cX6_text 28 = .ok (.getfield 134, 3) := by decide +kernel
theorem dX6_text_31 : decode cX6_text 31 = .ok (.iload_n 1, 1) := by decide +kernel
theorem dX6_text_32 : decode cX6_text 32 = .ok (.invokevirtual 148, 3) := by decide +kernel
theorem dX6_text_35 : decode cX6_text 35 = .ok (.istore_n 2, 1) := by decide +kernel
theorem dX6_text_36 : decode cX6_text 36 = .ok (.aload_n 0, 1) := by decide +kernel
theorem dX6_text_37 : decode cX6_text 37 = .ok (.getfield 10, 3) := by decide +kernel
theorem dX6_text_40 : decode cX6_text 40 = .ok (.iconst 0, 1) := by decide +kernel
theorem dX6_text_41 : decode cX6_text 41 = .ok (.putfield 134, 3) := by decide +kernel
theorem dX6_text_44 : decode cX6_text 44 = .ok (.iload_n 2, 1) := by decide +kernel
theorem dX6_text_45 : decode cX6_text 45 = .ok (.ifCond .ne 14, 3) := by decide +kernel
theorem dX6_text_48 : decode cX6_text 48 = .ok (.bipush (-10), 2) := by decide +kernel
theorem dX6_text_50 : decode cX6_text 50 = .ok (.aload_n 0, 1) := by decide +kernel
theorem dX6_text_51 : decode cX6_text 51 = .ok (.getfield 25, 3) := by decide +kernel
theorem dX6_text_54 : decode cX6_text 54 = .ok (.getfield 152, 3) := by decide +kernel
theorem dX6_text_57 : decode cX6_text 57 = .ok (.isub, 1) := by decide +kernel
theorem dX6_text_58 : decode cX6_text 58 = .ok (.ireturn, 1) := by decide +kernel
theorem dX6_text_59 : decode cX6_text 59 = .ok (.aload_n 0, 1) := by decide +kernel
theorem dX6_text_60 : decode cX6_text 60 = .ok (.getfield 10, 3) := by decide +kernel
theorem dX6_text_63 : decode cX6_text 63 = .ok (.getfield 155, 3) := by decide +kernel
theorem dX6_text_66 : decode cX6_text 66 = .ok (.iload_n 1, 1) := by decide +kernel
theorem dX6_text_67 : decode cX6_text 67 = .ok (.aaload, 1) := by decide +kernel
theorem dX6_text_68 : decode cX6_text 68 = .ok (.aload_n 0, 1) := by decide +kernel
theorem dX6_text_69 : decode cX6_text 69 = .ok (.getfield 25, 3) := by decide +kernel
theorem dX6_text_72 : decode cX6_text 72 = .ok (.getfield 159, 3) := by decide +kernel
theorem dX6_text_75 : decode cX6_text 75 = .ok (.aload_n 0, 1) := by decide +kernel
theorem dX6_text_76 : decode cX6_text 76 = .ok (.getfield 25, 3) := by decide +kernel
theorem dX6_text_79 : decode cX6_text 79 = .ok (.getfield 162, 3) := by decide +kernel
theorem dX6_text_82 : decode cX6_text 82 = .ok (.invokevirtual 165, 3) := by decide +kernel
theorem dX6_text_85 : decode cX6_text 85 = .ok (.iconst 1, 1) := by decide +kernel
theorem dX6_text_86 : decode cX6_text 86 = .ok (.ireturn, 1) := by decide +kernel
theorem dX6_untell_0 : decode cX6_untell 0 = .ok (.iload_n 1, 1) := by decide +kernel
theorem dX6_untell_1 : decode cX6_untell 1 = .ok (.invokestatic 141, 3) := by decide +kernel
theorem dX6_untell_4 : decode cX6_untell 4 = .ok (.ifCond .ne 9, 3) := by decide +kernel
theorem dX6_untell_7 : decode cX6_untell 7 = .ok (.aload_n 0, 1) := by decide +kernel
theorem dX6_untell_8 : decode cX6_untell 8 = .ok (.iconst 1, 1) := by decide +kernel
theorem dX6_untell_9 : decode cX6_untell 9 = .ok (.invokevirtual 59, 3) := by decide +kernel
theorem dX6_untell_12 : decode cX6_untell 12 = .ok (.ireturn, 1) := by decide +kernel
theorem dX6_untell_13 : decode cX6_untell 13 = .ok (.aload_n 0, 1) := by decide +kernel
theorem dX6_untell_14 : decode cX6_untell 14 = .ok (.getfield 10, 3) := by decide +kernel
theorem dX6_untell_17 : decode cX6_untell 17 = .ok (.getfield 155, 3) := by decide +kernel
theorem dX6_untell_20 : decode cX6_untell 20 = .ok (.iload_n 1, 1) := by decide +kernel
theorem dX6_untell_21 : decode cX6_untell 21 = .ok (.aaload, 1) := by decide +kernel
theorem dX6_untell_22 : decode cX6_untell 22 = .ok (.getfield 171, 3) := by decide +kernel
theorem dX6_untell_25 : decode cX6_untell 25 = .ok (.ifCond .eq 7, 3) := by decide +kernel
theorem dX6_untell_28 : decode cX6_untell 28 = .ok (.iconst 1, 1) := by decide +kernel
theorem dX6_untell_29 : decode cX6_untell 29 = .ok (.goto 4, 3) := by decide +kernel
theorem dX6_untell_32 : decode cX6_untell 32 = .ok (.iconst 0, 1) := by decide +kernel
theorem dX6_untell_33 : decode cX6_untell 33 = .ok (.istore_n 2, 1) := by decide +kernel
theorem dX6_untell_34 : decode cX6_untell 34 = .ok (.aload_n 0, 1) := by decide +kernel
theorem dX6_untell_35 : decode cX6_untell 35 = .ok (.getfield 10, 3) := by decide +kernel
theorem dX6_untell_38 : decode cX6_untell 38 = .ok (.getfield 155, 3) := by decide +kernel
theorem dX6_untell_41 : decode cX6_untell 41 = .ok (.iload_n 1, 1) := by decide +kernel
theorem dX6_untell_42 : decode cX6_untell 42 = .ok (.aaload, 1) := by decide +kernel
theorem dX6_untell_43 : decode cX6_untell 43 = .ok (.iconst 0, 1) := by decide +kernel
theorem dX6_untell_44 : decode cX6_untell 44 = .ok (.putfield 171, 3) := by decide +kernel
theorem dX6_untell_47 : decode cX6_untell 47 = .ok (.iload_n 2, 1) := by decide +kernel
theorem dX6_untell_48 : decode cX6_untell 48 = .ok (.ireturn, 1) := by decide +kernel
theorem dX6_law_0 : decode cX6_law 0 = .ok (.iload_n 1, 1) := by decide +kernel
theorem dX6_law_1 : decode cX6_law 1 = .ok (.invokestatic 141, 3) := by decide +kernel
theorem dX6_law_4 : decode cX6_law 4 = .ok (.ifCond .ne 9, 3) := by decide +kernel
theorem dX6_law_7 : decode cX6_law 7 = .ok (.aload_n 0, 1) := by decide +kernel
theorem dX6_law_8 : decode cX6_law 8 = .ok (.iconst 1, 1) := by decide +kernel
theorem dX6_law_9 : decode cX6_law 9 = .ok (.invokevirtual 59, 3) := by decide +kernel
theorem dX6_law_12 : decode cX6_law 12 = .ok (.ireturn, 1) := by decide +kernel
theorem dX6_law_13 : decode cX6_law 13 = .ok (.aload_n 0, 1) := by decide +kernel
theorem dX6_law_14 : decode cX6_law 14 = .ok (.getfield 10, 3) := by decide +kernel
theorem dX6_law_17 : decode cX6_law 17 = .ok (.iload_n 1, 1) := by decide +kernel
theorem dX6_law_18 : decode cX6_law 18 = .ok (.iload_n 2, 1) := by decide +kernel
theorem dX6_law_19 : decode cX6_law 19 = .ok (.iload_n 3, 1) := by decide +kernel
theorem dX6_law_20 : decode cX6_law 20 = .ok (.iload 4, 2) := by decide +kernel
theorem dX6_law_22 : decode cX6_law 22 = .ok (.invokevirtual 174, 3) := by decide +kernel
theorem dX6_law_25 : decode cX6_law 25 = .ok (.ireturn, 1) := by decide +kernel
theorem dX6_days_0 : decode cX6_days 0 = .ok (.iload_n 1, 1) := by decide +kernel
theorem dX6_days_1 : decode cX6_days 1 = .ok (.iconst 1, 1) := by decide +kernel
theorem dX6_days_2 : decode cX6_days 2 = .ok (.bipush 60, 2) := by decide +kernel
theorem dX6_days_4 : decode cX6_days 4 = .ok (.invokestatic 73, 3) := by decide +kernel
theorem dX6_days_7 : decode cX6_days 7 = .ok (.ifCond .ne 9, 3) := by decide +kernel
theorem dX6_days_10 : decode cX6_days 10 = .ok (.aload_n 0, 1) := by decide +kernel
theorem dX6_days_11 : decode cX6_days 11 = .ok (.iconst 1, 1) := by decide +kernel
theorem dX6_days_12 : decode cX6_days 12 = .ok (.invokevirtual 59, 3) := by decide +kernel
theorem dX6_days_15 : decode cX6_days 15 = .ok (.ireturn, 1) := by decide +kernel
theorem dX6_days_16 : decode cX6_days 16 = .ok (.aload_n 0, 1) := by decide +kernel
theorem dX6_days_17 : decode cX6_days 17 = .ok (.getfield 10, 3) := by decide +kernel
theorem dX6_days_20 : decode cX6_days 20 = .ok (.getfield 105, 3) := by decide +kernel
theorem dX6_days_23 : decode cX6_days 23 = .ok (.sipush 9999, 3) := by decide +kernel
theorem dX6_days_26 : decode cX6_days 26 = .ok (.iload_n 1, 1) := by decide +kernel
theorem dX6_days_27 : decode cX6_days 27 = .ok (.isub, 1) := by decide +kernel
theorem dX6_days_28 : decode cX6_days 28 = .ok (.if_icmp .le 9, 3) := by decide +kernel
theorem dX6_days_31 : decode cX6_days 31 = .ok (.aload_n 0, 1) := by decide +kernel
theorem dX6_days_32 : decode cX6_days 32 = .ok (.iconst 3, 1) := by decide +kernel
theorem dX6_days_33 : decode cX6_days 33 = .ok (.invokevirtual 59, 3) := by decide +kernel
theorem dX6_days_36 : decode cX6_days 36 = .ok (.ireturn, 1) := by decide +kernel
theorem dX6_days_37 : decode cX6_days 37 = .ok (.iconst 0, 1) := by decide +kernel
theorem dX6_days_38 : decode cX6_days 38 = .ok (.istore_n 2, 1) := by decide +kernel
theorem dX6_days_39 : decode cX6_days 39 = .ok (.iload_n 2, 1) := by decide +kernel
theorem dX6_days_40 : decode cX6_days 40 = .ok (.iload_n 1, 1) := by decide +kernel
theorem dX6_days_41 : decode cX6_days 41 = .ok (.if_icmp .ge 16, 3) := by decide +kernel
theorem dX6_days_44 : decode cX6_days 44 = .ok (.aload_n 0, 1) := by decide +kernel
theorem dX6_days_45 : decode cX6_days 45 = .ok (.getfield 10, 3) := by decide +kernel
theorem dX6_days_48 : decode cX6_days 48 = .ok (.invokevirtual 178, 3) := by decide +kernel
theorem dX6_days_51 : decode cX6_days 51 = .ok (.iinc 2 1, 3) := by decide +kernel
theorem dX6_days_54 : decode cX6_days 54 = .ok (.goto (-15), 3) := by decide +kernel
theorem dX6_days_57 : decode cX6_days 57 = .ok (.aload_n 0, 1) := by decide +kernel
theorem dX6_days_58 : decode cX6_days 58 = .ok (.getfield 10, 3) := by decide +kernel
theorem dX6_days_61 : decode cX6_days 61 = .ok (.getfield 105, 3) := by decide +kernel
theorem dX6_days_64 : decode cX6_days 64 = .ok (.ireturn, 1) := by decide +kernel
theorem dX6_loose_0 : decode cX6_loose 0 = .ok (.iload_n 1, 1) := by decide +kernel
theorem dX6_loose_1 : decode cX6_loose 1 = .ok (.iconst 1, 1) := by decide +kernel
theorem dX6_loose_2 : decode cX6_loose 2 = .ok (.bipush 30, 2) := by decide +kernel
theorem dX6_loose_4 : decode cX6_loose 4 = .ok (.invokestatic 73, 3) := by decide +kernel
theorem dX6_loose_7 : decode cX6_loose 7 = .ok (.ifCond .ne 9, 3) := by decide +kernel
theorem dX6_loose_10 : decode cX6_loose 10 = .ok (.aload_n 0, 1) := by decide +kernel
theorem dX6_loose_11 : decode cX6_loose 11 = .ok (.iconst 1, 1) := by decide +kernel
theorem dX6_loose_12 : decode cX6_loose 12 = .ok (.invokevirtual 59, 3) := by decide +kernel
theorem dX6_loose_15 : decode cX6_loose 15 = .ok (.ireturn, 1) := by decide +kernel
theorem dX6_loose_16 : decode cX6_loose 16 = .ok (.aload_n 0, 1) := by decide +kernel
theorem dX6_loose_17 : decode cX6_loose 17 = .ok (.getfield 10, 3) := by decide +kernel
theorem dX6_loose_20 : decode cX6_loose 20 = .ok (.getfield 105, 3) := by decide +kernel
theorem dX6_loose_23 : decode cX6_loose 23 = .ok (.sipush 9999, 3) := by decide +kernel
theorem dX6_loose_26 : decode cX6_loose 26 = .ok (.iload_n 1, 1) := by decide +kernel
theorem dX6_loose_27 : decode cX6_loose 27 = .ok (.isub, 1) := by decide +kernel
theorem dX6_loose_28 : decode cX6_loose 28 = .ok (.if_icmp .le 9, 3) := by decide +kernel
theorem dX6_loose_31 : decode cX6_loose 31 = .ok (.aload_n 0, 1) := by decide +kernel
theorem dX6_loose_32 : decode cX6_loose 32 = .ok (.iconst 3, 1) := by decide +kernel
theorem dX6_loose_33 : decode cX6_loose 33 = .ok (.invokevirtual 59, 3) := by decide +kernel
theorem dX6_loose_36 : decode cX6_loose 36 = .ok (.ireturn, 1) := by decide +kernel
theorem dX6_loose_37 : decode cX6_loose 37 = .ok (.iconst 0, 1) := by decide +kernel
theorem dX6_loose_38 : decode cX6_loose 38 = .ok (.istore_n 2, 1) := by decide +kernel
theorem dX6_loose_39 : decode cX6_loose 39 = .ok (.iconst 0, 1) := by decide +kernel
theorem dX6_loose_40 : decode cX6_loose 40 = .ok (.istore_n 3, 1) := by decide +kernel
theorem dX6_loose_41 : decode cX6_loose 41 = .ok (.iload_n 3, 1) := by decide +kernel
theorem dX6_loose_42 : decode cX6_loose 42 = .ok (.iload_n 1, 1) := by decide +kernel
theorem dX6_loose_43 : decode cX6_loose 43 = .ok (.if_icmp .ge 19, 3) := by decide +kernel
theorem dX6_loose_46 : decode cX6_loose 46 = .ok (.iload_n 2, 1) := by decide +kernel
theorem dX6_loose_47 : decode cX6_loose 47 = .ok (.aload_n 0, 1) := by decide +kernel
theorem dX6_loose_48 : decode cX6_loose 48 = .ok (.getfield 10, 3) := by decide +kernel
theorem dX6_loose_51 : decode cX6_loose 51 = .ok (.invokevirtual 181, 3) := by decide +kernel
theorem dX6_loose_54 : decode cX6_loose 54 = .ok (.iadd, 1) := by decide +kernel
theorem dX6_loose_55 : decode cX6_loose 55 = .ok (.istore_n 2, 1) := by decide +kernel
theorem dX6_loose_56 : decode cX6_loose 56 = .ok (.iinc 3 1, 3) := by decide +kernel
theorem dX6_loose_59 : decode cX6_loose 59 = .ok (.goto (-18), 3) := by decide +kernel
theorem dX6_loose_62 : decode cX6_loose 62 = .ok (.iload_n 2, 1) := by decide +kernel
theorem dX6_loose_63 : decode cX6_loose 63 = .ok (.ireturn, 1) := by decide +kernel
theorem dX6_seed_0 : decode cX6_seed 0 = .ok (.aload_n 0, 1) := by decide +kernel
theorem dX6_seed_1 : decode cX6_seed 1 = .ok (.getfield 10, 3) := by decide +kernel
theorem dX6_seed_4 : decode cX6_seed 4 = .ok (.getfield 184, 3) := by decide +kernel
theorem dX6_seed_7 : decode cX6_seed 7 = .ok (.istore_n 2, 1) := by decide +kernel
theorem dX6_seed_8 : decode cX6_seed 8 = .ok (.aload_n 0, 1) := by decide +kernel
theorem dX6_seed_9 : decode cX6_seed 9 = .ok (.getfield 10, 3) := by decide +kernel
theorem dX6_seed_12 : decode cX6_seed 12 = .ok (.iload_n 1, 1) := by decide +kernel
theorem dX6_seed_13 : decode cX6_seed 13 = .ok (.putfield 184, 3) := by decide +kernel
theorem dX6_seed_16 : decode cX6_seed 16 = .ok (.iload_n 2, 1) := by decide +kernel
theorem dX6_seed_17 : decode cX6_seed 17 = .ok (.ireturn, 1) := by decide +kernel
theorem dX6_joined_0 : decode cX6_joined 0 = .ok (.iload_n 1, 1) := by decide +kernel
theorem dX6_joined_1 : decode cX6_joined 1 = .ok (.invokestatic 187, 3) := by decide +kernel
theorem dX6_joined_4 : decode cX6_joined 4 = .ok (.ifCond .eq 10, 3) := by decide +kernel
theorem dX6_joined_7 : decode cX6_joined 7 = .ok (.iload_n 2, 1) := by decide +kernel
theorem dX6_joined_8 : decode cX6_joined 8 = .ok (.invokestatic 127, 3) := by decide +kernel
theorem dX6_joined_11 : decode cX6_joined 11 = .ok (.ifCond .ne 9, 3) := by decide +kernel
theorem dX6_joined_14 : decode cX6_joined 14 = .ok (.aload_n 0, 1) := by decide +kernel
theorem dX6_joined_15 : decode cX6_joined 15 = .ok (.iconst 1, 1) := by decide +kernel
theorem dX6_joined_16 : decode cX6_joined 16 = .ok (.invokevirtual 59, 3) := by decide +kernel
theorem dX6_joined_19 : decode cX6_joined 19 = .ok (.ireturn, 1) := by decide +kernel
theorem dX6_joined_20 : decode cX6_joined 20 = .ok (.aload_n 0, 1) := by decide +kernel
theorem dX6_joined_21 : decode cX6_joined 21 = .ok (.getfield 10, 3) := by decide +kernel
theorem dX6_joined_24 : decode cX6_joined 24 = .ok (.iload_n 1, 1) := by decide +kernel
theorem dX6_joined_25 : decode cX6_joined 25 = .ok (.aload_n 0, 1) := by decide +kernel
theorem dX6_joined_26 : decode cX6_joined 26 = .ok (.getfield 10, 3) := by decide +kernel
theorem dX6_joined_29 : decode cX6_joined 29 = .ok (.iload_n 2, 1) := by decide +kernel
theorem dX6_joined_30 : decode cX6_joined 30 = .ok (.invokevirtual 190, 3) := by decide +kernel
theorem dX6_joined_33 : decode cX6_joined 33 = .ok (.invokevirtual 193, 3) := by decide +kernel
theorem dX6_joined_36 : decode cX6_joined 36 = .ok (.ireturn, 1) := by decide +kernel
theorem dX6_load_0 : decode cX6_load 0 = .ok (.iload_n 1, 1) := by decide +kernel
theorem dX6_load_1 : decode cX6_load 1 = .ok (.iload_n 2, 1) := by decide +kernel
theorem dX6_load_2 : decode cX6_load 2 = .ok (.invokestatic 55, 3) := by decide +kernel
theorem dX6_load_5 : decode cX6_load 5 = .ok (.ifCond .ne 9, 3) := by decide +kernel
theorem dX6_load_8 : decode cX6_load 8 = .ok (.aload_n 0, 1) := by decide +kernel
theorem dX6_load_9 : decode cX6_load 9 = .ok (.iconst 1, 1) := by decide +kernel
theorem dX6_load_10 : decode cX6_load 10 = .ok (.invokevirtual 59, 3) := by decide +kernel
theorem dX6_load_13 : decode cX6_load 13 = .ok (.ireturn, 1) := by decide +kernel
theorem dX6_load_14 : decode cX6_load 14 = .ok (.bipush 99, 2) := by decide +kernel
theorem dX6_load_16 : decode cX6_load 16 = .ok (.istore_n 3, 1) := by decide +kernel
theorem dX6_load_17 : decode cX6_load 17 = .ok (.iload_n 3, 1) := by decide +kernel
theorem dX6_load_18 : decode cX6_load 18 = .ok (.ifCond .lt 31, 3) := by decide +kernel
theorem dX6_load_21 : decode cX6_load 21 = .ok (.aload_n 0, 1) := by decide +kernel
theorem dX6_load_22 : decode cX6_load 22 = .ok (.getfield 10, 3) := by decide +kernel
theorem dX6_load_25 : decode cX6_load 25 = .ok (.iload_n 1, 1) := by decide +kernel
theorem dX6_load_26 : decode cX6_load 26 = .ok (.iload_n 2, 1) := by decide +kernel
theorem dX6_load_27 : decode cX6_load 27 = .ok (.aload_n 0, 1) := by decide +kernel
theorem dX6_load_28 : decode cX6_load 28 = .ok (.getfield 10, 3) := by decide +kernel
theorem dX6_load_31 : decode cX6_load 31 = .ok (.iload_n 3, 1) := by decide +kernel
theorem dX6_load_32 : decode cX6_load 32 = .ok (.invokevirtual 190, 3) := by decide +kernel
theorem dX6_load_35 : decode cX6_load 35 = .ok (.invokevirtual 197, 3) := by decide +kernel
theorem dX6_load_38 : decode cX6_load 38 = .ok (.ifCond .eq 5, 3) := by decide +kernel
theorem dX6_load_41 : decode cX6_load 41 = .ok (.iload_n 3, 1) := by decide +kernel
theorem dX6_load_42 : decode cX6_load 42 = .ok (.ireturn, 1) := by decide +kernel
theorem dX6_load_43 : decode cX6_load 43 = .ok (.iinc 3 (-1), 3) := by decide +kernel
theorem dX6_load_46 : decode cX6_load 46 = .ok (.goto (-29), 3) := by decide +kernel
theorem dX6_load_49 : decode cX6_load 49 = .ok (.aload_n 0, 1) := by decide +kernel
theorem dX6_load_50 : decode cX6_load 50 = .ok (.iconst 2, 1) := by decide +kernel
theorem dX6_load_51 : decode cX6_load 51 = .ok (.invokevirtual 59, 3) := by decide +kernel
theorem dX6_load_54 : decode cX6_load 54 = .ok (.ireturn, 1) := by decide +kernel
theorem dX6_baking_0 : decode cX6_baking 0 = .ok (.iload_n 1, 1) := by decide +kernel
theorem dX6_baking_1 : decode cX6_baking 1 = .ok (.iload_n 2, 1) := by decide +kernel
theorem dX6_baking_2 : decode cX6_baking 2 = .ok (.invokestatic 55, 3) := by decide +kernel
theorem dX6_baking_5 : decode cX6_baking 5 = .ok (.ifCond .eq 20, 3) := by decide +kernel
theorem dX6_baking_8 : decode cX6_baking 8 = .ok (.iload_n 3, 1) := by decide +kernel
theorem dX6_baking_9 : decode cX6_baking 9 = .ok (.invokestatic 127, 3) := by decide +kernel
theorem dX6_baking_12 : decode cX6_baking 12 = .ok (.ifCond .eq 13, 3) := by decide +kernel
theorem dX6_baking_15 : decode cX6_baking 15 = .ok (.iload 4, 2) := by decide +kernel
theorem dX6_baking_17 : decode cX6_baking 17 = .ok (.iconst 0, 1) := by decide +kernel
theorem dX6_baking_18 : decode cX6_baking 18 = .ok (.iconst 1, 1) := by decide +kernel
theorem dX6_baking_19 : decode cX6_baking 19 = .ok (.invokestatic 73, 3) := by decide +kernel
theorem dX6_baking_22 : decode cX6_baking 22 = .ok (.ifCond .ne 9, 3) := by decide +kernel
theorem dX6_baking_25 : decode cX6_baking 25 = .ok (.aload_n 0, 1) := by decide +kernel
theorem dX6_baking_26 : decode cX6_baking 26 = .ok (.iconst 1, 1) := by decide +kernel
theorem dX6_baking_27 : decode cX6_baking 27 = .ok (.invokevirtual 59, 3) := by decide +kernel
theorem dX6_baking_30 : decode cX6_baking 30 = .ok (.ireturn, 1) := by decide +kernel
theorem dX6_baking_31 : decode cX6_baking 31 = .ok (.aload_n 0, 1) := by decide +kernel
theorem dX6_baking_32 : decode cX6_baking 32 = .ok (.getfield 10, 3) := by decide +kernel
theorem dX6_baking_35 : decode cX6_baking 35 = .ok (.iload_n 3, 1) := by decide +kernel
theorem dX6_baking_36 : decode cX6_baking 36 = .ok (.invokevirtual 190, 3) := by decide +kernel
theorem dX6_baking_39 : decode cX6_baking 39 = .ok (.istore 5, 2) := by decide +kernel
theorem dX6_baking_41 : decode cX6_baking 41 = .ok (.aload_n 0, 1) := by decide +kernel
theorem dX6_baking_42 : decode cX6_baking 42 = .ok (.getfield 19, 3) := by decide +kernel
theorem dX6_baking_45 : decode cX6_baking 45 = .ok (.aload_n 0, 1) := by decide +kernel
theorem dX6_baking_46 : decode cX6_baking 46 = .ok (.getfield 10, 3) := by decide +kernel
theorem dX6_baking_49 : decode cX6_baking 49 = .ok (.invokevirtual 200, 3) := by decide +kernel
theorem dX6_baking_52 : decode cX6_baking 52 = .ok (.aload_n 0, 1) := by decide +kernel
theorem dX6_baking_53 : decode cX6_baking 53 = .ok (.getfield 19, 3) := by decide +kernel
theorem dX6_baking_56 : decode cX6_baking 56 = .ok (.invokevirtual 204, 3) := by decide +kernel
theorem dX6_baking_59 : decode cX6_baking 59 = .ok (.aload_n 0, 1) := by decide +kernel
theorem dX6_baking_60 : decode cX6_baking 60 = .ok (.getfield 19, 3) := by decide +kernel
theorem dX6_baking_63 : decode cX6_baking 63 = .ok (.iload_n 3, 1) := by decide +kernel
theorem dX6_baking_64 : decode cX6_baking 64 = .ok (.invokevirtual 190, 3) := by decide +kernel
theorem dX6_baking_67 : decode cX6_baking 67 = .ok (.istore 6, 2) := by decide +kernel
theorem dX6_baking_69 : decode cX6_baking 69 = .ok (.iconst (-1), 1) := by decide +kernel
theorem dX6_baking_70 : decode cX6_baking 70 = .ok (.istore 7, 2) := by decide +kernel
theorem dX6_baking_72 : decode cX6_baking 72 = .ok (.iconst 0, 1) := by decide +kernel
theorem dX6_baking_73 : decode cX6_baking 73 = .ok (.istore 8, 2) := by decide +kernel
theorem dX6_baking_75 : decode cX6_baking 75 = .ok (.iconst 0, 1) := by decide +kernel
theorem dX6_baking_76 : decode cX6_baking 76 = .ok (.istore 9, 2) := by decide +kernel
theorem dX6_baking_78 : decode cX6_baking 78 = .ok (.iload 9, 2) := by decide +kernel
theorem dX6_baking_80 : decode cX6_baking 80 = .ok (.iconst 1, 1) := by decide +kernel
theorem dX6_baking_81 : decode cX6_baking 81 = .ok (.aload_n 0, 1) := by decide +kernel
theorem dX6_baking_82 : decode cX6_baking 82 = .ok (.getfield 10, 3) := by decide +kernel
theorem dX6_baking_85 : decode cX6_baking 85 = .ok (.getfield 63, 3) := by decide +kernel
theorem dX6_baking_88 : decode cX6_baking 88 = .ok (.ishl, 1) := by decide +kernel
theorem dX6_baking_89 : decode cX6_baking 89 = .ok (.if_icmp .ge 65, 3) := by decide +kernel
theorem dX6_baking_92 : decode cX6_baking 92 = .ok (.aload_n 0, 1) := by decide +kernel
theorem dX6_baking_93 : decode cX6_baking 93 = .ok (.getfield 10, 3) := by decide +kernel
theorem dX6_baking_96 : decode cX6_baking 96 = .ok (.iload 9, 2) := by decide +kernel
theorem dX6_baking_98 : decode cX6_baking 98 = .ok (.invokevirtual 207, 3) := by decide +kernel
theorem dX6_baking_101 : decode cX6_baking 101 = .ok (.istore 10, 2) := by decide +kernel
theorem dX6_baking_103 : decode cX6_baking 103 = .ok (.iload 7, 2) := by decide +kernel
theorem dX6_baking_105 : decode cX6_baking 105 = .ok (.ifCond .lt 10, 3) := by decide +kernel
theorem dX6_baking_108 : decode cX6_baking 108 = .ok (.iload 10, 2) := by decide +kernel
theorem dX6_baking_110 : decode cX6_baking 110 = .ok (.iload 8, 2) := by decide +kernel
theorem dX6_baking_112 : decode cX6_baking 112 = .ok (.if_icmp .ge 36, 3) := by decide +kernel
theorem dX6_baking_115 : decode cX6_baking 115 = .ok (.aload_n 0, 1) := by decide +kernel
theorem dX6_baking_116 : decode cX6_baking 116 = .ok (.getfield 10, 3) := by decide +kernel
theorem dX6_baking_119 : decode cX6_baking 119 = .ok (.iload_n 1, 1) := by decide +kernel
theorem dX6_baking_120 : decode cX6_baking 120 = .ok (.iload_n 2, 1) := by decide +kernel
theorem dX6_baking_121 : decode cX6_baking 121 = .ok (.iload 5, 2) := by decide +kernel
theorem dX6_baking_123 : decode cX6_baking 123 = .ok (.iload 9, 2) := by decide +kernel
theorem dX6_baking_125 : decode cX6_baking 125 = .ok (.iconst (-1), 1) := by decide +kernel
theorem dX6_baking_126 : decode cX6_baking 126 = .ok (.ixor, 1) := by decide +kernel
theorem dX6_baking_127 : decode cX6_baking 127 = .ok (.iand, 1) := by decide +kernel
theorem dX6_baking_128 : decode cX6_baking 128 = .ok (.iload 6, 2) := by decide +kernel
theorem dX6_baking_130 : decode cX6_baking 130 = .ok (.iload 9, 2) := by decide +kernel
theorem dX6_baking_132 : decode cX6_baking 132 = .ok (.iand, 1) := by decide +kernel
theorem dX6_baking_133 : decode cX6_baking 133 = .ok (.ior, 1) := by decide +kernel
theorem dX6_baking_134 : decode cX6_baking 134 = .ok (.invokevirtual 197, 3) := by decide +kernel
theorem dX6_baking_137 : decode cX6_baking 137 = .ok (.ifCond .eq 11, 3) := by decide +kernel
theorem dX6_baking_140 : decode cX6_baking 140 = .ok (.iload 9, 2) := by decide +kernel
theorem dX6_baking_142 : decode cX6_baking 142 = .ok (.istore 7, 2) := by decide +kernel
theorem dX6_baking_144 : decode cX6_baking 144 = .ok (.iload 10, 2) := by decide +kernel
theorem dX6_baking_146 : decode cX6_baking 146 = .ok (.istore 8, 2) := by decide +kernel
theorem dX6_baking_148 : decode cX6_baking 148 = .ok (.iinc 9 1, 3) := by decide +kernel
theorem dX6_baking_151 : decode cX6_baking 151 = .ok (.goto (-73), 3) := by decide +kernel
theorem dX6_baking_154 : decode cX6_baking 154 = .ok (.iload 7, 2) := by decide +kernel
theorem dX6_baking_156 : decode cX6_baking 156 = .ok (.ifCond .ge 9, 3) := by decide +kernel
theorem dX6_baking_159 : decode cX6_baking 159 = .ok (.aload_n 0, 1) := by decide +kernel
theorem dX6_baking_160 : decode cX6_baking 160 = .ok (.iconst 2, 1) := by decide +kernel
theorem dX6_baking_161 : decode cX6_baking 161 = .ok (.invokevirtual 59, 3) := by decide +kernel
theorem dX6_baking_164 : decode cX6_baking 164 = .ok (.ireturn, 1) := by decide +kernel
theorem dX6_baking_165 : decode cX6_baking 165 = .ok (.iload 4, 2) := by decide +kernel
theorem dX6_baking_167 : decode cX6_baking 167 = .ok (.ifCond .ne 8, 3) := by decide +kernel
theorem dX6_baking_170 : decode cX6_baking 170 = .ok (.iload 8, 2) := by decide +kernel
theorem dX6_baking_172 : decode cX6_baking 172 = .ok (.goto 5, 3) := by decide +kernel
theorem dX6_baking_175 : decode cX6_baking 175 = .ok (.iload 7, 2) := by decide +kernel
theorem dX6_baking_177 : decode cX6_baking 177 = .ok (.ireturn, 1) := by decide +kernel
theorem dX6_eating_0 : decode cX6_eating 0 = .ok (.iload_n 1, 1) := by decide +kernel
theorem dX6_eating_1 : decode cX6_eating 1 = .ok (.iload_n 2, 1) := by decide +kernel
theorem dX6_eating_2 : decode cX6_eating 2 = .ok (.invokestatic 55, 3) := by decide +kernel
theorem dX6_eating_5 : decode cX6_eating 5 = .ok (.ifCond .eq 20, 3) := by decide +kernel
theorem dX6_eating_8 : decode cX6_eating 8 = .ok (.iload_n 3, 1) := by decide +kernel
theorem dX6_eating_9 : decode cX6_eating 9 = .ok (.invokestatic 127, 3) := by decide +kernel
theorem dX6_eating_12 : decode cX6_eating 12 = .ok (.ifCond .eq 13, 3) := by decide +kernel
theorem dX6_eating_15 : decode cX6_eating 15 = .ok (.iload 4, 2) := by decide +kernel
theorem dX6_eating_17 : decode cX6_eating 17 = .ok (.iconst 0, 1) := by decide +kernel
theorem dX6_eating_18 : decode cX6_eating 18 = .ok (.iconst 1, 1) := by decide +kernel
theorem dX6_eating_19 : decode cX6_eating 19 = .ok (.invokestatic 73, 3) := by decide +kernel
theorem dX6_eating_22 : decode cX6_eating 22 = .ok (.ifCond .ne 9, 3) := by decide +kernel
theorem dX6_eating_25 : decode cX6_eating 25 = .ok (.aload_n 0, 1) := by decide +kernel
theorem dX6_eating_26 : decode cX6_eating 26 = .ok (.iconst 1, 1) := by decide +kernel
theorem dX6_eating_27 : decode cX6_eating 27 = .ok (.invokevirtual 59, 3) := by decide +kernel
theorem dX6_eating_30 : decode cX6_eating 30 = .ok (.ireturn, 1) := by decide +kernel
theorem dX6_eating_31 : decode cX6_eating 31 = .ok (.aload_n 0, 1) := by decide +kernel
theorem dX6_eating_32 : decode cX6_eating 32 = .ok (.getfield 10, 3) := by decide +kernel
theorem dX6_eating_35 : decode cX6_eating 35 = .ok (.iload_n 3, 1) := by decide +kernel
theorem dX6_eating_36 : decode cX6_eating 36 = .ok (.invokevirtual 190, 3) := by decide +kernel
theorem dX6_eating_39 : decode cX6_eating 39 = .ok (.istore 5, 2) := by decide +kernel
theorem dX6_eating_41 : decode cX6_eating 41 = .ok (.iconst 0, 1) := by decide +kernel
theorem dX6_eating_42 : decode cX6_eating 42 = .ok (.istore 6, 2) := by decide +kernel
theorem dX6_eating_44 : decode cX6_eating 44 = .ok (.bipush 10, 2) := by decide +kernel
theorem dX6_eating_46 : decode cX6_eating 46 = .ok (.istore 7, 2) := by decide +kernel
theorem dX6_eating_48 : decode cX6_eating 48 = .ok (.iconst 0, 1) := by decide +kernel
theorem dX6_eating_49 : decode cX6_eating 49 = .ok (.istore 8, 2) := by decide +kernel
theorem dX6_eating_51 : decode cX6_eating 51 = .ok (.iload 8, 2) := by decide +kernel
theorem dX6_eating_53 : decode cX6_eating 53 = .ok (.iconst 1, 1) := by decide +kernel
theorem dX6_eating_54 : decode cX6_eating 54 = .ok (.aload_n 0, 1) := by decide +kernel
theorem dX6_eating_55 : decode cX6_eating 55 = .ok (.getfield 10, 3) := by decide +kernel
theorem dX6_eating_58 : decode cX6_eating 58 = .ok (.getfield 63, 3) := by decide +kernel
theorem dX6_eating_61 : decode cX6_eating 61 = .ok (.ishl, 1) := by decide +kernel
theorem dX6_eating_62 : decode cX6_eating 62 = .ok (.if_icmp .ge 50, 3) := by decide +kernel
theorem dX6_eating_65 : decode cX6_eating 65 = .ok (.iload 8, 2) := by decide +kernel
theorem dX6_eating_67 : decode cX6_eating 67 = .ok (.invokestatic 210, 3) := by decide +kernel
theorem dX6_eating_70 : decode cX6_eating 70 = .ok (.istore 9, 2) := by decide +kernel
theorem dX6_eating_72 : decode cX6_eating 72 = .ok (.iload 9, 2) := by decide +kernel
theorem dX6_eating_74 : decode cX6_eating 74 = .ok (.iload 7, 2) := by decide +kernel
theorem dX6_eating_76 : decode cX6_eating 76 = .ok (.if_icmp .ge 30, 3) := by decide +kernel
theorem dX6_eating_79 : decode cX6_eating 79 = .ok (.aload_n 0, 1) := by decide +kernel
theorem dX6_eating_80 : decode cX6_eating 80 = .ok (.getfield 10, 3) := by decide +kernel
theorem dX6_eating_83 : decode cX6_eating 83 = .ok (.iload_n 1, 1) := by decide +kernel
theorem dX6_eating_84 : decode cX6_eating 84 = .ok (.iload_n 2, 1) := by decide +kernel
theorem dX6_eating_85 : decode cX6_eating 85 = .ok (.iload 5, 2) := by decide +kernel
theorem dX6_eating_87 : decode cX6_eating 87 = .ok (.iload 8, 2) := by decide +kernel
theorem dX6_eating_89 : decode cX6_eating 89 = .ok (.iconst (-1), 1) := by decide +kernel
theorem dX6_eating_90 : decode cX6_eating 90 = .ok (.ixor, 1) := by decide +kernel
theorem dX6_eating_91 : decode cX6_eating 91 = .ok (.iand, 1) := by decide +kernel
theorem dX6_eating_92 : decode cX6_eating 92 = .ok (.invokevirtual 197, 3) := by decide +kernel
theorem dX6_eating_95 : decode cX6_eating 95 = .ok (.ifCond .ne 11, 3) := by decide +kernel
theorem dX6_eating_98 : decode cX6_eating 98 = .ok (.iload 8, 2) := by decide +kernel
theorem dX6_eating_100 : decode cX6_eating 100 = .ok (.istore 6, 2) := by decide +kernel
theorem dX6_eating_102 : decode cX6_eating 102 = .ok (.iload 9, 2) := by decide +kernel
theorem dX6_eating_104 : decode cX6_eating 104 = .ok (.istore 7, 2) := by decide +kernel
theorem dX6_eating_106 : decode cX6_eating 106 = .ok (.iinc 8 1, 3) := by decide +kernel
theorem dX6_eating_109 : decode cX6_eating 109 = .ok (.goto (-58), 3) := by decide +kernel
theorem dX6_eating_112 : decode cX6_eating 112 = .ok (.iload 4, 2) := by decide +kernel
theorem dX6_eating_114 : decode cX6_eating 114 = .ok (.ifCond .ne 8, 3) := by decide +kernel
theorem dX6_eating_117 : decode cX6_eating 117 = .ok (.iload 7, 2) := by decide +kernel
theorem dX6_eating_119 : decode cX6_eating 119 = .ok (.goto 5, 3) := by decide +kernel
theorem dX6_eating_122 : decode cX6_eating 122 = .ok (.iload 6, 2) := by decide +kernel
theorem dX6_eating_124 : decode cX6_eating 124 = .ok (.ireturn, 1) := by decide +kernel
theorem dX6_lasts_0 : decode cX6_lasts 0 = .ok (.iload_n 1, 1) := by decide +kernel
theorem dX6_lasts_1 : decode cX6_lasts 1 = .ok (.iload_n 2, 1) := by decide +kernel
theorem dX6_lasts_2 : decode cX6_lasts 2 = .ok (.invokestatic 55, 3) := by decide +kernel
theorem dX6_lasts_5 : decode cX6_lasts 5 = .ok (.ifCond .eq 10, 3) := by decide +kernel
theorem dX6_lasts_8 : decode cX6_lasts 8 = .ok (.iload_n 3, 1) := by decide +kernel
theorem dX6_lasts_9 : decode cX6_lasts 9 = .ok (.invokestatic 127, 3) := by decide +kernel
theorem dX6_lasts_12 : decode cX6_lasts 12 = .ok (.ifCond .ne 9, 3) := by decide +kernel
theorem dX6_lasts_15 : decode cX6_lasts 15 = .ok (.aload_n 0, 1) := by decide +kernel
theorem dX6_lasts_16 : decode cX6_lasts 16 = .ok (.iconst 1, 1) := by decide +kernel
theorem dX6_lasts_17 : decode cX6_lasts 17 = .ok (.invokevirtual 59, 3) := by decide +kernel
theorem dX6_lasts_20 : decode cX6_lasts 20 = .ok (.ireturn, 1) := by decide +kernel
theorem dX6_lasts_21 : decode cX6_lasts 21 = .ok (.aload_n 0, 1) := by decide +kernel
theorem dX6_lasts_22 : decode cX6_lasts 22 = .ok (.getfield 19, 3) := by decide +kernel
theorem dX6_lasts_25 : decode cX6_lasts 25 = .ok (.aload_n 0, 1) := by decide +kernel
theorem dX6_lasts_26 : decode cX6_lasts 26 = .ok (.getfield 10, 3) := by decide +kernel
theorem dX6_lasts_29 : decode cX6_lasts 29 = .ok (.invokevirtual 200, 3) := by decide +kernel
theorem dX6_lasts_32 : decode cX6_lasts 32 = .ok (.iconst 0, 1) := by decide +kernel
theorem dX6_lasts_33 : decode cX6_lasts 33 = .ok (.istore 4, 2) := by decide +kernel
theorem dX6_lasts_35 : decode cX6_lasts 35 = .ok (.iload 4, 2) := by decide +kernel
theorem dX6_lasts_37 : decode cX6_lasts 37 = .ok (.bipush 60, 2) := by decide +kernel
theorem dX6_lasts_39 : decode cX6_lasts 39 = .ok (.if_icmp .gt 39, 3) := by decide +kernel
theorem dX6_lasts_42 : decode cX6_lasts 42 = .ok (.aload_n 0, 1) := by decide +kernel
theorem dX6_lasts_43 : decode cX6_lasts 43 = .ok (.getfield 19, 3) := by decide +kernel
theorem dX6_lasts_46 : decode cX6_lasts 46 = .ok (.iload_n 1, 1) := by decide +kernel
theorem dX6_lasts_47 : decode cX6_lasts 47 = .ok (.iload_n 2, 1) := by decide +kernel
theorem dX6_lasts_48 : decode cX6_lasts 48 = .ok (.aload_n 0, 1) := by decide +kernel
theorem dX6_lasts_49 : decode cX6_lasts 49 = .ok (.getfield 19, 3) := by decide +kernel
theorem dX6_lasts_52 : decode cX6_lasts 52 = .ok (.iload_n 3, 1) := by decide +kernel
theorem dX6_lasts_53 : decode cX6_lasts 53 = .ok (.invokevirtual 190, 3) := by decide +kernel
theorem dX6_lasts_56 : decode cX6_lasts 56 = .ok (.invokevirtual 197, 3) := by decide +kernel
theorem dX6_lasts_59 : decode cX6_lasts 59 = .ok (.ifCond .ne 6, 3) := by decide +kernel
theorem dX6_lasts_62 : decode cX6_lasts 62 = .ok (.iload 4, 2) := by decide +kernel
theorem dX6_lasts_64 : decode cX6_lasts 64 = .ok (.ireturn, 1) := by decide +kernel
theorem dX6_lasts_65 : decode cX6_lasts 65 = .ok (.aload_n 0, 1) := by decide +kernel
theorem dX6_lasts_66 : decode cX6_lasts 66 = .ok (.getfield 19, 3) := by decide +kernel
theorem dX6_lasts_69 : decode cX6_lasts 69 = .ok (.invokevirtual 178, 3) := by decide +kernel
theorem dX6_lasts_72 : decode cX6_lasts 72 = .ok (.iinc 4 1, 3) := by decide +kernel
theorem dX6_lasts_75 : decode cX6_lasts 75 = .ok (.goto (-40), 3) := by decide +kernel
theorem dX6_lasts_78 : decode cX6_lasts 78 = .ok (.aload_n 0, 1) := by decide +kernel
theorem dX6_lasts_79 : decode cX6_lasts 79 = .ok (.iconst 2, 1) := by decide +kernel
theorem dX6_lasts_80 : decode cX6_lasts 80 = .ok (.invokevirtual 59, 3) := by decide +kernel
theorem dX6_lasts_83 : decode cX6_lasts 83 = .ok (.ireturn, 1) := by decide +kernel
theorem dX6_then_0 : decode cX6_then 0 = .ok (.aload_n 0, 1) := by decide +kernel
theorem dX6_then_1 : decode cX6_then 1 = .ok (.getfield 10, 3) := by decide +kernel
theorem dX6_then_4 : decode cX6_then 4 = .ok (.iload_n 1, 1) := by decide +kernel
theorem dX6_then_5 : decode cX6_then 5 = .ok (.invokevirtual 70, 3) := by decide +kernel
theorem dX6_then_8 : decode cX6_then 8 = .ok (.ifCond .eq 13, 3) := by decide +kernel
theorem dX6_then_11 : decode cX6_then 11 = .ok (.iload_n 2, 1) := by decide +kernel
theorem dX6_then_12 : decode cX6_then 12 = .ok (.iconst 0, 1) := by decide +kernel
theorem dX6_then_13 : decode cX6_then 13 = .ok (.bipush 60, 2) := by decide +kernel
theorem dX6_then_15 : decode cX6_then 15 = .ok (.invokestatic 73, 3) := by decide +kernel
theorem dX6_then_18 : decode cX6_then 18 = .ok (.ifCond .ne 9, 3) := by decide +kernel
theorem dX6_then_21 : decode cX6_then 21 = .ok (.aload_n 0, 1) := by decide +kernel
theorem dX6_then_22 : decode cX6_then 22 = .ok (.iconst 1, 1) := by decide +kernel
theorem dX6_then_23 : decode cX6_then 23 = .ok (.invokevirtual 59, 3) := by decide +kernel
theorem dX6_then_26 : decode cX6_then 26 = .ok (.ireturn, 1) := by decide +kernel
theorem dX6_then_27 : decode cX6_then 27 = .ok (.aload_n 0, 1) := by decide +kernel
theorem dX6_then_28 : decode cX6_then 28 = .ok (.getfield 19, 3) := by decide +kernel
theorem dX6_then_31 : decode cX6_then 31 = .ok (.aload_n 0, 1) := by decide +kernel
theorem dX6_then_32 : decode cX6_then 32 = .ok (.getfield 10, 3) := by decide +kernel
theorem dX6_then_35 : decode cX6_then 35 = .ok (.invokevirtual 200, 3) := by decide +kernel
theorem dX6_then_38 : decode cX6_then 38 = .ok (.iconst 0, 1) := by decide +kernel
theorem dX6_then_39 : decode cX6_then 39 = .ok (.istore_n 3, 1) := by decide +kernel
theorem dX6_then_40 : decode cX6_then 40 = .ok (.iload_n 3, 1) := by decide +kernel
theorem dX6_then_41 : decode cX6_then 41 = .ok (.iload_n 2, 1) := by decide +kernel
theorem dX6_then_42 : decode cX6_then 42 = .ok (.if_icmp .ge 16, 3) := by decide +kernel
theorem dX6_then_45 : decode cX6_then 45 = .ok (.aload_n 0, 1) := by decide +kernel
theorem dX6_then_46 : decode cX6_then 46 = .ok (.getfield 19, 3) := by decide +kernel
theorem dX6_then_49 : decode cX6_then 49 = .ok (.invokevirtual 178, 3) := by decide +kernel
theorem dX6_then_52 : decode cX6_then 52 = .ok (.iinc 3 1, 3) := by decide +kernel
theorem dX6_then_55 : decode cX6_then 55 = .ok (.goto (-15), 3) := by decide +kernel
theorem dX6_then_58 : decode cX6_then 58 = .ok (.aload_n 0, 1) := by decide +kernel
theorem dX6_then_59 : decode cX6_then 59 = .ok (.getfield 19, 3) := by decide +kernel
theorem dX6_then_62 : decode cX6_then 62 = .ok (.getfield 77, 3) := by decide +kernel
theorem dX6_then_65 : decode cX6_then 65 = .ok (.iload_n 1, 1) := by decide +kernel
theorem dX6_then_66 : decode cX6_then 66 = .ok (.aaload, 1) := by decide +kernel
theorem dX6_then_67 : decode cX6_then 67 = .ok (.aload_n 0, 1) := by decide +kernel
theorem dX6_then_68 : decode cX6_then 68 = .ok (.getfield 19, 3) := by decide +kernel
theorem dX6_then_71 : decode cX6_then 71 = .ok (.getfield 105, 3) := by decide +kernel
theorem dX6_then_74 : decode cX6_then 74 = .ok (.invokevirtual 108, 3) := by decide +kernel
theorem dX6_then_77 : decode cX6_then 77 = .ok (.ireturn, 1) := by decide +kernel
theorem dX6_odds_0 : decode cX6_odds 0 = .ok (.iload_n 1, 1) := by decide +kernel
theorem dX6_odds_1 : decode cX6_odds 1 = .ok (.iload_n 2, 1) := by decide +kernel
theorem dX6_odds_2 : decode cX6_odds 2 = .ok (.invokestatic 55, 3) := by decide +kernel
theorem dX6_odds_5 : decode cX6_odds 5 = .ok (.ifCond .eq 20, 3) := by decide +kernel
theorem dX6_odds_8 : decode cX6_odds 8 = .ok (.iload_n 3, 1) := by decide +kernel
theorem dX6_odds_9 : decode cX6_odds 9 = .ok (.invokestatic 127, 3) := by decide +kernel
theorem dX6_odds_12 : decode cX6_odds 12 = .ok (.ifCond .eq 13, 3) := by decide +kernel
theorem dX6_odds_15 : decode cX6_odds 15 = .ok (.iload 4, 2) := by decide +kernel
theorem dX6_odds_17 : decode cX6_odds 17 = .ok (.iconst 0, 1) := by decide +kernel
theorem dX6_odds_18 : decode cX6_odds 18 = .ok (.iconst 1, 1) := by decide +kernel
theorem dX6_odds_19 : decode cX6_odds 19 = .ok (.invokestatic 73, 3) := by decide +kernel
theorem dX6_odds_22 : decode cX6_odds 22 = .ok (.ifCond .ne 9, 3) := by decide +kernel
theorem dX6_odds_25 : decode cX6_odds 25 = .ok (.aload_n 0, 1) := by decide +kernel
theorem dX6_odds_26 : decode cX6_odds 26 = .ok (.iconst 1, 1) := by decide +kernel
theorem dX6_odds_27 : decode cX6_odds 27 = .ok (.invokevirtual 59, 3) := by decide +kernel
theorem dX6_odds_30 : decode cX6_odds 30 = .ok (.ireturn, 1) := by decide +kernel
theorem dX6_odds_31 : decode cX6_odds 31 = .ok (.iconst 0, 1) := by decide +kernel
theorem dX6_odds_32 : decode cX6_odds 32 = .ok (.istore 5, 2) := by decide +kernel
theorem dX6_odds_34 : decode cX6_odds 34 = .ok (.iconst 0, 1) := by decide +kernel
theorem dX6_odds_35 : decode cX6_odds 35 = .ok (.istore 6, 2) := by decide +kernel
theorem dX6_odds_37 : decode cX6_odds 37 = .ok (.iload 6, 2) := by decide +kernel
theorem dX6_odds_39 : decode cX6_odds 39 = .ok (.bipush 9, 2) := by decide +kernel
theorem dX6_odds_41 : decode cX6_odds 41 = .ok (.if_icmp .gt 59, 3) := by decide +kernel
theorem dX6_odds_44 : decode cX6_odds 44 = .ok (.aload_n 0, 1) := by decide +kernel
theorem dX6_odds_45 : decode cX6_odds 45 = .ok (.getfield 19, 3) := by decide +kernel
theorem dX6_odds_48 : decode cX6_odds 48 = .ok (.aload_n 0, 1) := by decide +kernel
theorem dX6_odds_49 : decode cX6_odds 49 = .ok (.getfield 10, 3) := by decide +kernel
theorem dX6_odds_52 : decode cX6_odds 52 = .ok (.invokevirtual 200, 3) := by decide +kernel
theorem dX6_odds_55 : decode cX6_odds 55 = .ok (.aload_n 0, 1) := by decide +kernel
theorem dX6_odds_56 : decode cX6_odds 56 = .ok (.getfield 19, 3) := by decide +kernel
theorem dX6_odds_59 : decode cX6_odds 59 = .ok (.iload 6, 2) := by decide +kernel
theorem dX6_odds_61 : decode cX6_odds 61 = .ok (.putfield 124, 3) := by decide +kernel
theorem dX6_odds_64 : decode cX6_odds 64 = .ok (.aload_n 0, 1) := by decide +kernel
theorem dX6_odds_65 : decode cX6_odds 65 = .ok (.getfield 19, 3) := by decide +kernel
theorem dX6_odds_68 : decode cX6_odds 68 = .ok (.invokevirtual 178, 3) := by decide +kernel
theorem dX6_odds_71 : decode cX6_odds 71 = .ok (.aload_n 0, 1) := by decide +kernel
theorem dX6_odds_72 : decode cX6_odds 72 = .ok (.getfield 19, 3) := by decide +kernel
theorem dX6_odds_75 : decode cX6_odds 75 = .ok (.iload_n 1, 1) := by decide +kernel
theorem dX6_odds_76 : decode cX6_odds 76 = .ok (.iload_n 2, 1) := by decide +kernel
theorem dX6_odds_77 : decode cX6_odds 77 = .ok (.aload_n 0, 1) := by decide +kernel
theorem dX6_odds_78 : decode cX6_odds 78 = .ok (.getfield 19, 3) := by decide +kernel
theorem dX6_odds_81 : decode cX6_odds 81 = .ok (.iload_n 3, 1) := by decide +kernel
theorem dX6_odds_82 : decode cX6_odds 82 = .ok (.invokevirtual 190, 3) := by decide +kernel
theorem dX6_odds_85 : decode cX6_odds 85 = .ok (.invokevirtual 197, 3) := by decide +kernel
theorem dX6_odds_88 : decode cX6_odds 88 = .ok (.ifCond .eq 6, 3) := by decide +kernel
theorem dX6_odds_91 : decode cX6_odds 91 = .ok (.iinc 5 1, 3) := by decide +kernel
theorem dX6_odds_94 : decode cX6_odds 94 = .ok (.iinc 6 1, 3) := by decide +kernel
theorem dX6_odds_97 : decode cX6_odds 97 = .ok (.goto (-60), 3) := by decide +kernel
theorem dX6_odds_100 : decode cX6_odds 100 = .ok (.bipush 10, 2) := by decide +kernel
theorem dX6_odds_102 : decode cX6_odds 102 = .ok (.istore 6, 2) := by decide +kernel
theorem dX6_odds_104 : decode cX6_odds 104 = .ok (.iconst 1, 1) := by decide +kernel
theorem dX6_odds_105 : decode cX6_odds 105 = .ok (.iload 5, 2) := by decide +kernel
theorem dX6_odds_107 : decode cX6_odds 107 = .ok (.iload 6, 2) := by decide +kernel
theorem dX6_odds_109 : decode cX6_odds 109 = .ok (.invokestatic 215, 3) := by decide +kernel
theorem dX6_odds_112 : decode cX6_odds 112 = .ok (.invokestatic 218, 3) := by decide +kernel
theorem dX6_odds_115 : decode cX6_odds 115 = .ok (.istore 7, 2) := by decide +kernel
theorem dX6_odds_117 : decode cX6_odds 117 = .ok (.iload 4, 2) := by decide +kernel
theorem dX6_odds_119 : decode cX6_odds 119 = .ok (.ifCond .ne 11, 3) := by decide +kernel
theorem dX6_odds_122 : decode cX6_odds 122 = .ok (.iload 5, 2) := by decide +kernel
theorem dX6_odds_124 : decode cX6_odds 124 = .ok (.iload 7, 2) := by decide +kernel
theorem dX6_odds_126 : decode cX6_odds 126 = .ok (.idiv, 1) := by decide +kernel
theorem dX6_odds_127 : decode cX6_odds 127 = .ok (.goto 8, 3) := by decide +kernel
theorem dX6_odds_130 : decode cX6_odds 130 = .ok (.iload 6, 2) := by decide +kernel
theorem dX6_odds_132 : decode cX6_odds 132 = .ok (.iload 7, 2) := by decide +kernel
theorem dX6_odds_134 : decode cX6_odds 134 = .ok (.idiv, 1) := by decide +kernel
theorem dX6_odds_135 : decode cX6_odds 135 = .ok (.ireturn, 1) := by decide +kernel
theorem dX6_fits_0 : decode cX6_fits 0 = .ok (.iload_n 1, 1) := by decide +kernel
theorem dX6_fits_1 : decode cX6_fits 1 = .ok (.invokestatic 223, 3) := by decide +kernel
theorem dX6_fits_4 : decode cX6_fits 4 = .ok (.ifCond .ne 9, 3) := by decide +kernel
theorem dX6_fits_7 : decode cX6_fits 7 = .ok (.aload_n 0, 1) := by decide +kernel
theorem dX6_fits_8 : decode cX6_fits 8 = .ok (.iconst 1, 1) := by decide +kernel
theorem dX6_fits_9 : decode cX6_fits 9 = .ok (.invokevirtual 59, 3) := by decide +kernel
theorem dX6_fits_12 : decode cX6_fits 12 = .ok (.ireturn, 1) := by decide +kernel
theorem dX6_fits_13 : decode cX6_fits 13 = .ok (.aload_n 0, 1) := by decide +kernel
theorem dX6_fits_14 : decode cX6_fits 14 = .ok (.getfield 38, 3) := by decide +kernel
theorem dX6_fits_17 : decode cX6_fits 17 = .ok (.iload_n 1, 1) := by decide +kernel
theorem dX6_fits_18 : decode cX6_fits 18 = .ok (.aaload, 1) := by decide +kernel
theorem dX6_fits_19 : decode cX6_fits 19 = .ok (.astore_n 2, 1) := by decide +kernel
theorem dX6_fits_20 : decode cX6_fits 20 = .ok (.aload_n 2, 1) := by decide +kernel
theorem dX6_fits_21 : decode cX6_fits 21 = .ok (.invokevirtual 226, 3) := by decide +kernel
theorem dX6_fits_24 : decode cX6_fits 24 = .ok (.ifCond .eq 9, 3) := by decide +kernel
theorem dX6_fits_27 : decode cX6_fits 27 = .ok (.aload_n 0, 1) := by decide +kernel
theorem dX6_fits_28 : decode cX6_fits 28 = .ok (.iconst 2, 1) := by decide +kernel
theorem dX6_fits_29 : decode cX6_fits 29 = .ok (.invokevirtual 59, 3) := by decide +kernel
theorem dX6_fits_32 : decode cX6_fits 32 = .ok (.ireturn, 1) := by decide +kernel
theorem dX6_fits_33 : decode cX6_fits 33 = .ok (.aload_n 0, 1) := by decide +kernel
theorem dX6_fits_34 : decode cX6_fits 34 = .ok (.getfield 19, 3) := by decide +kernel
theorem dX6_fits_37 : decode cX6_fits 37 = .ok (.aload_n 0, 1) := by decide +kernel
theorem dX6_fits_38 : decode cX6_fits 38 = .ok (.getfield 10, 3) := by decide +kernel
theorem dX6_fits_41 : decode cX6_fits 41 = .ok (.invokevirtual 200, 3) := by decide +kernel
theorem dX6_fits_44 : decode cX6_fits 44 = .ok (.iconst 0, 1) := by decide +kernel
theorem dX6_fits_45 : decode cX6_fits 45 = .ok (.istore_n 3, 1) := by decide +kernel
theorem dX6_fits_46 : decode cX6_fits 46 = .ok (.iload_n 3, 1) := by decide +kernel
theorem dX6_fits_47 : decode cX6_fits 47 = .ok (.bipush 60, 2) := by decide +kernel
theorem dX6_fits_49 : decode cX6_fits 49 = .ok (.if_icmp .gt 33, 3) := by decide +kernel
theorem dX6_fits_52 : decode cX6_fits 52 = .ok (.aload_n 0, 1) := by decide +kernel
theorem dX6_fits_53 : decode cX6_fits 53 = .ok (.getfield 19, 3) := by decide +kernel
theorem dX6_fits_56 : decode cX6_fits 56 = .ok (.aload_n 2, 1) := by decide +kernel
theorem dX6_fits_57 : decode cX6_fits 57 = .ok (.invokevirtual 230, 3) := by decide +kernel
theorem dX6_fits_60 : decode cX6_fits 60 = .ok (.aload_n 2, 1) := by decide +kernel
theorem dX6_fits_61 : decode cX6_fits 61 = .ok (.getfield 234, 3) := by decide +kernel
theorem dX6_fits_64 : decode cX6_fits 64 = .ok (.if_icmp .ne 5, 3) := by decide +kernel
theorem dX6_fits_67 : decode cX6_fits 67 = .ok (.iload_n 3, 1) := by decide +kernel
theorem dX6_fits_68 : decode cX6_fits 68 = .ok (.ireturn, 1) := by decide +kernel
theorem dX6_fits_69 : decode cX6_fits 69 = .ok (.aload_n 0, 1) := by decide +kernel
theorem dX6_fits_70 : decode cX6_fits 70 = .ok (.getfield 19, 3) := by decide +kernel
theorem dX6_fits_73 : decode cX6_fits 73 = .ok (.invokevirtual 178, 3) := by decide +kernel
theorem dX6_fits_76 : decode cX6_fits 76 = .ok (.iinc 3 1, 3) := by decide +kernel
theorem dX6_fits_79 : decode cX6_fits 79 = .ok (.goto (-33), 3) := by decide +kernel
theorem dX6_fits_82 : decode cX6_fits 82 = .ok (.aload_n 0, 1) := by decide +kernel
theorem dX6_fits_83 : decode cX6_fits 83 = .ok (.iconst 2, 1) := by decide +kernel
theorem dX6_fits_84 : decode cX6_fits 84 = .ok (.invokevirtual 59, 3) := by decide +kernel
theorem dX6_fits_87 : decode cX6_fits 87 = .ok (.ireturn, 1) := by decide +kernel
theorem dX6_voice_0 : decode cX6_voice 0 = .ok (.aload_n 0, 1) := by decide +kernel
theorem dX6_voice_1 : decode cX6_voice 1 = .ok (.getfield 10, 3) := by decide +kernel
theorem dX6_voice_4 : decode cX6_voice 4 = .ok (.iload_n 1, 1) := by decide +kernel
theorem dX6_voice_5 : decode cX6_voice 5 = .ok (.invokevirtual 70, 3) := by decide +kernel
theorem dX6_voice_8 : decode cX6_voice 8 = .ok (.ifCond .eq 12, 3) := by decide +kernel
theorem dX6_voice_11 : decode cX6_voice 11 = .ok (.iload_n 2, 1) := by decide +kernel
theorem dX6_voice_12 : decode cX6_voice 12 = .ok (.iconst 0, 1) := by decide +kernel
theorem dX6_voice_13 : decode cX6_voice 13 = .ok (.iconst 3, 1) := by decide +kernel
theorem dX6_voice_14 : decode cX6_voice 14 = .ok (.invokestatic 73, 3) := by decide +kernel
theorem dX6_voice_17 : decode cX6_voice 17 = .ok (.ifCond .ne 9, 3) := by decide +kernel
theorem dX6_voice_20 : decode cX6_voice 20 = .ok (.aload_n 0, 1) := by decide +kernel
theorem dX6_voice_21 : decode cX6_voice 21 = .ok (.iconst 1, 1) := by decide +kernel
theorem dX6_voice_22 : decode cX6_voice 22 = .ok (.invokevirtual 59, 3) := by decide +kernel
theorem dX6_voice_25 : decode cX6_voice 25 = .ok (.ireturn, 1) := by decide +kernel
theorem dX6_voice_26 : decode cX6_voice 26 = .ok (.aload_n 0, 1) := by decide +kernel
theorem dX6_voice_27 : decode cX6_voice 27 = .ok (.getfield 32, 3) := by decide +kernel
theorem dX6_voice_30 : decode cX6_voice 30 = .ok (.aload_n 0, 1) := by decide +kernel
theorem dX6_voice_31 : decode cX6_voice 31 = .ok (.getfield 10, 3) := by decide +kernel
theorem dX6_voice_34 : decode cX6_voice 34 = .ok (.getfield 77, 3) := by decide +kernel
theorem dX6_voice_37 : decode cX6_voice 37 = .ok (.iload_n 1, 1) := by decide +kernel
theorem dX6_voice_38 : decode cX6_voice 38 = .ok (.aaload, 1) := by decide +kernel
theorem dX6_voice_39 : decode cX6_voice 39 = .ok (.iload_n 1, 1) := by decide +kernel
theorem dX6_voice_40 : decode cX6_voice 40 = .ok (.iload_n 2, 1) := by decide +kernel
theorem dX6_voice_41 : decode cX6_voice 41 = .ok (.iload_n 3, 1) := by decide +kernel
theorem dX6_voice_42 : decode cX6_voice 42 = .ok (.invokevirtual 237, 3) := by decide +kernel
theorem dX6_voice_45 : decode cX6_voice 45 = .ok (.istore 4, 2) := by decide +kernel
theorem dX6_voice_47 : decode cX6_voice 47 = .ok (.aload_n 0, 1) := by decide +kernel
theorem dX6_voice_48 : decode cX6_voice 48 = .ok (.getfield 32, 3) := by decide +kernel
theorem dX6_voice_51 : decode cX6_voice 51 = .ok (.getfield 241, 3) := by decide +kernel
theorem dX6_voice_54 : decode cX6_voice 54 = .ok (.ifCond .eq 12, 3) := by decide +kernel
theorem dX6_voice_57 : decode cX6_voice 57 = .ok (.aload_n 0, 1) := by decide +kernel
theorem dX6_voice_58 : decode cX6_voice 58 = .ok (.bipush 6, 2) := by decide +kernel
theorem dX6_voice_60 : decode cX6_voice 60 = .ok (.invokevirtual 59, 3) := by decide +kernel
theorem dX6_voice_63 : decode cX6_voice 63 = .ok (.goto 5, 3) := by decide +kernel
theorem dX6_voice_66 : decode cX6_voice 66 = .ok (.iload 4, 2) := by decide +kernel
theorem dX6_voice_68 : decode cX6_voice 68 = .ok (.ireturn, 1) := by decide +kernel
theorem dX6_body_0 : decode cX6_body 0 = .ok (.iload_n 1, 1) := by decide +kernel
theorem dX6_body_1 : decode cX6_body 1 = .ok (.iconst 0, 1) := by decide +kernel
theorem dX6_body_2 : decode cX6_body 2 = .ok (.aload_n 0, 1) := by decide +kernel
theorem dX6_body_3 : decode cX6_body 3 = .ok (.getfield 32, 3) := by decide +kernel
theorem dX6_body_6 : decode cX6_body 6 = .ok (.getfield 244, 3) := by decide +kernel
theorem dX6_body_9 : decode cX6_body 9 = .ok (.iconst 1, 1) := by decide +kernel
theorem dX6_body_10 : decode cX6_body 10 = .ok (.isub, 1) := by decide +kernel
theorem dX6_body_11 : decode cX6_body 11 = .ok (.invokestatic 73, 3) := by decide +kernel
theorem dX6_body_14 : decode cX6_body 14 = .ok (.ifCond .ne 9, 3) := by decide +kernel
theorem dX6_body_17 : decode cX6_body 17 = .ok (.aload_n 0, 1) := by decide +kernel
theorem dX6_body_18 : decode cX6_body 18 = .ok (.iconst 2, 1) := by decide +kernel
theorem dX6_body_19 : decode cX6_body 19 = .ok (.invokevirtual 59, 3) := by decide +kernel
theorem dX6_body_22 : decode cX6_body 22 = .ok (.ireturn, 1) := by decide +kernel
theorem dX6_body_23 : decode cX6_body 23 = .ok (.aload_n 0, 1) := by decide +kernel
theorem dX6_body_24 : decode cX6_body 24 = .ok (.getfield 32, 3) := by decide +kernel
theorem dX6_body_27 : decode cX6_body 27 = .ok (.getfield 247, 3) := by decide +kernel
theorem dX6_body_30 : decode cX6_body 30 = .ok (.iload_n 1, 1) := by decide +kernel
theorem dX6_body_31 : decode cX6_body 31 = .ok (.iaload, 1) := by decide +kernel
theorem dX6_body_32 : decode cX6_body 32 = .ok (.ireturn, 1) := by decide +kernel
theorem dX6_sheet_0 : decode cX6_sheet 0 = .ok (.iload_n 1, 1) := by decide +kernel
theorem dX6_sheet_1 : decode cX6_sheet 1 = .ok (.invokestatic 223, 3) := by decide +kernel
theorem dX6_sheet_4 : decode cX6_sheet 4 = .ok (.ifCond .eq 25, 3) := by decide +kernel
theorem dX6_sheet_7 : decode cX6_sheet 7 = .ok (.iload_n 2, 1) := by decide +kernel
theorem dX6_sheet_8 : decode cX6_sheet 8 = .ok (.ifCond .eq 27, 3) := by decide +kernel
theorem dX6_sheet_11 : decode cX6_sheet 11 = .ok (.iload_n 2, 1) := by decide +kernel
theorem dX6_sheet_12 : decode cX6_sheet 12 = .ok (.bipush 8, 2) := by decide +kernel
theorem dX6_sheet_14 : decode cX6_sheet 14 = .ok (.if_icmp .eq 21, 3) := by decide +kernel
theorem dX6_sheet_17 : decode cX6_sheet 17 = .ok (.iload_n 2, 1) := by decide +kernel
theorem dX6_sheet_18 : decode cX6_sheet 18 = .ok (.bipush 16, 2) := by decide +kernel
theorem dX6_sheet_20 : decode cX6_sheet 20 = .ok (.if_icmp .eq 15, 3) := by decide +kernel
theorem dX6_sheet_23 : decode cX6_sheet 23 = .ok (.iload_n 2, 1) := by decide +kernel
theorem dX6_sheet_24 : decode cX6_sheet 24 = .ok (.bipush 32, 2) := by decide +kernel
theorem dX6_sheet_26 : decode cX6_sheet 26 = .ok (.if_icmp .eq 9, 3) := by decide +kernel
theorem dX6_sheet_29 : decode cX6_sheet 29 = .ok (.aload_n 0, 1) := by decide +kernel
theorem dX6_sheet_30 : decode cX6_sheet 30 = .ok (.iconst 1, 1) := by decide +kernel
theorem dX6_sheet_31 : decode cX6_sheet 31 = .ok (.invokevirtual 59, 3) := by decide +kernel
theorem dX6_sheet_34 : decode cX6_sheet 34 = .ok (.ireturn, 1) := by decide +kernel
theorem dX6_sheet_35 : decode cX6_sheet 35 = .ok (.iload_n 2, 1) := by decide +kernel
theorem dX6_sheet_36 : decode cX6_sheet 36 = .ok (.ifCond .eq 25, 3) := by decide +kernel
theorem dX6_sheet_39 : decode cX6_sheet 39 = .ok (.iload_n 3, 1) := by decide +kernel
theorem dX6_sheet_40 : decode cX6_sheet 40 = .ok (.ifCond .ge 9, 3) := by decide +kernel
theorem dX6_sheet_43 : decode cX6_sheet 43 = .ok (.aload_n 0, 1) := by decide +kernel
theorem dX6_sheet_44 : decode cX6_sheet 44 = .ok (.iconst 3, 1) := by decide +kernel
theorem dX6_sheet_45 : decode cX6_sheet 45 = .ok (.invokevirtual 59, 3) := by decide +kernel
theorem dX6_sheet_48 : decode cX6_sheet 48 = .ok (.ireturn, 1) := by decide +kernel
theorem dX6_sheet_49 : decode cX6_sheet 49 = .ok (.iload_n 3, 1) := by decide +kernel
theorem dX6_sheet_50 : decode cX6_sheet 50 = .ok (.bipush 24, 2) := by decide +kernel
theorem dX6_sheet_52 : decode cX6_sheet 52 = .ok (.if_icmp .le 9, 3) := by decide +kernel
theorem dX6_sheet_55 : decode cX6_sheet 55 = .ok (.aload_n 0, 1) := by decide +kernel
theorem dX6_sheet_56 : decode cX6_sheet 56 = .ok (.iconst 1, 1) := by decide +kernel
theorem dX6_sheet_57 : decode cX6_sheet 57 = .ok (.invokevirtual 59, 3) := by decide +kernel
theorem dX6_sheet_60 : decode cX6_sheet 60 = .ok (.ireturn, 1) := by decide +kernel
theorem dX6_sheet_61 : decode cX6_sheet 61 = .ok (.aload_n 0, 1) := by decide +kernel
theorem dX6_sheet_62 : decode cX6_sheet 62 = .ok (.getfield 38, 3) := by decide +kernel
theorem dX6_sheet_65 : decode cX6_sheet 65 = .ok (.iload_n 1, 1) := by decide +kernel
theorem dX6_sheet_66 : decode cX6_sheet 66 = .ok (.aaload, 1) := by decide +kernel
theorem dX6_sheet_67 : decode cX6_sheet 67 = .ok (.iload_n 2, 1) := by decide +kernel
theorem dX6_sheet_68 : decode cX6_sheet 68 = .ok (.iload_n 2, 1) := by decide +kernel
theorem dX6_sheet_69 : decode cX6_sheet 69 = .ok (.ifCond .ne 7, 3) := by decide +kernel
theorem dX6_sheet_72 : decode cX6_sheet 72 = .ok (.iconst 0, 1) := by decide +kernel
theorem dX6_sheet_73 : decode cX6_sheet 73 = .ok (.goto 4, 3) := by decide +kernel
theorem dX6_sheet_76 : decode cX6_sheet 76 = .ok (.iload_n 3, 1) := by decide +kernel
theorem dX6_sheet_77 : decode cX6_sheet 77 = .ok (.invokevirtual 250, 3) := by decide +kernel
theorem dX6_sheet_80 : decode cX6_sheet 80 = .ok (.iconst 1, 1) := by decide +kernel
theorem dX6_sheet_81 : decode cX6_sheet 81 = .ok (.ireturn, 1) := by decide +kernel
theorem dX6_put_0 : decode cX6_put 0 = .ok (.iload_n 1, 1) := by decide +kernel
theorem dX6_put_1 : decode cX6_put 1 = .ok (.invokestatic 223, 3) := by decide +kernel
theorem dX6_put_4 : decode cX6_put 4 = .ok (.ifCond .ne 9, 3) := by decide +kernel
theorem dX6_put_7 : decode cX6_put 7 = .ok (.aload_n 0, 1) := by decide +kernel
theorem dX6_put_8 : decode cX6_put 8 = .ok (.iconst 1, 1) := by decide +kernel
theorem dX6_put_9 : decode cX6_put 9 = .ok (.invokevirtual 59, 3) := by decide +kernel
theorem dX6_put_12 : decode cX6_put 12 = .ok (.ireturn, 1) := by decide +kernel
theorem dX6_put_13 : decode cX6_put 13 = .ok (.aload_n 0, 1) := by decide +kernel
theorem dX6_put_14 : decode cX6_put 14 = .ok (.getfield 38, 3) := by decide +kernel
theorem dX6_put_17 : decode cX6_put 17 = .ok (.iload_n 1, 1) := by decide +kernel
theorem dX6_put_18 : decode cX6_put 18 = .ok (.aaload, 1) := by decide +kernel
theorem dX6_put_19 : decode cX6_put 19 = .ok (.astore 4, 2) := by decide +kernel
theorem dX6_put_21 : decode cX6_put 21 = .ok (.aload 4, 2) := by decide +kernel
theorem dX6_put_23 : decode cX6_put 23 = .ok (.invokevirtual 226, 3) := by decide +kernel
theorem dX6_put_26 : decode cX6_put 26 = .ok (.ifCond .eq 9, 3) := by decide +kernel
theorem dX6_put_29 : decode cX6_put 29 = .ok (.aload_n 0, 1) := by decide +kernel
theorem dX6_put_30 : decode cX6_put 30 = .ok (.iconst 2, 1) := by decide +kernel
theorem dX6_put_31 : decode cX6_put 31 = .ok (.invokevirtual 59, 3) := by decide +kernel
theorem dX6_put_34 : decode cX6_put 34 = .ok (.ireturn, 1) := by decide +kernel
theorem dX6_put_35 : decode cX6_put 35 = .ok (.iload_n 2, 1) := by decide +kernel
theorem dX6_put_36 : decode cX6_put 36 = .ok (.iconst 0, 1) := by decide +kernel
theorem dX6_put_37 : decode cX6_put 37 = .ok (.aload 4, 2) := by decide +kernel
theorem dX6_put_39 : decode cX6_put 39 = .ok (.getfield 234, 3) := by decide +kernel
theorem dX6_put_42 : decode cX6_put 42 = .ok (.iconst 1, 1) := by decide +kernel
theorem dX6_put_43 : decode cX6_put 43 = .ok (.isub, 1) := by decide +kernel
theorem dX6_put_44 : decode cX6_put 44 = .ok (.invokestatic 73, 3) := by decide +kernel
theorem dX6_put_47 : decode cX6_put 47 = .ok (.ifCond .ne 9, 3) := by decide +kernel
theorem dX6_put_50 : decode cX6_put 50 = .ok (.aload_n 0, 1) := by decide +kernel
theorem dX6_put_51 : decode cX6_put 51 = .ok (.iconst 1, 1) := by decide +kernel
theorem dX6_put_52 : decode cX6_put 52 = .ok (.invokevirtual 59, 3) := by decide +kernel
theorem dX6_put_55 : decode cX6_put 55 = .ok (.ireturn, 1) := by decide +kernel
theorem dX6_put_56 : decode cX6_put 56 = .ok (.aload 4, 2) := by decide +kernel
theorem dX6_put_58 : decode cX6_put 58 = .ok (.iload_n 2, 1) := by decide +kernel
theorem dX6_put_59 : decode cX6_put 59 = .ok (.iload_n 3, 1) := by decide +kernel
theorem dX6_put_60 : decode cX6_put 60 = .ok (.invokevirtual 254, 3) := by decide +kernel
theorem dX6_put_63 : decode cX6_put 63 = .ok (.iconst 1, 1) := by decide +kernel
theorem dX6_put_64 : decode cX6_put 64 = .ok (.ireturn, 1) := by decide +kernel
theorem dX6_move_0 : decode cX6_move 0 = .ok (.iload_n 1, 1) := by decide +kernel
theorem dX6_move_1 : decode cX6_move 1 = .ok (.invokestatic 223, 3) := by decide +kernel
theorem dX6_move_4 : decode cX6_move 4 = .ok (.ifCond .eq 10, 3) := by decide +kernel
theorem dX6_move_7 : decode cX6_move 7 = .ok (.iload_n 3, 1) := by decide +kernel
theorem dX6_move_8 : decode cX6_move 8 = .ok (.invokestatic 223, 3) := by decide +kernel
theorem dX6_move_11 : decode cX6_move 11 = .ok (.ifCond .ne 9, 3) := by decide +kernel
theorem dX6_move_14 : decode cX6_move 14 = .ok (.aload_n 0, 1) := by decide +kernel
theorem dX6_move_15 : decode cX6_move 15 = .ok (.iconst 1, 1) := by decide +kernel
theorem dX6_move_16 : decode cX6_move 16 = .ok (.invokevirtual 59, 3) := by decide +kernel
theorem dX6_move_19 : decode cX6_move 19 = .ok (.ireturn, 1) := by decide +kernel
theorem dX6_move_20 : decode cX6_move 20 = .ok (.aload_n 0, 1) := by decide +kernel
theorem dX6_move_21 : decode cX6_move 21 = .ok (.getfield 38, 3) := by decide +kernel
theorem dX6_move_24 : decode cX6_move 24 = .ok (.iload_n 1, 1) := by decide +kernel
theorem dX6_move_25 : decode cX6_move 25 = .ok (.aaload, 1) := by decide +kernel
theorem dX6_move_26 : decode cX6_move 26 = .ok (.astore 6, 2) := by decide +kernel
theorem dX6_move_28 : decode cX6_move 28 = .ok (.aload_n 0, 1) := by decide +kernel
theorem dX6_move_29 : decode cX6_move 29 = .ok (.getfield 38, 3) := by decide +kernel
theorem dX6_move_32 : decode cX6_move 32 = .ok (.iload_n 3, 1) := by decide +kernel
theorem dX6_move_33 : decode cX6_move 33 = .ok (.aaload, 1) := by decide +kernel
theorem dX6_move_34 : decode cX6_move 34 = .ok (.astore 7, 2) := by decide +kernel
theorem dX6_move_36 : decode cX6_move 36 = .ok (.aload 6, 2) := by decide +kernel
theorem dX6_move_38 : decode cX6_move 38 = .ok (.invokevirtual 226, 3) := by decide +kernel
theorem dX6_move_41 : decode cX6_move 41 = .ok (.ifCond .ne 11, 3) := by decide +kernel
theorem dX6_move_44 : decode cX6_move 44 = .ok (.aload 7, 2) := by decide +kernel
theorem dX6_move_46 : decode cX6_move 46 = .ok (.invokevirtual 226, 3) := by decide +kernel
theorem dX6_move_49 : decode cX6_move 49 = .ok (.ifCond .eq 9, 3) := by decide +kernel
theorem dX6_move_52 : decode cX6_move 52 = .ok (.aload_n 0, 1) := by decide +kernel
theorem dX6_move_53 : decode cX6_move 53 = .ok (.iconst 2, 1) := by decide +kernel
theorem dX6_move_54 : decode cX6_move 54 = .ok (.invokevirtual 59, 3) := by decide +kernel
theorem dX6_move_57 : decode cX6_move 57 = .ok (.ireturn, 1) := by decide +kernel
theorem dX6_move_58 : decode cX6_move 58 = .ok (.aload 6, 2) := by decide +kernel
theorem dX6_move_60 : decode cX6_move 60 = .ok (.getfield 256, 3) := by decide +kernel
theorem dX6_move_63 : decode cX6_move 63 = .ok (.aload 7, 2) := by decide +kernel
theorem dX6_move_65 : decode cX6_move 65 = .ok (.getfield 256, 3) := by decide +kernel
theorem dX6_move_68 : decode cX6_move 68 = .ok (.if_icmp .eq 9, 3) := by decide +kernel
theorem dX6_move_71 : decode cX6_move 71 = .ok (.aload_n 0, 1) := by decide +kernel
theorem dX6_move_72 : decode cX6_move 72 = .ok (.iconst 5, 1) := by decide +kernel
theorem dX6_move_73 : decode cX6_move 73 = .ok (.invokevirtual 59, 3) := by decide +kernel
theorem dX6_move_76 : decode cX6_move 76 = .ok (.ireturn, 1) := by decide +kernel
theorem dX6_move_77 : decode cX6_move 77 = .ok (.aload 6, 2) := by decide +kernel
theorem dX6_move_79 : decode cX6_move 79 = .ok (.iload_n 2, 1) := by decide +kernel
theorem dX6_move_80 : decode cX6_move 80 = .ok (.iload 5, 2) := by decide +kernel
theorem dX6_move_82 : decode cX6_move 82 = .ok (.invokevirtual 259, 3) := by decide +kernel
theorem dX6_move_85 : decode cX6_move 85 = .ok (.ifCond .eq 15, 3) := by decide +kernel
theorem dX6_move_88 : decode cX6_move 88 = .ok (.aload 7, 2) := by decide +kernel
theorem dX6_move_90 : decode cX6_move 90 = .ok (.iload 4, 2) := by decide +kernel
theorem dX6_move_92 : decode cX6_move 92 = .ok (.iload 5, 2) := by decide +kernel
theorem dX6_move_94 : decode cX6_move 94 = .ok (.invokevirtual 259, 3) := by decide +kernel
theorem dX6_move_97 : decode cX6_move 97 = .ok (.ifCond .ne 9, 3) := by decide +kernel
theorem dX6_move_100 : decode cX6_move 100 = .ok (.aload_n 0, 1) := by decide +kernel
theorem dX6_move_101 : decode cX6_move 101 = .ok (.iconst 1, 1) := by decide +kernel
theorem dX6_move_102 : decode cX6_move 102 = .ok (.invokevirtual 59, 3) := by decide +kernel
theorem dX6_move_105 : decode cX6_move 105 = .ok (.ireturn, 1) := by decide +kernel
theorem dX6_move_106 : decode cX6_move 106 = .ok (.aload 6, 2) := by decide +kernel
theorem dX6_move_108 : decode cX6_move 108 = .ok (.getfield 262, 3) := by decide +kernel
theorem dX6_move_111 : decode cX6_move 111 = .ok (.iload_n 2, 1) := by decide +kernel
theorem dX6_move_112 : decode cX6_move 112 = .ok (.aload 7, 2) := by decide +kernel
theorem dX6_move_114 : decode cX6_move 114 = .ok (.getfield 262, 3) := by decide +kernel
theorem dX6_move_117 : decode cX6_move 117 = .ok (.iload 4, 2) := by decide +kernel
theorem dX6_move_119 : decode cX6_move 119 = .ok (.iload 5, 2) := by decide +kernel
theorem dX6_move_121 : decode cX6_move 121 = .ok (.invokestatic 265, 3) := by decide +kernel
theorem dX6_move_124 : decode cX6_move 124 = .ok (.iload 5, 2) := by decide +kernel
theorem dX6_move_126 : decode cX6_move 126 = .ok (.ireturn, 1) := by decide +kernel
theorem dX6_soaks_0 : decode cX6_soaks 0 = .ok (.iload_n 1, 1) := by decide +kernel
theorem dX6_soaks_1 : decode cX6_soaks 1 = .ok (.invokestatic 223, 3) := by decide +kernel
theorem dX6_soaks_4 : decode cX6_soaks 4 = .ok (.ifCond .ne 9, 3) := by decide +kernel
theorem dX6_soaks_7 : decode cX6_soaks 7 = .ok (.aload_n 0, 1) := by decide +kernel
theorem dX6_soaks_8 : decode cX6_soaks 8 = .ok (.iconst 1, 1) := by decide +kernel
theorem dX6_soaks_9 : decode cX6_soaks 9 = .ok (.invokevirtual 59, 3) := by decide +kernel
theorem dX6_soaks_12 : decode cX6_soaks 12 = .ok (.ireturn, 1) := by decide +kernel
theorem dX6_soaks_13 : decode cX6_soaks 13 = .ok (.aload_n 0, 1) := by decide +kernel
theorem dX6_soaks_14 : decode cX6_soaks 14 = .ok (.getfield 38, 3) := by decide +kernel
theorem dX6_soaks_17 : decode cX6_soaks 17 = .ok (.iload_n 1, 1) := by decide +kernel
theorem dX6_soaks_18 : decode cX6_soaks 18 = .ok (.aaload, 1) := by decide +kernel
theorem dX6_soaks_19 : decode cX6_soaks 19 = .ok (.astore_n 2, 1) := by decide +kernel
theorem dX6_soaks_20 : decode cX6_soaks 20 = .ok (.aload_n 2, 1) := by decide +kernel
theorem dX6_soaks_21 : decode cX6_soaks 21 = .ok (.invokevirtual 226, 3) := by decide +kernel
theorem dX6_soaks_24 : decode cX6_soaks 24 = .ok (.ifCond .eq 9, 3) := by decide +kernel
theorem dX6_soaks_27 : decode cX6_soaks 27 = .ok (.aload_n 0, 1) := by decide +kernel
theorem dX6_soaks_28 : decode cX6_soaks 28 = .ok (.iconst 2, 1) := by decide +kernel
theorem dX6_soaks_29 : decode cX6_soaks 29 = .ok (.invokevirtual 59, 3) := by decide +kernel
theorem dX6_soaks_32 : decode cX6_soaks 32 = .ok (.ireturn, 1) := by decide +kernel
theorem dX6_soaks_33 : decode cX6_soaks 33 = .ok (.iconst 0, 1) := by decide +kernel
theorem dX6_soaks_34 : decode cX6_soaks 34 = .ok (.istore_n 3, 1) := by decide +kernel
theorem dX6_soaks_35 : decode cX6_soaks 35 = .ok (.iconst 0, 1) := by decide +kernel
theorem dX6_soaks_36 : decode cX6_soaks 36 = .ok (.istore 4, 2) := by decide +kernel
theorem dX6_soaks_38 : decode cX6_soaks 38 = .ok (.iload 4, 2) := by decide +kernel
theorem dX6_soaks_40 : decode cX6_soaks 40 = .ok (.aload_n 2, 1) := by decide +kernel
theorem dX6_soaks_41 : decode cX6_soaks 41 = .ok (.getfield 234, 3) := by decide +kernel
theorem dX6_soaks_44 : decode cX6_soaks 44 = .ok (.if_icmp .ge 60, 3) := by decide +kernel
theorem dX6_soaks_47 : decode cX6_soaks 47 = .ok (.aload_n 0, 1) := by decide +kernel
theorem dX6_soaks_48 : decode cX6_soaks 48 = .ok (.getfield 10, 3) := by decide +kernel
theorem dX6_soaks_51 : decode cX6_soaks 51 = .ok (.iload 4, 2) := by decide +kernel
theorem dX6_soaks_53 : decode cX6_soaks 53 = .ok (.invokevirtual 70, 3) := by decide +kernel
theorem dX6_soaks_56 : decode cX6_soaks 56 = .ok (.ifCond .eq 48, 3) := by decide +kernel
theorem dX6_soaks_59 : decode cX6_soaks 59 = .ok (.aload_n 2, 1) := by decide +kernel
theorem dX6_soaks_60 : decode cX6_soaks 60 = .ok (.getfield 262, 3) := by decide +kernel
theorem dX6_soaks_63 : decode cX6_soaks 63 = .ok (.iload 4, 2) := by decide +kernel
theorem dX6_soaks_65 : decode cX6_soaks 65 = .ok (.iaload, 1) := by decide +kernel
theorem dX6_soaks_66 : decode cX6_soaks 66 = .ok (.iconst 0, 1) := by decide +kernel
theorem dX6_soaks_67 : decode cX6_soaks 67 = .ok (.bipush 9, 2) := by decide +kernel
theorem dX6_soaks_69 : decode cX6_soaks 69 = .ok (.invokestatic 73, 3) := by decide +kernel
theorem dX6_soaks_72 : decode cX6_soaks 72 = .ok (.ifCond .eq 32, 3) := by decide +kernel
theorem dX6_soaks_75 : decode cX6_soaks 75 = .ok (.aload_n 0, 1) := by decide +kernel
theorem dX6_soaks_76 : decode cX6_soaks 76 = .ok (.getfield 10, 3) := by decide +kernel
theorem dX6_soaks_79 : decode cX6_soaks 79 = .ok (.getfield 77, 3) := by decide +kernel
theorem dX6_soaks_82 : decode cX6_soaks 82 = .ok (.iload 4, 2) := by decide +kernel
theorem dX6_soaks_84 : decode cX6_soaks 84 = .ok (.aaload, 1) := by decide +kernel
theorem dX6_soaks_85 : decode cX6_soaks 85 = .ok (.aload_n 2, 1) := by decide +kernel
theorem dX6_soaks_86 : decode cX6_soaks 86 = .ok (.getfield 262, 3) := by decide +kernel
theorem dX6_soaks_89 : decode cX6_soaks 89 = .ok (.iload 4, 2) := by decide +kernel
theorem dX6_soaks_91 : decode cX6_soaks 91 = .ok (.iaload, 1) := by decide +kernel
theorem dX6_soaks_92 : decode cX6_soaks 92 = .ok (.putfield 98, 3) := by decide +kernel
theorem dX6_soaks_95 : decode cX6_soaks 95 = .ok (.iinc 3 1, 3) := by decide +kernel
theorem dX6_soaks_98 : decode cX6_soaks 98 = .ok (.iinc 4 1, 3) := by decide +kernel
theorem dX6_soaks_101 : decode cX6_soaks 101 = .ok (.goto (-63), 3) := by decide +kernel
theorem dX6_soaks_104 : decode cX6_soaks 104 = .ok (.iload_n 3, 1) := by decide +kernel
theorem dX6_soaks_105 : decode cX6_soaks 105 = .ok (.ireturn, 1) := by decide +kernel
theorem dX6_judge_0 : decode cX6_judge 0 = .ok (.iload_n 1, 1) := by decide +kernel
theorem dX6_judge_1 : decode cX6_judge 1 = .ok (.invokestatic 223, 3) := by decide +kernel
theorem dX6_judge_4 : decode cX6_judge 4 = .ok (.ifCond .ne 9, 3) := by decide +kernel
theorem dX6_judge_7 : decode cX6_judge 7 = .ok (.aload_n 0, 1) := by decide +kernel
theorem dX6_judge_8 : decode cX6_judge 8 = .ok (.iconst 1, 1) := by decide +kernel
theorem dX6_judge_9 : decode cX6_judge 9 = .ok (.invokevirtual 59, 3) := by decide +kernel
theorem dX6_judge_12 : decode cX6_judge 12 = .ok (.ireturn, 1) := by decide +kernel
theorem dX6_judge_13 : decode cX6_judge 13 = .ok (.aload_n 0, 1) := by decide +kernel
theorem dX6_judge_14 : decode cX6_judge 14 = .ok (.getfield 38, 3) := by decide +kernel
theorem dX6_judge_17 : decode cX6_judge 17 = .ok (.iload_n 1, 1) := by decide +kernel
theorem dX6_judge_18 : decode cX6_judge 18 = .ok (.aaload, 1) := by decide +kernel
theorem dX6_judge_19 : decode cX6_judge 19 = .ok (.astore_n 2, 1) := by decide +kernel
theorem dX6_judge_20 : decode cX6_judge 20 = .ok (.aload_n 2, 1) := by decide +kernel
theorem dX6_judge_21 : decode cX6_judge 21 = .ok (.invokevirtual 226, 3) := by decide +kernel
theorem dX6_judge_24 : decode cX6_judge 24 = .ok (.ifCond .eq 11, 3) := by decide +kernel
theorem dX6_judge_27 : decode cX6_judge 27 = .ok (.aload_n 0, 1) := by decide +kernel
theorem dX6_judge_28 : decode cX6_judge 28 = .ok (.iconst 2, 1) := by decide +kernel
theorem dX6_judge_29 : decode cX6_judge 29 = .ok (.invokevirtual 59, 3) := by decide +kernel
theorem dX6_judge_32 : decode cX6_judge 32 = .ok (.goto 11, 3) := by decide +kernel
theorem dX6_judge_35 : decode cX6_judge 35 = .ok (.aload_n 0, 1) := by decide +kernel
theorem dX6_judge_36 : decode cX6_judge 36 = .ok (.getfield 10, 3) := by decide +kernel
theorem dX6_judge_39 : decode cX6_judge 39 = .ok (.aload_n 2, 1) := by decide +kernel
theorem dX6_judge_40 : decode cX6_judge 40 = .ok (.invokevirtual 230, 3) := by decide +kernel
theorem dX6_judge_43 : decode cX6_judge 43 = .ok (.ireturn, 1) := by decide +kernel
theorem dX6_image_0 : decode cX6_image 0 = .ok (.aload_n 0, 1) := by decide +kernel
theorem dX6_image_1 : decode cX6_image 1 = .ok (.getfield 16, 3) := by decide +kernel
theorem dX6_image_4 : decode cX6_image 4 = .ok (.aload_n 0, 1) := by decide +kernel
theorem dX6_image_5 : decode cX6_image 5 = .ok (.getfield 10, 3) := by decide +kernel
theorem dX6_image_8 : decode cX6_image 8 = .ok (.invokevirtual 200, 3) := by decide +kernel
theorem dX6_image_11 : decode cX6_image 11 = .ok (.aload_n 0, 1) := by decide +kernel
theorem dX6_image_12 : decode cX6_image 12 = .ok (.dup, 1) := by decide +kernel
theorem dX6_image_13 : decode cX6_image 13 = .ok (.getfield 46, 3) := by decide +kernel
theorem dX6_image_16 : decode cX6_image 16 = .ok (.iconst 1, 1) := by decide +kernel
theorem dX6_image_17 : decode cX6_image 17 = .ok (.iadd, 1) := by decide +kernel
theorem dX6_image_18 : decode cX6_image 18 = .ok (.putfield 46, 3) := by decide +kernel
theorem dX6_image_21 : decode cX6_image 21 = .ok (.aload_n 0, 1) := by decide +kernel
theorem dX6_image_22 : decode cX6_image 22 = .ok (.getfield 46, 3) := by decide +kernel
theorem dX6_image_25 : decode cX6_image 25 = .ok (.ireturn, 1) := by decide +kernel
theorem dX6_restore_0 : decode cX6_restore 0 = .ok (.aload_n 0, 1) := by decide +kernel
theorem dX6_restore_1 : decode cX6_restore 1 = .ok (.getfield 46, 3) := by decide +kernel
theorem dX6_restore_4 : decode cX6_restore 4 = .ok (.ifCond .ne 9, 3) := by decide +kernel
theorem dX6_restore_7 : decode cX6_restore 7 = .ok (.aload_n 0, 1) := by decide +kernel
theorem dX6_restore_8 : decode cX6_restore 8 = .ok (.iconst 2, 1) := by decide +kernel
theorem dX6_restore_9 : decode cX6_restore 9 = .ok (.invokevirtual 59, 3) := by decide +kernel
theorem dX6_restore_12 : decode cX6_restore 12 = .ok (.ireturn, 1) := by decide +kernel
theorem dX6_restore_13 : decode cX6_restore 13 = .ok (.aload_n 0, 1) := by decide +kernel
theorem dX6_restore_14 : decode cX6_restore 14 = .ok (.getfield 10, 3) := by decide +kernel
theorem dX6_restore_17 : decode cX6_restore 17 = .ok (.aload_n 0, 1) := by decide +kernel
theorem dX6_restore_18 : decode cX6_restore 18 = .ok (.getfield 16, 3) := by decide +kernel
theorem dX6_restore_21 : decode cX6_restore 21 = .ok (.invokevirtual 200, 3) := by decide +kernel
theorem dX6_restore_24 : decode cX6_restore 24 = .ok (.aload_n 0, 1) := by decide +kernel
theorem dX6_restore_25 : decode cX6_restore 25 = .ok (.getfield 10, 3) := by decide +kernel
theorem dX6_restore_28 : decode cX6_restore 28 = .ok (.getfield 105, 3) := by decide +kernel
theorem dX6_restore_31 : decode cX6_restore 31 = .ok (.ireturn, 1) := by decide +kernel
theorem dX6_tell_0 : decode cX6_tell 0 = .ok (.aload_n 0, 1) := by decide +kernel
theorem dX6_tell_1 : decode cX6_tell 1 = .ok (.getfield 10, 3) := by decide +kernel
theorem dX6_tell_4 : decode cX6_tell 4 = .ok (.getfield 271, 3) := by decide +kernel
theorem dX6_tell_7 : decode cX6_tell 7 = .ok (.bipush 24, 2) := by decide +kernel
theorem dX6_tell_9 : decode cX6_tell 9 = .ok (.if_icmp .lt 9, 3) := by decide +kernel
theorem dX6_tell_12 : decode cX6_tell 12 = .ok (.aload_n 0, 1) := by decide +kernel
theorem dX6_tell_13 : decode cX6_tell 13 = .ok (.iconst 4, 1) := by decide +kernel
theorem dX6_tell_14 : decode cX6_tell 14 = .ok (.invokevirtual 59, 3) := by decide +kernel
theorem dX6_tell_17 : decode cX6_tell 17 = .ok (.ireturn, 1) := by decide +kernel
theorem dX6_tell_18 : decode cX6_tell 18 = .ok (.aload_n 0, 1) := by decide +kernel
theorem dX6_tell_19 : decode cX6_tell 19 = .ok (.getfield 10, 3) := by decide +kernel
theorem dX6_tell_22 : decode cX6_tell 22 = .ok (.getfield 274, 3) := by decide +kernel
theorem dX6_tell_25 : decode cX6_tell 25 = .ok (.aload_n 0, 1) := by decide +kernel
theorem dX6_tell_26 : decode cX6_tell 26 = .ok (.getfield 10, 3) := by decide +kernel
theorem dX6_tell_29 : decode cX6_tell 29 = .ok (.getfield 271, 3) := by decide +kernel
theorem dX6_tell_32 : decode cX6_tell 32 = .ok (.iload_n 1, 1) := by decide +kernel
theorem dX6_tell_33 : decode cX6_tell 33 = .ok (.iastore, 1) := by decide +kernel
theorem dX6_tell_34 : decode cX6_tell 34 = .ok (.aload_n 0, 1) := by decide +kernel
theorem dX6_tell_35 : decode cX6_tell 35 = .ok (.getfield 10, 3) := by decide +kernel
theorem dX6_tell_38 : decode cX6_tell 38 = .ok (.dup, 1) := by decide +kernel
theorem dX6_tell_39 : decode cX6_tell 39 = .ok (.getfield 271, 3) := by decide +kernel
theorem dX6_tell_42 : decode cX6_tell 42 = .ok (.iconst 1, 1) := by decide +kernel
theorem dX6_tell_43 : decode cX6_tell 43 = .ok (.iadd, 1) := by decide +kernel
theorem dX6_tell_44 : decode cX6_tell 44 = .ok (.putfield 271, 3) := by decide +kernel
theorem dX6_tell_47 : decode cX6_tell 47 = .ok (.aload_n 0, 1) := by decide +kernel
theorem dX6_tell_48 : decode cX6_tell 48 = .ok (.getfield 10, 3) := by decide +kernel
theorem dX6_tell_51 : decode cX6_tell 51 = .ok (.getfield 271, 3) := by decide +kernel
theorem dX6_tell_54 : decode cX6_tell 54 = .ok (.ireturn, 1) := by decide +kernel
theorem dX6_check_0 : decode cX6_check 0 = .ok (.aload_n 0, 1) := by decide +kernel
theorem dX6_check_1 : decode cX6_check 1 = .ok (.getfield 10, 3) := by decide +kernel
theorem dX6_check_4 : decode cX6_check 4 = .ok (.getfield 271, 3) := by decide +kernel
theorem dX6_check_7 : decode cX6_check 7 = .ok (.istore_n 1, 1) := by decide +kernel
theorem dX6_check_8 : decode cX6_check 8 = .ok (.aload_n 0, 1) := by decide +kernel
theorem dX6_check_9 : decode cX6_check 9 = .ok (.getfield 10, 3) := by decide +kernel
theorem dX6_check_12 : decode cX6_check 12 = .ok (.iconst 0, 1) := by decide +kernel
theorem dX6_check_13 : decode cX6_check 13 = .ok (.putfield 271, 3) := by decide +kernel
theorem dX6_check_16 : decode cX6_check 16 = .ok (.iconst 0, 1) := by decide +kernel
theorem dX6_check_17 : decode cX6_check 17 = .ok (.istore_n 2, 1) := by decide +kernel
theorem dX6_check_18 : decode cX6_check 18 = .ok (.iload_n 2, 1) := by decide +kernel
theorem dX6_check_19 : decode cX6_check 19 = .ok (.iload_n 1, 1) := by decide +kernel
theorem dX6_check_20 : decode cX6_check 20 = .ok (.if_icmp .ge 48, 3) := by decide +kernel
theorem dX6_check_23 : decode cX6_check 23 = .ok (.aload_n 0, 1) := by decide +kernel
theorem dX6_check_24 : decode cX6_check 24 = .ok (.getfield 10, 3) := by decide +kernel
theorem dX6_check_27 : decode cX6_check 27 = .ok (.iload_n 2, 1) := by decide +kernel
theorem dX6_check_28 : decode cX6_check 28 = .ok (.invokevirtual 70, 3) := by decide +kernel
theorem dX6_check_31 : decode cX6_check 31 = .ok (.ifCond .eq 27, 3) := by decide +kernel
theorem dX6_check_34 : decode cX6_check 34 = .ok (.aload_n 0, 1) := by decide +kernel
theorem dX6_check_35 : decode cX6_check 35 = .ok (.getfield 10, 3) := by decide +kernel
theorem dX6_check_38 : decode cX6_check 38 = .ok (.getfield 77, 3) := by decide +kernel
theorem dX6_check_41 : decode cX6_check 41 = .ok (.iload_n 2, 1) := by decide +kernel
theorem dX6_check_42 : decode cX6_check 42 = .ok (.aaload, 1) := by decide +kernel
theorem dX6_check_43 : decode cX6_check 43 = .ok (.getfield 95, 3) := by decide +kernel
theorem dX6_check_46 : decode cX6_check 46 = .ok (.aload_n 0, 1) := by decide +kernel
theorem dX6_check_47 : decode cX6_check 47 = .ok (.getfield 10, 3) := by decide +kernel
theorem dX6_check_50 : decode cX6_check 50 = .ok (.getfield 274, 3) := by decide +kernel
theorem dX6_check_53 : decode cX6_check 53 = .ok (.iload_n 2, 1) := by decide +kernel
theorem dX6_check_54 : decode cX6_check 54 = .ok (.iaload, 1) := by decide +kernel
theorem dX6_check_55 : decode cX6_check 55 = .ok (.if_icmp .eq 7, 3) := by decide +kernel
theorem dX6_check_58 : decode cX6_check 58 = .ok (.iconst 1, 1) := by decide +kernel
theorem dX6_check_59 : decode cX6_check 59 = .ok (.iload_n 2, 1) := by decide +kernel
theorem dX6_check_60 : decode cX6_check 60 = .ok (.iadd, 1) := by decide +kernel
theorem dX6_check_61 : decode cX6_check 61 = .ok (.ireturn, 1) := by decide +kernel
theorem dX6_check_62 : decode cX6_check 62 = .ok (.iinc 2 1, 3) := by decide +kernel
theorem dX6_check_65 : decode cX6_check 65 = .ok (.goto (-47), 3) := by decide +kernel
theorem dX6_check_68 : decode cX6_check 68 = .ok (.iconst 0, 1) := by decide +kernel
theorem dX6_check_69 : decode cX6_check 69 = .ok (.ireturn, 1) := by decide +kernel
theorem dX6_count_0 : decode cX6_count 0 = .ok (.iload_n 1, 1) := by decide +kernel
theorem dX6_count_1 : decode cX6_count 1 = .ok (.tableswitch 135 0 9 #[55, 63, 71, 79, 87, 95, 103, 111, 119, 127], 55) := by decide +kernel
theorem dX6_count_56 : decode cX6_count 56 = .ok (.aload_n 0, 1) := by decide +kernel
theorem dX6_count_57 : decode cX6_count 57 = .ok (.getfield 10, 3) := by decide +kernel
theorem dX6_count_60 : decode cX6_count 60 = .ok (.getfield 63, 3) := by decide +kernel
theorem dX6_count_63 : decode cX6_count 63 = .ok (.ireturn, 1) := by decide +kernel
theorem dX6_count_64 : decode cX6_count 64 = .ok (.aload_n 0, 1) := by decide +kernel
theorem dX6_count_65 : decode cX6_count 65 = .ok (.getfield 10, 3) := by decide +kernel
theorem dX6_count_68 : decode cX6_count 68 = .ok (.getfield 105, 3) := by decide +kernel
theorem dX6_count_71 : decode cX6_count 71 = .ok (.ireturn, 1) := by decide +kernel
theorem dX6_count_72 : decode cX6_count 72 = .ok (.aload_n 0, 1) := by decide +kernel
theorem dX6_count_73 : decode cX6_count 73 = .ok (.getfield 10, 3) := by decide +kernel
theorem dX6_count_76 : decode cX6_count 76 = .ok (.getfield 124, 3) := by decide +kernel
theorem dX6_count_79 : decode cX6_count 79 = .ok (.ireturn, 1) := by decide +kernel
theorem dX6_count_80 : decode cX6_count 80 = .ok (.aload_n 0, 1) := by decide +kernel
theorem dX6_count_81 : decode cX6_count 81 = .ok (.getfield 10, 3) := by decide +kernel
theorem dX6_count_84 : decode cX6_count 84 = .ok (.getfield 118, 3) := by decide +kernel
theorem dX6_count_87 : decode cX6_count 87 = .ok (.ireturn, 1) := by decide +kernel
theorem dX6_count_88 : decode cX6_count 88 = .ok (.aload_n 0, 1) := by decide +kernel
theorem dX6_count_89 : decode cX6_count 89 = .ok (.getfield 10, 3) := by decide +kernel
theorem dX6_count_92 : decode cX6_count 92 = .ok (.getfield 277, 3) := by decide +kernel
theorem dX6_count_95 : decode cX6_count 95 = .ok (.ireturn, 1) := by decide +kernel
theorem dX6_count_96 : decode cX6_count 96 = .ok (.aload_n 0, 1) := by decide +kernel
theorem dX6_count_97 : decode cX6_count 97 = .ok (.getfield 10, 3) := by decide +kernel
theorem dX6_count_100 : decode cX6_count 100 = .ok (.getfield 280, 3) := by decide +kernel
theorem dX6_count_103 : decode cX6_count 103 = .ok (.ireturn, 1) := by decide +kernel
theorem dX6_count_104 : decode cX6_count 104 = .ok (.aload_n 0, 1) := by decide +kernel
theorem dX6_count_105 : decode cX6_count 105 = .ok (.getfield 10, 3) := by decide +kernel
theorem dX6_count_108 : decode cX6_count 108 = .ok (.getfield 134, 3) := by decide +kernel
theorem dX6_count_111 : decode cX6_count 111 = .ok (.ireturn, 1) := by decide +kernel
theorem dX6_count_112 : decode cX6_count 112 = .ok (.aload_n 0, 1) := by decide +kernel
theorem dX6_count_113 : decode cX6_count 113 = .ok (.getfield 10, 3) := by decide +kernel
theorem dX6_count_116 : decode cX6_count 116 = .ok (.getfield 271, 3) := by decide +kernel
theorem dX6_count_119 : decode cX6_count 119 = .ok (.ireturn, 1) := by decide +kernel
theorem dX6_count_120 : decode cX6_count 120 = .ok (.aload_n 0, 1) := by decide +kernel
theorem dX6_count_121 : decode cX6_count 121 = .ok (.getfield 32, 3) := by decide +kernel
theorem dX6_count_124 : decode cX6_count 124 = .ok (.getfield 244, 3) := by decide +kernel
theorem dX6_count_127 : decode cX6_count 127 = .ok (.ireturn, 1) := by decide +kernel
theorem dX6_count_128 : decode cX6_count 128 = .ok (.aload_n 0, 1) := by decide +kernel
theorem dX6_count_129 : decode cX6_count 129 = .ok (.getfield 10, 3) := by decide +kernel
theorem dX6_count_132 : decode cX6_count 132 = .ok (.getfield 184, 3) := by decide +kernel
theorem dX6_count_135 : decode cX6_count 135 = .ok (.ireturn, 1) := by decide +kernel
theorem dX6_count_136 : decode cX6_count 136 = .ok (.aload_n 0, 1) := by decide +kernel
theorem dX6_count_137 : decode cX6_count 137 = .ok (.iconst 1, 1) := by decide +kernel
theorem dX6_count_138 : decode cX6_count 138 = .ok (.invokevirtual 59, 3) := by decide +kernel
theorem dX6_count_141 : decode cX6_count 141 = .ok (.ireturn, 1) := by decide +kernel
theorem dX6_told_0 : decode cX6_told 0 = .ok (.iload_n 1, 1) := by decide +kernel
theorem dX6_told_1 : decode cX6_told 1 = .ok (.iconst 1, 1) := by decide +kernel
theorem dX6_told_2 : decode cX6_told 2 = .ok (.bipush 6, 2) := by decide +kernel
theorem dX6_told_4 : decode cX6_told 4 = .ok (.invokestatic 73, 3) := by decide +kernel
theorem dX6_told_7 : decode cX6_told 7 = .ok (.ifCond .ne 9, 3) := by decide +kernel
theorem dX6_told_10 : decode cX6_told 10 = .ok (.aload_n 0, 1) := by decide +kernel
theorem dX6_told_11 : decode cX6_told 11 = .ok (.iconst 1, 1) := by decide +kernel
theorem dX6_told_12 : decode cX6_told 12 = .ok (.invokevirtual 59, 3) := by decide +kernel
theorem dX6_told_15 : decode cX6_told 15 = .ok (.ireturn, 1) := by decide +kernel
theorem dX6_told_16 : decode cX6_told 16 = .ok (.aload_n 0, 1) := by decide +kernel
theorem dX6_told_17 : decode cX6_told 17 = .ok (.getfield 42, 3) := by decide +kernel
theorem dX6_told_20 : decode cX6_told 20 = .ok (.iload_n 1, 1) := by decide +kernel
theorem dX6_told_21 : decode cX6_told 21 = .ok (.iaload, 1) := by decide +kernel
theorem dX6_told_22 : decode cX6_told 22 = .ok (.ireturn, 1) := by decide +kernel
theorem dX6_error_0 : decode cX6_error 0 = .ok (.aload_n 0, 1) := by decide +kernel
theorem dX6_error_1 : decode cX6_error 1 = .ok (.getfield 42, 3) := by decide +kernel
theorem dX6_error_4 : decode cX6_error 4 = .ok (.iload_n 1, 1) := by decide +kernel
theorem dX6_error_5 : decode cX6_error 5 = .ok (.dup2, 1) := by decide +kernel
theorem dX6_error_6 : decode cX6_error 6 = .ok (.iaload, 1) := by decide +kernel
theorem dX6_error_7 : decode cX6_error 7 = .ok (.iconst 1, 1) := by decide +kernel
theorem dX6_error_8 : decode cX6_error 8 = .ok (.iadd, 1) := by decide +kernel
theorem dX6_error_9 : decode cX6_error 9 = .ok (.iastore, 1) := by decide +kernel
theorem dX6_error_10 : decode cX6_error 10 = .ok (.ldc_w 283, 3) := by decide +kernel
theorem dX6_error_13 : decode cX6_error 13 = .ok (.iload_n 1, 1) := by decide +kernel
theorem dX6_error_14 : decode cX6_error 14 = .ok (.isub, 1) := by decide +kernel
theorem dX6_error_15 : decode cX6_error 15 = .ok (.ireturn, 1) := by decide +kernel
theorem dX6_within_0 : decode cX6_within 0 = .ok (.iload_n 0, 1) := by decide +kernel
theorem dX6_within_1 : decode cX6_within 1 = .ok (.iload_n 1, 1) := by decide +kernel
theorem dX6_within_2 : decode cX6_within 2 = .ok (.if_icmp .lt 12, 3) := by decide +kernel
theorem dX6_within_5 : decode cX6_within 5 = .ok (.iload_n 0, 1) := by decide +kernel
theorem dX6_within_6 : decode cX6_within 6 = .ok (.iload_n 2, 1) := by decide +kernel
theorem dX6_within_7 : decode cX6_within 7 = .ok (.if_icmp .gt 7, 3) := by decide +kernel
theorem dX6_within_10 : decode cX6_within 10 = .ok (.iconst 1, 1) := by decide +kernel
theorem dX6_within_11 : decode cX6_within 11 = .ok (.goto 4, 3) := by decide +kernel
theorem dX6_within_14 : decode cX6_within 14 = .ok (.iconst 0, 1) := by decide +kernel
theorem dX6_within_15 : decode cX6_within 15 = .ok (.ireturn, 1) := by decide +kernel
theorem dX6_held_0 : decode cX6_held 0 = .ok (.iload_n 1, 1) := by decide +kernel
theorem dX6_held_1 : decode cX6_held 1 = .ok (.iload_n 2, 1) := by decide +kernel
theorem dX6_held_2 : decode cX6_held 2 = .ok (.iload_n 0, 1) := by decide +kernel
theorem dX6_held_3 : decode cX6_held 3 = .ok (.invokestatic 284, 3) := by decide +kernel
theorem dX6_held_6 : decode cX6_held 6 = .ok (.invokestatic 218, 3) := by decide +kernel
theorem dX6_held_9 : decode cX6_held 9 = .ok (.ireturn, 1) := by decide +kernel
theorem dX6_isPlace_0 : decode cX6_isPlace 0 = .ok (.iload_n 0, 1) := by decide +kernel
theorem dX6_isPlace_1 : decode cX6_isPlace 1 = .ok (.iconst 0, 1) := by decide +kernel
theorem dX6_isPlace_2 : decode cX6_isPlace 2 = .ok (.bipush 7, 2) := by decide +kernel
theorem dX6_isPlace_4 : decode cX6_isPlace 4 = .ok (.invokestatic 73, 3) := by decide +kernel
theorem dX6_isPlace_7 : decode cX6_isPlace 7 = .ok (.ireturn, 1) := by decide +kernel
theorem dX6_areTwoPlaces_0 : decode cX6_areTwoPlaces 0 = .ok (.iload_n 0, 1) := by decide +kernel
theorem dX6_areTwoPlaces_1 : decode cX6_areTwoPlaces 1 = .ok (.invokestatic 187, 3) := by decide +kernel
theorem dX6_areTwoPlaces_4 : decode cX6_areTwoPlaces 4 = .ok (.ifCond .eq 19, 3) := by decide +kernel
theorem dX6_areTwoPlaces_7 : decode cX6_areTwoPlaces 7 = .ok (.iload_n 1, 1) := by decide +kernel
theorem dX6_areTwoPlaces_8 : decode cX6_areTwoPlaces 8 = .ok (.invokestatic 187, 3) := by decide +kernel
theorem dX6_areTwoPlaces_11 : decode cX6_areTwoPlaces 11 = .ok (.ifCond .eq 12, 3) := by decide +kernel
theorem dX6_areTwoPlaces_14 : decode cX6_areTwoPlaces 14 = .ok (.iload_n 0, 1) := by decide +kernel
theorem dX6_areTwoPlaces_15 : decode cX6_areTwoPlaces 15 = .ok (.iload_n 1, 1) := by decide +kernel
theorem dX6_areTwoPlaces_16 : decode cX6_areTwoPlaces 16 = .ok (.if_icmp .eq 7, 3) := by decide +kernel
theorem dX6_areTwoPlaces_19 : decode cX6_areTwoPlaces 19 = .ok (.iconst 1, 1) := by decide +kernel
theorem dX6_areTwoPlaces_20 : decode cX6_areTwoPlaces 20 = .ok (.goto 4, 3) := by decide +kernel
theorem dX6_areTwoPlaces_23 : decode cX6_areTwoPlaces 23 = .ok (.iconst 0, 1) := by decide +kernel
theorem dX6_areTwoPlaces_24 : decode cX6_areTwoPlaces 24 = .ok (.ireturn, 1) := by decide +kernel
theorem dX6_isLoad_0 : decode cX6_isLoad 0 = .ok (.iload_n 0, 1) := by decide +kernel
theorem dX6_isLoad_1 : decode cX6_isLoad 1 = .ok (.iconst 0, 1) := by decide +kernel
theorem dX6_isLoad_2 : decode cX6_isLoad 2 = .ok (.bipush 99, 2) := by decide +kernel
theorem dX6_isLoad_4 : decode cX6_isLoad 4 = .ok (.invokestatic 73, 3) := by decide +kernel
theorem dX6_isLoad_7 : decode cX6_isLoad 7 = .ok (.ireturn, 1) := by decide +kernel
theorem dX6_isUse_0 : decode cX6_isUse 0 = .ok (.iload_n 0, 1) := by decide +kernel
theorem dX6_isUse_1 : decode cX6_isUse 1 = .ok (.iconst 0, 1) := by decide +kernel
theorem dX6_isUse_2 : decode cX6_isUse 2 = .ok (.iconst 1, 1) := by decide +kernel
theorem dX6_isUse_3 : decode cX6_isUse 3 = .ok (.invokestatic 73, 3) := by decide +kernel
theorem dX6_isUse_6 : decode cX6_isUse 6 = .ok (.ireturn, 1) := by decide +kernel
theorem dX6_isSheet_0 : decode cX6_isSheet 0 = .ok (.iload_n 0, 1) := by decide +kernel
theorem dX6_isSheet_1 : decode cX6_isSheet 1 = .ok (.iconst 0, 1) := by decide +kernel
theorem dX6_isSheet_2 : decode cX6_isSheet 2 = .ok (.iconst 3, 1) := by decide +kernel
theorem dX6_isSheet_3 : decode cX6_isSheet 3 = .ok (.invokestatic 73, 3) := by decide +kernel
theorem dX6_isSheet_6 : decode cX6_isSheet 6 = .ok (.ireturn, 1) := by decide +kernel
theorem dX6_isKindAndNumber_0 : decode cX6_isKindAndNumber 0 = .ok (.iload_n 0, 1) := by decide +kernel
theorem dX6_isKindAndNumber_1 : decode cX6_isKindAndNumber 1 = .ok (.iconst 0, 1) := by decide +kernel
theorem dX6_isKindAndNumber_2 : decode cX6_isKindAndNumber 2 = .ok (.bipush 69, 2) := by decide +kernel
theorem dX6_isKindAndNumber_4 : decode cX6_isKindAndNumber 4 = .ok (.invokestatic 73, 3) := by decide +kernel
theorem dX6_isKindAndNumber_7 : decode cX6_isKindAndNumber 7 = .ok (.ireturn, 1) := by decide +kernel
theorem dX6_kindAbove_0 : decode cX6_kindAbove 0 = .ok (.iload_n 0, 1) := by decide +kernel
theorem dX6_kindAbove_1 : decode cX6_kindAbove 1 = .ok (.iconst 0, 1) := by decide +kernel
theorem dX6_kindAbove_2 : decode cX6_kindAbove 2 = .ok (.bipush 6, 2) := by decide +kernel
theorem dX6_kindAbove_4 : decode cX6_kindAbove 4 = .ok (.invokestatic 73, 3) := by decide +kernel
theorem dX6_kindAbove_7 : decode cX6_kindAbove 7 = .ok (.ifCond .eq 11, 3) := by decide +kernel
theorem dX6_kindAbove_10 : decode cX6_kindAbove 10 = .ok (.getstatic 287, 3) := by decide +kernel
theorem dX6_kindAbove_13 : decode cX6_kindAbove 13 = .ok (.iload_n 0, 1) := by decide +kernel
theorem dX6_kindAbove_14 : decode cX6_kindAbove 14 = .ok (.iaload, 1) := by decide +kernel
theorem dX6_kindAbove_15 : decode cX6_kindAbove 15 = .ok (.goto 4, 3) := by decide +kernel
theorem dX6_kindAbove_18 : decode cX6_kindAbove 18 = .ok (.iconst (-1), 1) := by decide +kernel
theorem dX6_kindAbove_19 : decode cX6_kindAbove 19 = .ok (.ireturn, 1) := by decide +kernel
theorem dX6_isUnder_0 : decode cX6_isUnder 0 = .ok (.iload_n 0, 1) := by decide +kernel
theorem dX6_isUnder_1 : decode cX6_isUnder 1 = .ok (.istore_n 2, 1) := by decide +kernel
theorem dX6_isUnder_2 : decode cX6_isUnder 2 = .ok (.iconst 0, 1) := by decide +kernel
theorem dX6_isUnder_3 : decode cX6_isUnder 3 = .ok (.istore_n 3, 1) := by decide +kernel
theorem dX6_isUnder_4 : decode cX6_isUnder 4 = .ok (.iload_n 3, 1) := by decide +kernel
theorem dX6_isUnder_5 : decode cX6_isUnder 5 = .ok (.bipush 6, 2) := by decide +kernel
theorem dX6_isUnder_7 : decode cX6_isUnder 7 = .ok (.if_icmp .gt 25, 3) := by decide +kernel
theorem dX6_isUnder_10 : decode cX6_isUnder 10 = .ok (.iload_n 2, 1) := by decide +kernel
theorem dX6_isUnder_11 : decode cX6_isUnder 11 = .ok (.ifCond .lt 21, 3) := by decide +kernel
theorem dX6_isUnder_14 : decode cX6_isUnder 14 = .ok (.iload_n 2, 1) := by decide +kernel
theorem dX6_isUnder_15 : decode cX6_isUnder 15 = .ok (.iload_n 1, 1) := by decide +kernel
theorem dX6_isUnder_16 : decode cX6_isUnder 16 = .ok (.if_icmp .ne 5, 3) := by decide +kernel
theorem dX6_isUnder_19 : decode cX6_isUnder 19 = .ok (.iconst 1, 1) := by decide +kernel
theorem dX6_isUnder_20 : decode cX6_isUnder 20 = .ok (.ireturn, 1) := by decide +kernel
theorem dX6_isUnder_21 : decode cX6_isUnder 21 = .ok (.iload_n 2, 1) := by decide +kernel
theorem dX6_isUnder_22 : decode cX6_isUnder 22 = .ok (.invokestatic 290, 3) := by decide +kernel
theorem dX6_isUnder_25 : decode cX6_isUnder 25 = .ok (.istore_n 2, 1) := by decide +kernel
theorem dX6_isUnder_26 : decode cX6_isUnder 26 = .ok (.iinc 3 1, 3) := by decide +kernel
theorem dX6_isUnder_29 : decode cX6_isUnder 29 = .ok (.goto (-25), 3) := by decide +kernel
theorem dX6_isUnder_32 : decode cX6_isUnder 32 = .ok (.iconst 0, 1) := by decide +kernel
theorem dX6_isUnder_33 : decode cX6_isUnder 33 = .ok (.ireturn, 1) := by decide +kernel
theorem dX6_greatestCommon_0 : decode cX6_greatestCommon 0 = .ok (.iload_n 1, 1) := by decide +kernel
theorem dX6_greatestCommon_1 : decode cX6_greatestCommon 1 = .ok (.istore_n 2, 1) := by decide +kernel
theorem dX6_greatestCommon_2 : decode cX6_greatestCommon 2 = .ok (.iload_n 2, 1) := by decide +kernel
theorem dX6_greatestCommon_3 : decode cX6_greatestCommon 3 = .ok (.iconst 1, 1) := by decide +kernel
theorem dX6_greatestCommon_4 : decode cX6_greatestCommon 4 = .ok (.if_icmp .le 23, 3) := by decide +kernel
theorem dX6_greatestCommon_7 : decode cX6_greatestCommon 7 = .ok (.iload_n 0, 1) := by decide +kernel
theorem dX6_greatestCommon_8 : decode cX6_greatestCommon 8 = .ok (.iload_n 2, 1) := by decide +kernel
theorem dX6_greatestCommon_9 : decode cX6_greatestCommon 9 = .ok (.irem, 1) := by decide +kernel
theorem dX6_greatestCommon_10 : decode cX6_greatestCommon 10 = .ok (.ifCond .ne 11, 3) := by decide +kernel
theorem dX6_greatestCommon_13 : decode cX6_greatestCommon 13 = .ok (.iload_n 1, 1) := by decide +kernel
theorem dX6_greatestCommon_14 : decode cX6_greatestCommon 14 = .ok (.iload_n 2, 1) := by decide +kernel
theorem dX6_greatestCommon_15 : decode cX6_greatestCommon 15 = .ok (.irem, 1) := by decide +kernel
theorem dX6_greatestCommon_16 : decode cX6_greatestCommon 16 = .ok (.ifCond .ne 5, 3) := by decide +kernel
theorem dX6_greatestCommon_19 : decode cX6_greatestCommon 19 = .ok (.iload_n 2, 1) := by decide +kernel
theorem dX6_greatestCommon_20 : decode cX6_greatestCommon 20 = .ok (.ireturn, 1) := by decide +kernel
theorem dX6_greatestCommon_21 : decode cX6_greatestCommon 21 = .ok (.iinc 2 (-1), 3) := by decide +kernel
theorem dX6_greatestCommon_24 : decode cX6_greatestCommon 24 = .ok (.goto (-22), 3) := by decide +kernel
theorem dX6_greatestCommon_27 : decode cX6_greatestCommon 27 = .ok (.iconst 1, 1) := by decide +kernel
theorem dX6_greatestCommon_28 : decode cX6_greatestCommon 28 = .ok (.ireturn, 1) := by decide +kernel
end
section
theorem dX7_init_0 : decode cX7_init 0 = .ok (.aload_n 0, 1) := by decide +kernel
theorem dX7_init_1 : decode cX7_init 1 = .ok (.invokespecial 3, 3) := by decide +kernel
theorem dX7_init_4 : decode cX7_init 4 = .ok (.aload_n 0, 1) := by decide +kernel
theorem dX7_init_5 : decode cX7_init 5 = .ok (.sipush 398, 3) := by decide +kernel
theorem dX7_init_8 : decode cX7_init 8 = .ok (.newarray .int, 2) := by decide +kernel
theorem dX7_init_10 : decode cX7_init 10 = .ok (.putfield 9, 3) := by decide +kernel
theorem dX7_init_13 : decode cX7_init 13 = .ok (.aload_n 0, 1) := by decide +kernel
theorem dX7_init_14 : decode cX7_init 14 = .ok (.sipush 398, 3) := by decide +kernel
theorem dX7_init_17 : decode cX7_init 17 = .ok (.newarray .int, 2) := by decide +kernel
theorem dX7_init_19 : decode cX7_init 19 = .ok (.putfield 13, 3) := by decide +kernel
theorem dX7_init_22 : decode cX7_init 22 = .ok (.aload_n 0, 1) := by decide +kernel
theorem dX7_init_23 : decode cX7_init 23 = .ok (.sipush 398, 3) := by decide +kernel
theorem dX7_init_26 : decode cX7_init 26 = .ok (.newarray .int, 2) := by decide +kernel
theorem dX7_init_28 : decode cX7_init 28 = .ok (.putfield 16, 3) := by decide +kernel
theorem dX7_init_31 : decode cX7_init 31 = .ok (.aload_n 0, 1) := by decide +kernel
theorem dX7_init_32 : decode cX7_init 32 = .ok (.bipush 7, 2) := by decide +kernel
theorem dX7_init_34 : decode cX7_init 34 = .ok (.newarray .int, 2) := by decide +kernel
theorem dX7_init_36 : decode cX7_init 36 = .ok (.putfield 19, 3) := by decide +kernel
theorem dX7_init_39 : decode cX7_init 39 = .ok (.aload_n 0, 1) := by decide +kernel
theorem dX7_init_40 : decode cX7_init 40 = .ok (.iconst 4, 1) := by decide +kernel
theorem dX7_init_41 : decode cX7_init 41 = .ok (.newarray .int, 2) := by decide +kernel
theorem dX7_init_43 : decode cX7_init 43 = .ok (.putfield 22, 3) := by decide +kernel
theorem dX7_init_46 : decode cX7_init 46 = .ok (.aload_n 0, 1) := by decide +kernel
theorem dX7_init_47 : decode cX7_init 47 = .ok (.iconst 4, 1) := by decide +kernel
theorem dX7_init_48 : decode cX7_init 48 = .ok (.newarray .int, 2) := by decide +kernel
theorem dX7_init_50 : decode cX7_init 50 = .ok (.putfield 25, 3) := by decide +kernel
theorem dX7_init_53 : decode cX7_init 53 = .ok (.aload_n 0, 1) := by decide +kernel
theorem dX7_init_54 : decode cX7_init 54 = .ok (.bipush 96, 2) := by decide +kernel
theorem dX7_init_56 : decode cX7_init 56 = .ok (.newarray .int, 2) := by decide +kernel
theorem dX7_init_58 : decode cX7_init 58 = .ok (.putfield 28, 3) := by decide +kernel
theorem dX7_init_61 : decode cX7_init 61 = .ok (.aload_n 0, 1) := by decide +kernel
theorem dX7_init_62 : decode cX7_init 62 = .ok (.bipush 60, 2) := by decide +kernel
theorem dX7_init_64 : decode cX7_init 64 = .ok (.newarray .int, 2) := by decide +kernel
theorem dX7_init_66 : decode cX7_init 66 = .ok (.putfield 31, 3) := by decide +kernel
theorem dX7_init_69 : decode cX7_init 69 = .ok (.aload_n 0, 1) := by decide +kernel
theorem dX7_init_70 : decode cX7_init 70 = .ok (.bipush 60, 2) := by decide +kernel
theorem dX7_init_72 : decode cX7_init 72 = .ok (.newarray .int, 2) := by decide +kernel
theorem dX7_init_74 : decode cX7_init 74 = .ok (.putfield 34, 3) := by decide +kernel
theorem dX7_init_77 : decode cX7_init 77 = .ok (.aload_n 0, 1) := by decide +kernel
theorem dX7_init_78 : decode cX7_init 78 = .ok (.iconst 3, 1) := by decide +kernel
theorem dX7_init_79 : decode cX7_init 79 = .ok (.newarray .int, 2) := by decide +kernel
theorem dX7_init_81 : decode cX7_init 81 = .ok (.putfield 37, 3) := by decide +kernel
theorem dX7_init_84 : decode cX7_init 84 = .ok (.aload_n 0, 1) := by decide +kernel
theorem dX7_init_85 : decode cX7_init 85 = .ok (.bipush 60, 2) := by decide +kernel
theorem dX7_init_87 : decode cX7_init 87 = .ok (.newarray .int, 2) := by decide +kernel
theorem dX7_init_89 : decode cX7_init 89 = .ok (.putfield 40, 3) := by decide +kernel
theorem dX7_init_92 : decode cX7_init 92 = .ok (.aload_n 0, 1) := by decide +kernel
theorem dX7_init_93 : decode cX7_init 93 = .ok (.bipush 9, 2) := by decide +kernel
theorem dX7_init_95 : decode cX7_init 95 = .ok (.newarray .int, 2) := by decide +kernel
theorem dX7_init_97 : decode cX7_init 97 = .ok (.putfield 43, 3) := by decide +kernel
theorem dX7_init_100 : decode cX7_init 100 = .ok (.aload_n 0, 1) := by decide +kernel
theorem dX7_init_101 : decode cX7_init 101 = .ok (.bipush 30, 2) := by decide +kernel
theorem dX7_init_103 : decode cX7_init 103 = .ok (.newarray .int, 2) := by decide +kernel
theorem dX7_init_105 : decode cX7_init 105 = .ok (.putfield 46, 3) := by decide +kernel
theorem dX7_init_108 : decode cX7_init 108 = .ok (.aload_n 0, 1) := by decide +kernel
theorem dX7_init_109 : decode cX7_init 109 = .ok (.getfield 9, 3) := by decide +kernel
theorem dX7_init_112 : decode cX7_init 112 = .ok (.iconst 1, 1) := by decide +kernel
theorem dX7_init_113 : decode cX7_init 113 = .ok (.iconst 1, 1) := by decide +kernel
theorem dX7_init_114 : decode cX7_init 114 = .ok (.iastore, 1) := by decide +kernel
theorem dX7_init_115 : decode cX7_init 115 = .ok (.aload_n 0, 1) := by decide +kernel
theorem dX7_init_116 : decode cX7_init 116 = .ok (.getfield 9, 3) := by decide +kernel
theorem dX7_init_119 : decode cX7_init 119 = .ok (.iconst 3, 1) := by decide +kernel
theorem dX7_init_120 : decode cX7_init 120 = .ok (.sipush 200, 3) := by decide +kernel
theorem dX7_init_123 : decode cX7_init 123 = .ok (.iastore, 1) := by decide +kernel
theorem dX7_init_124 : decode cX7_init 124 = .ok (.return_, 1) := by decide +kernel
theorem dX7_error_0 : decode cX7_error 0 = .ok (.aload_n 0, 1) := by decide +kernel
theorem dX7_error_1 : decode cX7_error 1 = .ok (.getfield 19, 3) := by decide +kernel
theorem dX7_error_4 : decode cX7_error 4 = .ok (.ldc 49, 2) := by decide +kernel
theorem dX7_error_6 : decode cX7_error 6 = .ok (.iload_n 1, 1) := by decide +kernel
theorem dX7_error_7 : decode cX7_error 7 = .ok (.isub, 1) := by decide +kernel
theorem dX7_error_8 : decode cX7_error 8 = .ok (.dup2, 1) := by decide +kernel
theorem dX7_error_9 : decode cX7_error 9 = .ok (.iaload, 1) := by decide +kernel
theorem dX7_error_10 : decode cX7_error 10 = .ok (.iconst 1, 1) := by decide +kernel
theorem dX7_error_11 : decode cX7_error 11 = .ok (.iadd, 1) := by decide +kernel
theorem dX7_error_12 : decode cX7_error 12 = .ok (.iastore, 1) := by decide +kernel
theorem dX7_error_13 : decode cX7_error 13 = .ok (.iload_n 1, 1) := by decide +kernel
theorem dX7_error_14 : decode cX7_error 14 = .ok (.ireturn, 1) := by decide +kernel
theorem dX7_in_0 : decode cX7_in 0 = .ok (.iload_n 0, 1) := by decide +kernel
theorem dX7_in_1 : decode cX7_in 1 = .ok (.iload_n 1, 1) := by decide +kernel
theorem dX7_in_2 : decode cX7_in 2 = .ok (.if_icmp .lt 12, 3) := by decide +kernel
theorem dX7_in_5 : decode cX7_in 5 = .ok (.iload_n 0, 1) := by decide +kernel
theorem dX7_in_6 : decode cX7_in 6 = .ok (.iload_n 2, 1) := by decide +kernel
theorem dX7_in_7 : decode cX7_in 7 = .ok (.if_icmp .gt 7, 3) := by decide +kernel
theorem dX7_in_10 : decode cX7_in 10 = .ok (.iconst 1, 1) := by decide +kernel
theorem dX7_in_11 : decode cX7_in 11 = .ok (.goto 4, 3) := by decide +kernel
theorem dX7_in_14 : decode cX7_in 14 = .ok (.iconst 0, 1) := by decide +kernel
theorem dX7_in_15 : decode cX7_in 15 = .ok (.ireturn, 1) := by decide +kernel
theorem dX7_held_0 : decode cX7_held 0 = .ok (.iload_n 0, 1) := by decide +kernel
theorem dX7_held_1 : decode cX7_held 1 = .ok (.iload_n 1, 1) := by decide +kernel
theorem dX7_held_2 : decode cX7_held 2 = .ok (.if_icmp .ge 7, 3) := by decide +kernel
theorem dX7_held_5 : decode cX7_held 5 = .ok (.iload_n 1, 1) := by decide +kernel
theorem dX7_held_6 : decode cX7_held 6 = .ok (.goto 13, 3) := by decide +kernel
theorem dX7_held_9 : decode cX7_held 9 = .ok (.iload_n 0, 1) := by decide +kernel
theorem dX7_held_10 : decode cX7_held 10 = .ok (.iload_n 2, 1) := by decide +kernel
theorem dX7_held_11 : decode cX7_held 11 = .ok (.if_icmp .le 7, 3) := by decide +kernel
theorem dX7_held_14 : decode cX7_held 14 = .ok (.iload_n 2, 1) := by decide +kernel
theorem dX7_held_15 : decode cX7_held 15 = .ok (.goto 4, 3) := by decide +kernel
theorem dX7_held_18 : decode cX7_held 18 = .ok (.iload_n 0, 1) := by decide +kernel
theorem dX7_held_19 : decode cX7_held 19 = .ok (.ireturn, 1) := by decide +kernel
theorem dX7_copyAll_0 : decode cX7_copyAll 0 = .ok (.iconst 0, 1) := by decide +kernel
theorem dX7_copyAll_1 : decode cX7_copyAll 1 = .ok (.istore_n 2, 1) := by decide +kernel
theorem dX7_copyAll_2 : decode cX7_copyAll 2 = .ok (.iload_n 2, 1) := by decide +kernel
theorem dX7_copyAll_3 : decode cX7_copyAll 3 = .ok (.sipush 398, 3) := by decide +kernel
theorem dX7_copyAll_6 : decode cX7_copyAll 6 = .ok (.if_icmp .ge 15, 3) := by decide +kernel
theorem dX7_copyAll_9 : decode cX7_copyAll 9 = .ok (.aload_n 1, 1) := by decide +kernel
theorem dX7_copyAll_10 : decode cX7_copyAll 10 = .ok (.iload_n 2, 1) := by decide +kernel
theorem dX7_copyAll_11 : decode cX7_copyAll 11 = .ok (.aload_n 0, 1) := by decide +kernel
theorem dX7_copyAll_12 : decode cX7_copyAll 12 = .ok (.iload_n 2, 1) := by decide +kernel
theorem dX7_copyAll_13 : decode cX7_copyAll 13 = .ok (.iaload, 1) := by decide +kernel
theorem dX7_copyAll_14 : decode cX7_copyAll 14 = .ok (.iastore, 1) := by decide +kernel
theorem dX7_copyAll_15 : decode cX7_copyAll 15 = .ok (.iinc 2 1, 3) := by decide +kernel
theorem dX7_copyAll_18 : decode cX7_copyAll 18 = .ok (.goto (-16), 3) := by decide +kernel
theorem dX7_copyAll_21 : decode cX7_copyAll 21 = .ok (.return_, 1) := by decide +kernel
theorem dX7_thinks_0 : decode cX7_thinks 0 = .ok (.aload_n 0, 1) := by decide +kernel
theorem dX7_thinks_1 : decode cX7_thinks 1 = .ok (.getfield 9, 3) := by decide +kernel
theorem dX7_thinks_4 : decode cX7_thinks 4 = .ok (.aload_n 0, 1) := by decide +kernel
theorem dX7_thinks_5 : decode cX7_thinks 5 = .ok (.getfield 16, 3) := by decide +kernel
theorem dX7_thinks_8 : decode cX7_thinks 8 = .ok (.invokestatic 50, 3) := by decide +kernel
theorem dX7_thinks_11 : decode cX7_thinks 11 = .ok (.return_, 1) := by decide +kernel
theorem dX7_putsBack_0 : decode cX7_putsBack 0 = .ok (.aload_n 0, 1) := by decide +kernel
theorem dX7_putsBack_1 : decode cX7_putsBack 1 = .ok (.getfield 16, 3) := by decide +kernel
theorem dX7_putsBack_4 : decode cX7_putsBack 4 = .ok (.aload_n 0, 1) := by decide +kernel
theorem dX7_putsBack_5 : decode cX7_putsBack 5 = .ok (.getfield 9, 3) := by decide +kernel
theorem dX7_putsBack_8 : decode cX7_putsBack 8 = .ok (.invokestatic 50, 3) := by decide +kernel
theorem dX7_putsBack_11 : decode cX7_putsBack 11 = .ok (.return_, 1) := by decide +kernel
theorem dX7_bits_0 : decode cX7_bits 0 = .ok (.iconst 0, 1) := by decide +kernel
theorem dX7_bits_1 : decode cX7_bits 1 = .ok (.istore_n 1, 1) := by decide +kernel
theorem dX7_bits_2 : decode cX7_bits 2 = .ok (.iload_n 0, 1) := by decide +kernel
theorem dX7_bits_3 : decode cX7_bits 3 = .ok (.istore_n 2, 1) := by decide +kernel
theorem dX7_bits_4 : decode cX7_bits 4 = .ok (.iload_n 2, 1) := by decide +kernel
theorem dX7_bits_5 : decode cX7_bits 5 = .ok (.ifCond .eq 15, 3) := by decide +kernel
theorem dX7_bits_8 : decode cX7_bits 8 = .ok (.iinc 1 1, 3) := by decide +kernel
theorem dX7_bits_11 : decode cX7_bits 11 = .ok (.iload_n 2, 1) := by decide +kernel
theorem dX7_bits_12 : decode cX7_bits 12 = .ok (.iload_n 2, 1) := by decide +kernel
theorem dX7_bits_13 : decode cX7_bits 13 = .ok (.iconst 1, 1) := by decide +kernel
theorem dX7_bits_14 : decode cX7_bits 14 = .ok (.isub, 1) := by decide +kernel
theorem dX7_bits_15 : decode cX7_bits 15 = .ok (.iand, 1) := by decide +kernel
theorem dX7_bits_16 : decode cX7_bits 16 = .ok (.istore_n 2, 1) := by decide +kernel
theorem dX7_bits_17 : decode cX7_bits 17 = .ok (.goto (-13), 3) := by decide +kernel
theorem dX7_bits_20 : decode cX7_bits 20 = .ok (.iload_n 1, 1) := by decide +kernel
theorem dX7_bits_21 : decode cX7_bits 21 = .ok (.ireturn, 1) := by decide +kernel
theorem dX7_isSpan_0 : decode cX7_isSpan 0 = .ok (.iload_n 1, 1) := by decide +kernel
theorem dX7_isSpan_1 : decode cX7_isSpan 1 = .ok (.iconst 0, 1) := by decide +kernel
theorem dX7_isSpan_2 : decode cX7_isSpan 2 = .ok (.aload_n 0, 1) := by decide +kernel
theorem dX7_isSpan_3 : decode cX7_isSpan 3 = .ok (.getfield 9, 3) := by decide +kernel
theorem dX7_isSpan_6 : decode cX7_isSpan 6 = .ok (.iconst 2, 1) := by decide +kernel
theorem dX7_isSpan_7 : decode cX7_isSpan 7 = .ok (.iaload, 1) := by decide +kernel
theorem dX7_isSpan_8 : decode cX7_isSpan 8 = .ok (.iconst 1, 1) := by decide +kernel
theorem dX7_isSpan_9 : decode cX7_isSpan 9 = .ok (.isub, 1) := by decide +kernel
theorem dX7_isSpan_10 : decode cX7_isSpan 10 = .ok (.invokestatic 54, 3) := by decide +kernel
theorem dX7_isSpan_13 : decode cX7_isSpan 13 = .ok (.ireturn, 1) := by decide +kernel
theorem dX7_isPlace_0 : decode cX7_isPlace 0 = .ok (.iload_n 0, 1) := by decide +kernel
theorem dX7_isPlace_1 : decode cX7_isPlace 1 = .ok (.iconst 0, 1) := by decide +kernel
theorem dX7_isPlace_2 : decode cX7_isPlace 2 = .ok (.bipush 7, 2) := by decide +kernel
theorem dX7_isPlace_4 : decode cX7_isPlace 4 = .ok (.invokestatic 54, 3) := by decide +kernel
theorem dX7_isPlace_7 : decode cX7_isPlace 7 = .ok (.ireturn, 1) := by decide +kernel
theorem dX7_areTwo_0 : decode cX7_areTwo 0 = .ok (.iload_n 0, 1) := by decide +kernel
theorem dX7_areTwo_1 : decode cX7_areTwo 1 = .ok (.invokestatic 58, 3) := by decide +kernel
theorem dX7_areTwo_4 : decode cX7_areTwo 4 = .ok (.ifCond .eq 19, 3) := by decide +kernel
theorem dX7_areTwo_7 : decode cX7_areTwo 7 = .ok (.iload_n 1, 1) := by decide +kernel
theorem dX7_areTwo_8 : decode cX7_areTwo 8 = .ok (.invokestatic 58, 3) := by decide +kernel
theorem dX7_areTwo_11 : decode cX7_areTwo 11 = .ok (.ifCond .eq 12, 3) := by decide +kernel
theorem dX7_areTwo_14 : decode cX7_areTwo 14 = .ok (.iload_n 0, 1) := by decide +kernel
theorem dX7_areTwo_15 : decode cX7_areTwo 15 = .ok (.iload_n 1, 1) := by decide +kernel
theorem dX7_areTwo_16 : decode cX7_areTwo 16 = .ok (.if_icmp .eq 7, 3) := by decide +kernel
theorem dX7_areTwo_19 : decode cX7_areTwo 19 = .ok (.iconst 1, 1) := by decide +kernel
theorem dX7_areTwo_20 : decode cX7_areTwo 20 = .ok (.goto 4, 3) := by decide +kernel
theorem dX7_areTwo_23 : decode cX7_areTwo 23 = .ok (.iconst 0, 1) := by decide +kernel
theorem dX7_areTwo_24 : decode cX7_areTwo 24 = .ok (.ireturn, 1) := by decide +kernel
theorem dX7_isLoad_0 : decode cX7_isLoad 0 = .ok (.iload_n 0, 1) := by decide +kernel
theorem dX7_isLoad_1 : decode cX7_isLoad 1 = .ok (.iconst 0, 1) := by decide +kernel
theorem dX7_isLoad_2 : decode cX7_isLoad 2 = .ok (.bipush 99, 2) := by decide +kernel
theorem dX7_isLoad_4 : decode cX7_isLoad 4 = .ok (.invokestatic 54, 3) := by decide +kernel
theorem dX7_isLoad_7 : decode cX7_isLoad 7 = .ok (.ireturn, 1) := by decide +kernel
theorem dX7_becomes_0 : decode cX7_becomes 0 = .ok (.aload_n 0, 1) := by decide +kernel
theorem dX7_becomes_1 : decode cX7_becomes 1 = .ok (.getfield 9, 3) := by decide +kernel
theorem dX7_becomes_4 : decode cX7_becomes 4 = .ok (.iload_n 1, 1) := by decide +kernel
theorem dX7_becomes_5 : decode cX7_becomes 5 = .ok (.iaload, 1) := by decide +kernel
theorem dX7_becomes_6 : decode cX7_becomes 6 = .ok (.istore_n 3, 1) := by decide +kernel
theorem dX7_becomes_7 : decode cX7_becomes 7 = .ok (.aload_n 0, 1) := by decide +kernel
theorem dX7_becomes_8 : decode cX7_becomes 8 = .ok (.getfield 9, 3) := by decide +kernel
theorem dX7_becomes_11 : decode cX7_becomes 11 = .ok (.iload_n 1, 1) := by decide +kernel
theorem dX7_becomes_12 : decode cX7_becomes 12 = .ok (.iload_n 2, 1) := by decide +kernel
theorem dX7_becomes_13 : decode cX7_becomes 13 = .ok (.iastore, 1) := by decide +kernel
theorem dX7_becomes_14 : decode cX7_becomes 14 = .ok (.iload_n 3, 1) := by decide +kernel
theorem dX7_becomes_15 : decode cX7_becomes 15 = .ok (.ireturn, 1) := by decide +kernel
theorem dX7_of_0 : decode cX7_of 0 = .ok (.aload_n 0, 1) := by decide +kernel
theorem dX7_of_1 : decode cX7_of 1 = .ok (.getfield 9, 3) := by decide +kernel
theorem dX7_of_4 : decode cX7_of 4 = .ok (.bipush 9, 2) := by decide +kernel
theorem dX7_of_6 : decode cX7_of 6 = .ok (.bipush 7, 2) := by decide +kernel
theorem dX7_of_8 : decode cX7_of 8 = .ok (.iload_n 1, 1) := by decide +kernel
theorem dX7_of_9 : decode cX7_of 9 = .ok (.imul, 1) := by decide +kernel
theorem dX7_of_10 : decode cX7_of 10 = .ok (.iadd, 1) := by decide +kernel
theorem dX7_of_11 : decode cX7_of 11 = .ok (.iload_n 2, 1) := by decide +kernel
theorem dX7_of_12 : decode cX7_of 12 = .ok (.iadd, 1) := by decide +kernel
theorem dX7_of_13 : decode cX7_of 13 = .ok (.iaload, 1) := by decide +kernel
theorem dX7_of_14 : decode cX7_of 14 = .ok (.ireturn, 1) := by decide +kernel
theorem dX7_lets_0 : decode cX7_lets 0 = .ok (.aload_n 0, 1) := by decide +kernel
theorem dX7_lets_1 : decode cX7_lets 1 = .ok (.getfield 9, 3) := by decide +kernel
theorem dX7_lets_4 : decode cX7_lets 4 = .ok (.bipush 9, 2) := by decide +kernel
theorem dX7_lets_6 : decode cX7_lets 6 = .ok (.bipush 7, 2) := by decide +kernel
theorem dX7_lets_8 : decode cX7_lets 8 = .ok (.iload_n 1, 1) := by decide +kernel
theorem dX7_lets_9 : decode cX7_lets 9 = .ok (.imul, 1) := by decide +kernel
theorem dX7_lets_10 : decode cX7_lets 10 = .ok (.iadd, 1) := by decide +kernel
theorem dX7_lets_11 : decode cX7_lets 11 = .ok (.iload_n 2, 1) := by decide +kernel
theorem dX7_lets_12 : decode cX7_lets 12 = .ok (.iadd, 1) := by decide +kernel
theorem dX7_lets_13 : decode cX7_lets 13 = .ok (.iload_n 3, 1) := by decide +kernel
theorem dX7_lets_14 : decode cX7_lets 14 = .ok (.iastore, 1) := by decide +kernel
theorem dX7_lets_15 : decode cX7_lets 15 = .ok (.return_, 1) := by decide +kernel
theorem dX7_bearsBy_0 : decode cX7_bearsBy 0 = .ok (.aload_n 0, 1) := by decide +kernel
theorem dX7_bearsBy_1 : decode cX7_bearsBy 1 = .ok (.iload_n 1, 1) := by decide +kernel
theorem dX7_bearsBy_2 : decode cX7_bearsBy 2 = .ok (.iconst 1, 1) := by decide +kernel
theorem dX7_bearsBy_3 : decode cX7_bearsBy 3 = .ok (.invokevirtual 62, 3) := by decide +kernel
theorem dX7_bearsBy_6 : decode cX7_bearsBy 6 = .ok (.istore 4, 2) := by decide +kernel
theorem dX7_bearsBy_8 : decode cX7_bearsBy 8 = .ok (.bipush 20, 2) := by decide +kernel
theorem dX7_bearsBy_10 : decode cX7_bearsBy 10 = .ok (.iconst 2, 1) := by decide +kernel
theorem dX7_bearsBy_11 : decode cX7_bearsBy 11 = .ok (.iload_n 2, 1) := by decide +kernel
theorem dX7_bearsBy_12 : decode cX7_bearsBy 12 = .ok (.imul, 1) := by decide +kernel
theorem dX7_bearsBy_13 : decode cX7_bearsBy 13 = .ok (.isub, 1) := by decide +kernel
theorem dX7_bearsBy_14 : decode cX7_bearsBy 14 = .ok (.iconst 3, 1) := by decide +kernel
theorem dX7_bearsBy_15 : decode cX7_bearsBy 15 = .ok (.iload_n 3, 1) := by decide +kernel
theorem dX7_bearsBy_16 : decode cX7_bearsBy 16 = .ok (.imul, 1) := by decide +kernel
theorem dX7_bearsBy_17 : decode cX7_bearsBy 17 = .ok (.isub, 1) := by decide +kernel
theorem dX7_bearsBy_18 : decode cX7_bearsBy 18 = .ok (.iconst 0, 1) := by decide +kernel
theorem dX7_bearsBy_19 : decode cX7_bearsBy 19 = .ok (.bipush 20, 2) := by decide +kernel
theorem dX7_bearsBy_21 : decode cX7_bearsBy 21 = .ok (.invokestatic 66, 3) := by decide +kernel
theorem dX7_bearsBy_24 : decode cX7_bearsBy 24 = .ok (.iload 4, 2) := by decide +kernel
theorem dX7_bearsBy_26 : decode cX7_bearsBy 26 = .ok (.iadd, 1) := by decide +kernel
theorem dX7_bearsBy_27 : decode cX7_bearsBy 27 = .ok (.istore 5, 2) := by decide +kernel
theorem dX7_bearsBy_29 : decode cX7_bearsBy 29 = .ok (.iload 5, 2) := by decide +kernel
theorem dX7_bearsBy_31 : decode cX7_bearsBy 31 = .ok (.bipush 8, 2) := by decide +kernel
theorem dX7_bearsBy_33 : decode cX7_bearsBy 33 = .ok (.if_icmp .le 11, 3) := by decide +kernel
theorem dX7_bearsBy_36 : decode cX7_bearsBy 36 = .ok (.iload 5, 2) := by decide +kernel
theorem dX7_bearsBy_38 : decode cX7_bearsBy 38 = .ok (.bipush 8, 2) := by decide +kernel
theorem dX7_bearsBy_40 : decode cX7_bearsBy 40 = .ok (.isub, 1) := by decide +kernel
theorem dX7_bearsBy_41 : decode cX7_bearsBy 41 = .ok (.goto 4, 3) := by decide +kernel
theorem dX7_bearsBy_44 : decode cX7_bearsBy 44 = .ok (.iconst 0, 1) := by decide +kernel
theorem dX7_bearsBy_45 : decode cX7_bearsBy 45 = .ok (.istore 6, 2) := by decide +kernel
theorem dX7_bearsBy_47 : decode cX7_bearsBy 47 = .ok (.aload_n 0, 1) := by decide +kernel
theorem dX7_bearsBy_48 : decode cX7_bearsBy 48 = .ok (.iload_n 1, 1) := by decide +kernel
theorem dX7_bearsBy_49 : decode cX7_bearsBy 49 = .ok (.iconst 0, 1) := by decide +kernel
theorem dX7_bearsBy_50 : decode cX7_bearsBy 50 = .ok (.invokevirtual 62, 3) := by decide +kernel
theorem dX7_bearsBy_53 : decode cX7_bearsBy 53 = .ok (.tableswitch 101 1 6 #[39, 45, 48, 61, 81, 88], 39) := by decide +kernel
theorem dX7_bearsBy_92 : decode cX7_bearsBy 92 = .ok (.iload 5, 2) := by decide +kernel
theorem dX7_bearsBy_94 : decode cX7_bearsBy 94 = .ok (.bipush 10, 2) := by decide +kernel
theorem dX7_bearsBy_96 : decode cX7_bearsBy 96 = .ok (.iadd, 1) := by decide +kernel
theorem dX7_bearsBy_97 : decode cX7_bearsBy 97 = .ok (.ireturn, 1) := by decide +kernel
theorem dX7_bearsBy_98 : decode cX7_bearsBy 98 = .ok (.iload 6, 2) := by decide +kernel
theorem dX7_bearsBy_100 : decode cX7_bearsBy 100 = .ok (.ireturn, 1) := by decide +kernel
theorem dX7_bearsBy_101 : decode cX7_bearsBy 101 = .ok (.bipush 8, 2) := by decide +kernel
theorem dX7_bearsBy_103 : decode cX7_bearsBy 103 = .ok (.iconst 2, 1) := by decide +kernel
theorem dX7_bearsBy_104 : decode cX7_bearsBy 104 = .ok (.iload_n 2, 1) := by decide +kernel
theorem dX7_bearsBy_105 : decode cX7_bearsBy 105 = .ok (.imul, 1) := by decide +kernel
theorem dX7_bearsBy_106 : decode cX7_bearsBy 106 = .ok (.iadd, 1) := by decide +kernel
theorem dX7_bearsBy_107 : decode cX7_bearsBy 107 = .ok (.iconst 0, 1) := by decide +kernel
theorem dX7_bearsBy_108 : decode cX7_bearsBy 108 = .ok (.bipush 40, 2) := by decide +kernel
theorem dX7_bearsBy_110 : decode cX7_bearsBy 110 = .ok (.invokestatic 66, 3) := by decide +kernel
theorem dX7_bearsBy_113 : decode cX7_bearsBy 113 = .ok (.ireturn, 1) := by decide +kernel
theorem dX7_bearsBy_114 : decode cX7_bearsBy 114 = .ok (.iload_n 2, 1) := by decide +kernel
theorem dX7_bearsBy_115 : decode cX7_bearsBy 115 = .ok (.bipush 10, 2) := by decide +kernel
theorem dX7_bearsBy_117 : decode cX7_bearsBy 117 = .ok (.if_icmp .le 11, 3) := by decide +kernel
theorem dX7_bearsBy_120 : decode cX7_bearsBy 120 = .ok (.bipush 60, 2) := by decide +kernel
theorem dX7_bearsBy_122 : decode cX7_bearsBy 122 = .ok (.iload 4, 2) := by decide +kernel
theorem dX7_bearsBy_124 : decode cX7_bearsBy 124 = .ok (.iadd, 1) := by decide +kernel
theorem dX7_bearsBy_125 : decode cX7_bearsBy 125 = .ok (.goto 8, 3) := by decide +kernel
theorem dX7_bearsBy_128 : decode cX7_bearsBy 128 = .ok (.iload 5, 2) := by decide +kernel
theorem dX7_bearsBy_130 : decode cX7_bearsBy 130 = .ok (.bipush 10, 2) := by decide +kernel
theorem dX7_bearsBy_132 : decode cX7_bearsBy 132 = .ok (.iadd, 1) := by decide +kernel
theorem dX7_bearsBy_133 : decode cX7_bearsBy 133 = .ok (.ireturn, 1) := by decide +kernel
theorem dX7_bearsBy_134 : decode cX7_bearsBy 134 = .ok (.iload 6, 2) := by decide +kernel
theorem dX7_bearsBy_136 : decode cX7_bearsBy 136 = .ok (.iconst 2, 1) := by decide +kernel
theorem dX7_bearsBy_137 : decode cX7_bearsBy 137 = .ok (.iload_n 3, 1) := by decide +kernel
theorem dX7_bearsBy_138 : decode cX7_bearsBy 138 = .ok (.imul, 1) := by decide +kernel
theorem dX7_bearsBy_139 : decode cX7_bearsBy 139 = .ok (.iadd, 1) := by decide +kernel
theorem dX7_bearsBy_140 : decode cX7_bearsBy 140 = .ok (.ireturn, 1) := by decide +kernel
theorem dX7_bearsBy_141 : decode cX7_bearsBy 141 = .ok (.iload 5, 2) := by decide +kernel
theorem dX7_bearsBy_143 : decode cX7_bearsBy 143 = .ok (.aload_n 0, 1) := by decide +kernel
theorem dX7_bearsBy_144 : decode cX7_bearsBy 144 = .ok (.getfield 9, 3) := by decide +kernel
theorem dX7_bearsBy_147 : decode cX7_bearsBy 147 = .ok (.iconst 0, 1) := by decide +kernel
theorem dX7_bearsBy_148 : decode cX7_bearsBy 148 = .ok (.iaload, 1) := by decide +kernel
theorem dX7_bearsBy_149 : decode cX7_bearsBy 149 = .ok (.bipush 7, 2) := by decide +kernel
theorem dX7_bearsBy_151 : decode cX7_bearsBy 151 = .ok (.irem, 1) := by decide +kernel
theorem dX7_bearsBy_152 : decode cX7_bearsBy 152 = .ok (.iadd, 1) := by decide +kernel
theorem dX7_bearsBy_153 : decode cX7_bearsBy 153 = .ok (.ireturn, 1) := by decide +kernel
theorem dX7_bearsBy_154 : decode cX7_bearsBy 154 = .ok (.iload 5, 2) := by decide +kernel
theorem dX7_bearsBy_156 : decode cX7_bearsBy 156 = .ok (.ireturn, 1) := by decide +kernel
theorem dX7_bearsOf_0 : decode cX7_bearsOf 0 = .ok (.aload_n 0, 1) := by decide +kernel
theorem dX7_bearsOf_1 : decode cX7_bearsOf 1 = .ok (.iload_n 1, 1) := by decide +kernel
theorem dX7_bearsOf_2 : decode cX7_bearsOf 2 = .ok (.bipush 6, 2) := by decide +kernel
theorem dX7_bearsOf_4 : decode cX7_bearsOf 4 = .ok (.invokevirtual 62, 3) := by decide +kernel
theorem dX7_bearsOf_7 : decode cX7_bearsOf 7 = .ok (.iconst 1, 1) := by decide +kernel
theorem dX7_bearsOf_8 : decode cX7_bearsOf 8 = .ok (.if_icmp .ne 7, 3) := by decide +kernel
theorem dX7_bearsOf_11 : decode cX7_bearsOf 11 = .ok (.iconst (-1), 1) := by decide +kernel
theorem dX7_bearsOf_12 : decode cX7_bearsOf 12 = .ok (.goto 20, 3) := by decide +kernel
theorem dX7_bearsOf_15 : decode cX7_bearsOf 15 = .ok (.aload_n 0, 1) := by decide +kernel
theorem dX7_bearsOf_16 : decode cX7_bearsOf 16 = .ok (.iload_n 1, 1) := by decide +kernel
theorem dX7_bearsOf_17 : decode cX7_bearsOf 17 = .ok (.aload_n 0, 1) := by decide +kernel
theorem dX7_bearsOf_18 : decode cX7_bearsOf 18 = .ok (.iload_n 1, 1) := by decide +kernel
theorem dX7_bearsOf_19 : decode cX7_bearsOf 19 = .ok (.iconst 4, 1) := by decide +kernel
theorem dX7_bearsOf_20 : decode cX7_bearsOf 20 = .ok (.invokevirtual 62, 3) := by decide +kernel
theorem dX7_bearsOf_23 : decode cX7_bearsOf 23 = .ok (.aload_n 0, 1) := by decide +kernel
theorem dX7_bearsOf_24 : decode cX7_bearsOf 24 = .ok (.iload_n 1, 1) := by decide +kernel
theorem dX7_bearsOf_25 : decode cX7_bearsOf 25 = .ok (.iconst 5, 1) := by decide +kernel
theorem dX7_bearsOf_26 : decode cX7_bearsOf 26 = .ok (.invokevirtual 62, 3) := by decide +kernel
theorem dX7_bearsOf_29 : decode cX7_bearsOf 29 = .ok (.invokevirtual 70, 3) := by decide +kernel
theorem dX7_bearsOf_32 : decode cX7_bearsOf 32 = .ok (.ireturn, 1) := by decide +kernel
theorem dX7_takesOf_0 : decode cX7_takesOf 0 = .ok (.aload_n 0, 1) := by decide +kernel
theorem dX7_takesOf_1 : decode cX7_takesOf 1 = .ok (.iload_n 1, 1) := by decide +kernel
theorem dX7_takesOf_2 : decode cX7_takesOf 2 = .ok (.iconst 1, 1) := by decide +kernel
theorem dX7_takesOf_3 : decode cX7_takesOf 3 = .ok (.invokevirtual 62, 3) := by decide +kernel
theorem dX7_takesOf_6 : decode cX7_takesOf 6 = .ok (.istore_n 2, 1) := by decide +kernel
theorem dX7_takesOf_7 : decode cX7_takesOf 7 = .ok (.aload_n 0, 1) := by decide +kernel
theorem dX7_takesOf_8 : decode cX7_takesOf 8 = .ok (.iload_n 1, 1) := by decide +kernel
theorem dX7_takesOf_9 : decode cX7_takesOf 9 = .ok (.iconst 0, 1) := by decide +kernel
theorem dX7_takesOf_10 : decode cX7_takesOf 10 = .ok (.invokevirtual 62, 3) := by decide +kernel
theorem dX7_takesOf_13 : decode cX7_takesOf 13 = .ok (.tableswitch 73 1 6 #[39, 44, 73, 51, 55, 71], 39) := by decide +kernel
theorem dX7_takesOf_52 : decode cX7_takesOf 52 = .ok (.bipush 8, 2) := by decide +kernel
theorem dX7_takesOf_54 : decode cX7_takesOf 54 = .ok (.iload_n 2, 1) := by decide +kernel
theorem dX7_takesOf_55 : decode cX7_takesOf 55 = .ok (.iadd, 1) := by decide +kernel
theorem dX7_takesOf_56 : decode cX7_takesOf 56 = .ok (.ireturn, 1) := by decide +kernel
theorem dX7_takesOf_57 : decode cX7_takesOf 57 = .ok (.bipush 10, 2) := by decide +kernel
theorem dX7_takesOf_59 : decode cX7_takesOf 59 = .ok (.iconst 2, 1) := by decide +kernel
theorem dX7_takesOf_60 : decode cX7_takesOf 60 = .ok (.iload_n 2, 1) := by decide +kernel
theorem dX7_takesOf_61 : decode cX7_takesOf 61 = .ok (.imul, 1) := by decide +kernel
theorem dX7_takesOf_62 : decode cX7_takesOf 62 = .ok (.iadd, 1) := by decide +kernel
theorem dX7_takesOf_63 : decode cX7_takesOf 63 = .ok (.ireturn, 1) := by decide +kernel
theorem dX7_takesOf_64 : decode cX7_takesOf 64 = .ok (.iconst 4, 1) := by decide +kernel
theorem dX7_takesOf_65 : decode cX7_takesOf 65 = .ok (.iload_n 2, 1) := by decide +kernel
theorem dX7_takesOf_66 : decode cX7_takesOf 66 = .ok (.iadd, 1) := by decide +kernel
theorem dX7_takesOf_67 : decode cX7_takesOf 67 = .ok (.ireturn, 1) := by decide +kernel
theorem dX7_takesOf_68 : decode cX7_takesOf 68 = .ok (.bipush 10, 2) := by decide +kernel
theorem dX7_takesOf_70 : decode cX7_takesOf 70 = .ok (.iconst 2, 1) := by decide +kernel
theorem dX7_takesOf_71 : decode cX7_takesOf 71 = .ok (.iload_n 2, 1) := by decide +kernel
theorem dX7_takesOf_72 : decode cX7_takesOf 72 = .ok (.imul, 1) := by decide +kernel
theorem dX7_takesOf_73 : decode cX7_takesOf 73 = .ok (.iadd, 1) := by decide +kernel
theorem dX7_takesOf_74 : decode cX7_takesOf 74 = .ok (.aload_n 0, 1) := by decide +kernel
theorem dX7_takesOf_75 : decode cX7_takesOf 75 = .ok (.iload_n 1, 1) := by decide +kernel
theorem dX7_takesOf_76 : decode cX7_takesOf 76 = .ok (.iconst 4, 1) := by decide +kernel
theorem dX7_takesOf_77 : decode cX7_takesOf 77 = .ok (.invokevirtual 62, 3) := by decide +kernel
theorem dX7_takesOf_80 : decode cX7_takesOf 80 = .ok (.iconst 3, 1) := by decide +kernel
theorem dX7_takesOf_81 : decode cX7_takesOf 81 = .ok (.irem, 1) := by decide +kernel
theorem dX7_takesOf_82 : decode cX7_takesOf 82 = .ok (.iadd, 1) := by decide +kernel
theorem dX7_takesOf_83 : decode cX7_takesOf 83 = .ok (.ireturn, 1) := by decide +kernel
theorem dX7_takesOf_84 : decode cX7_takesOf 84 = .ok (.iconst 0, 1) := by decide +kernel
theorem dX7_takesOf_85 : decode cX7_takesOf 85 = .ok (.ireturn, 1) := by decide +kernel
theorem dX7_takesOf_86 : decode cX7_takesOf 86 = .ok (.iconst 5, 1) := by decide +kernel
theorem dX7_takesOf_87 : decode cX7_takesOf 87 = .ok (.iload_n 2, 1) := by decide +kernel
theorem dX7_takesOf_88 : decode cX7_takesOf 88 = .ok (.iadd, 1) := by decide +kernel
theorem dX7_takesOf_89 : decode cX7_takesOf 89 = .ok (.ireturn, 1) := by decide +kernel
theorem dX7_isKm_0 : decode cX7_isKm 0 = .ok (.iload_n 0, 1) := by decide +kernel
theorem dX7_isKm_1 : decode cX7_isKm 1 = .ok (.iconst 0, 1) := by decide +kernel
theorem dX7_isKm_2 : decode cX7_isKm 2 = .ok (.bipush 69, 2) := by decide +kernel
theorem dX7_isKm_4 : decode cX7_isKm 4 = .ok (.invokestatic 54, 3) := by decide +kernel
theorem dX7_isKm_7 : decode cX7_isKm 7 = .ok (.ireturn, 1) := by decide +kernel
theorem dX7_span_0 : decode cX7_span 0 = .ok (.iload_n 1, 1) := by decide +kernel
theorem dX7_span_1 : decode cX7_span 1 = .ok (.invokestatic 73, 3) := by decide +kernel
theorem dX7_span_4 : decode cX7_span 4 = .ok (.ifCond .eq 11, 3) := by decide +kernel
theorem dX7_span_7 : decode cX7_span 7 = .ok (.iload_n 2, 1) := by decide +kernel
theorem dX7_span_8 : decode cX7_span 8 = .ok (.iload_n 3, 1) := by decide +kernel
theorem dX7_span_9 : decode cX7_span 9 = .ok (.invokestatic 76, 3) := by decide +kernel
theorem dX7_span_12 : decode cX7_span 12 = .ok (.ifCond .ne 10, 3) := by decide +kernel
theorem dX7_span_15 : decode cX7_span 15 = .ok (.aload_n 0, 1) := by decide +kernel
theorem dX7_span_16 : decode cX7_span 16 = .ok (.ldc 80, 2) := by decide +kernel
theorem dX7_span_18 : decode cX7_span 18 = .ok (.invokevirtual 81, 3) := by decide +kernel
theorem dX7_span_21 : decode cX7_span 21 = .ok (.ireturn, 1) := by decide +kernel
theorem dX7_span_22 : decode cX7_span 22 = .ok (.aload_n 0, 1) := by decide +kernel
theorem dX7_span_23 : decode cX7_span 23 = .ok (.getfield 9, 3) := by decide +kernel
theorem dX7_span_26 : decode cX7_span 26 = .ok (.iconst 2, 1) := by decide +kernel
theorem dX7_span_27 : decode cX7_span 27 = .ok (.iaload, 1) := by decide +kernel
theorem dX7_span_28 : decode cX7_span 28 = .ok (.istore 4, 2) := by decide +kernel
theorem dX7_span_30 : decode cX7_span 30 = .ok (.iload 4, 2) := by decide +kernel
theorem dX7_span_32 : decode cX7_span 32 = .ok (.bipush 9, 2) := by decide +kernel
theorem dX7_span_34 : decode cX7_span 34 = .ok (.if_icmp .ne 10, 3) := by decide +kernel
theorem dX7_span_37 : decode cX7_span 37 = .ok (.aload_n 0, 1) := by decide +kernel
theorem dX7_span_38 : decode cX7_span 38 = .ok (.ldc 85, 2) := by decide +kernel
theorem dX7_span_40 : decode cX7_span 40 = .ok (.invokevirtual 81, 3) := by decide +kernel
theorem dX7_span_43 : decode cX7_span 43 = .ok (.ireturn, 1) := by decide +kernel
theorem dX7_span_44 : decode cX7_span 44 = .ok (.aload_n 0, 1) := by decide +kernel
theorem dX7_span_45 : decode cX7_span 45 = .ok (.getfield 9, 3) := by decide +kernel
theorem dX7_span_48 : decode cX7_span 48 = .ok (.iconst 2, 1) := by decide +kernel
theorem dX7_span_49 : decode cX7_span 49 = .ok (.dup2, 1) := by decide +kernel
theorem dX7_span_50 : decode cX7_span 50 = .ok (.iaload, 1) := by decide +kernel
theorem dX7_span_51 : decode cX7_span 51 = .ok (.iconst 1, 1) := by decide +kernel
theorem dX7_span_52 : decode cX7_span 52 = .ok (.iadd, 1) := by decide +kernel
theorem dX7_span_53 : decode cX7_span 53 = .ok (.iastore, 1) := by decide +kernel
theorem dX7_span_54 : decode cX7_span 54 = .ok (.aload_n 0, 1) := by decide +kernel
theorem dX7_span_55 : decode cX7_span 55 = .ok (.iload 4, 2) := by decide +kernel
theorem dX7_span_57 : decode cX7_span 57 = .ok (.iconst 0, 1) := by decide +kernel
theorem dX7_span_58 : decode cX7_span 58 = .ok (.iload_n 1, 1) := by decide +kernel
theorem dX7_span_59 : decode cX7_span 59 = .ok (.bipush 10, 2) := by decide +kernel
theorem dX7_span_61 : decode cX7_span 61 = .ok (.idiv, 1) := by decide +kernel
theorem dX7_span_62 : decode cX7_span 62 = .ok (.invokevirtual 86, 3) := by decide +kernel
theorem dX7_span_65 : decode cX7_span 65 = .ok (.aload_n 0, 1) := by decide +kernel
theorem dX7_span_66 : decode cX7_span 66 = .ok (.iload 4, 2) := by decide +kernel
theorem dX7_span_68 : decode cX7_span 68 = .ok (.iconst 1, 1) := by decide +kernel
theorem dX7_span_69 : decode cX7_span 69 = .ok (.iload_n 1, 1) := by decide +kernel
theorem dX7_span_70 : decode cX7_span 70 = .ok (.bipush 10, 2) := by decide +kernel
theorem dX7_span_72 : decode cX7_span 72 = .ok (.irem, 1) := by decide +kernel
theorem dX7_span_73 : decode cX7_span 73 = .ok (.invokevirtual 86, 3) := by decide +kernel
theorem dX7_span_76 : decode cX7_span 76 = .ok (.aload_n 0, 1) := by decide +kernel
theorem dX7_span_77 : decode cX7_span 77 = .ok (.iload 4, 2) := by decide +kernel
theorem dX7_span_79 : decode cX7_span 79 = .ok (.iconst 2, 1) := by decide +kernel
theorem dX7_span_80 : decode cX7_span 80 = .ok (.iload_n 2, 1) := by decide +kernel
theorem dX7_span_81 : decode cX7_span 81 = .ok (.invokevirtual 86, 3) := by decide +kernel
theorem dX7_span_84 : decode cX7_span 84 = .ok (.aload_n 0, 1) := by decide +kernel
theorem dX7_span_85 : decode cX7_span 85 = .ok (.iload 4, 2) := by decide +kernel
theorem dX7_span_87 : decode cX7_span 87 = .ok (.iconst 3, 1) := by decide +kernel
theorem dX7_span_88 : decode cX7_span 88 = .ok (.iload_n 3, 1) := by decide +kernel
theorem dX7_span_89 : decode cX7_span 89 = .ok (.invokevirtual 86, 3) := by decide +kernel
theorem dX7_span_92 : decode cX7_span 92 = .ok (.aload_n 0, 1) := by decide +kernel
theorem dX7_span_93 : decode cX7_span 93 = .ok (.iload 4, 2) := by decide +kernel
theorem dX7_span_95 : decode cX7_span 95 = .ok (.iconst 4, 1) := by decide +kernel
theorem dX7_span_96 : decode cX7_span 96 = .ok (.iconst 0, 1) := by decide +kernel
theorem dX7_span_97 : decode cX7_span 97 = .ok (.invokevirtual 86, 3) := by decide +kernel
theorem dX7_span_100 : decode cX7_span 100 = .ok (.aload_n 0, 1) := by decide +kernel
theorem dX7_span_101 : decode cX7_span 101 = .ok (.iload 4, 2) := by decide +kernel
theorem dX7_span_103 : decode cX7_span 103 = .ok (.iconst 5, 1) := by decide +kernel
theorem dX7_span_104 : decode cX7_span 104 = .ok (.iconst 0, 1) := by decide +kernel
theorem dX7_span_105 : decode cX7_span 105 = .ok (.invokevirtual 86, 3) := by decide +kernel
theorem dX7_span_108 : decode cX7_span 108 = .ok (.aload_n 0, 1) := by decide +kernel
theorem dX7_span_109 : decode cX7_span 109 = .ok (.iload 4, 2) := by decide +kernel
theorem dX7_span_111 : decode cX7_span 111 = .ok (.bipush 6, 2) := by decide +kernel
theorem dX7_span_113 : decode cX7_span 113 = .ok (.iconst 0, 1) := by decide +kernel
theorem dX7_span_114 : decode cX7_span 114 = .ok (.invokevirtual 86, 3) := by decide +kernel
theorem dX7_span_117 : decode cX7_span 117 = .ok (.iload 4, 2) := by decide +kernel
theorem dX7_span_119 : decode cX7_span 119 = .ok (.ireturn, 1) := by decide +kernel
theorem dX7_spanIs_0 : decode cX7_spanIs 0 = .ok (.aload_n 0, 1) := by decide +kernel
theorem dX7_spanIs_1 : decode cX7_spanIs 1 = .ok (.iload_n 1, 1) := by decide +kernel
theorem dX7_spanIs_2 : decode cX7_spanIs 2 = .ok (.invokevirtual 90, 3) := by decide +kernel
theorem dX7_spanIs_5 : decode cX7_spanIs 5 = .ok (.ifCond .eq 13, 3) := by decide +kernel
theorem dX7_spanIs_8 : decode cX7_spanIs 8 = .ok (.iload_n 2, 1) := by decide +kernel
theorem dX7_spanIs_9 : decode cX7_spanIs 9 = .ok (.iconst 0, 1) := by decide +kernel
theorem dX7_spanIs_10 : decode cX7_spanIs 10 = .ok (.bipush 8, 2) := by decide +kernel
theorem dX7_spanIs_12 : decode cX7_spanIs 12 = .ok (.invokestatic 54, 3) := by decide +kernel
theorem dX7_spanIs_15 : decode cX7_spanIs 15 = .ok (.ifCond .ne 10, 3) := by decide +kernel
theorem dX7_spanIs_18 : decode cX7_spanIs 18 = .ok (.aload_n 0, 1) := by decide +kernel
theorem dX7_spanIs_19 : decode cX7_spanIs 19 = .ok (.ldc 80, 2) := by decide +kernel
theorem dX7_spanIs_21 : decode cX7_spanIs 21 = .ok (.invokevirtual 81, 3) := by decide +kernel
theorem dX7_spanIs_24 : decode cX7_spanIs 24 = .ok (.ireturn, 1) := by decide +kernel
theorem dX7_spanIs_25 : decode cX7_spanIs 25 = .ok (.iload_n 2, 1) := by decide +kernel
theorem dX7_spanIs_26 : decode cX7_spanIs 26 = .ok (.bipush 7, 2) := by decide +kernel
theorem dX7_spanIs_28 : decode cX7_spanIs 28 = .ok (.if_icmp .ge 12, 3) := by decide +kernel
theorem dX7_spanIs_31 : decode cX7_spanIs 31 = .ok (.aload_n 0, 1) := by decide +kernel
theorem dX7_spanIs_32 : decode cX7_spanIs 32 = .ok (.iload_n 1, 1) := by decide +kernel
theorem dX7_spanIs_33 : decode cX7_spanIs 33 = .ok (.iload_n 2, 1) := by decide +kernel
theorem dX7_spanIs_34 : decode cX7_spanIs 34 = .ok (.invokevirtual 62, 3) := by decide +kernel
theorem dX7_spanIs_37 : decode cX7_spanIs 37 = .ok (.goto 22, 3) := by decide +kernel
theorem dX7_spanIs_40 : decode cX7_spanIs 40 = .ok (.iload_n 2, 1) := by decide +kernel
theorem dX7_spanIs_41 : decode cX7_spanIs 41 = .ok (.bipush 7, 2) := by decide +kernel
theorem dX7_spanIs_43 : decode cX7_spanIs 43 = .ok (.if_icmp .ne 11, 3) := by decide +kernel
theorem dX7_spanIs_46 : decode cX7_spanIs 46 = .ok (.aload_n 0, 1) := by decide +kernel
theorem dX7_spanIs_47 : decode cX7_spanIs 47 = .ok (.iload_n 1, 1) := by decide +kernel
theorem dX7_spanIs_48 : decode cX7_spanIs 48 = .ok (.invokevirtual 93, 3) := by decide +kernel
theorem dX7_spanIs_51 : decode cX7_spanIs 51 = .ok (.goto 8, 3) := by decide +kernel
theorem dX7_spanIs_54 : decode cX7_spanIs 54 = .ok (.aload_n 0, 1) := by decide +kernel
theorem dX7_spanIs_55 : decode cX7_spanIs 55 = .ok (.iload_n 1, 1) := by decide +kernel
theorem dX7_spanIs_56 : decode cX7_spanIs 56 = .ok (.invokevirtual 96, 3) := by decide +kernel
theorem dX7_spanIs_59 : decode cX7_spanIs 59 = .ok (.ireturn, 1) := by decide +kernel
theorem dX7_become_0 : decode cX7_become 0 = .ok (.aload_n 0, 1) := by decide +kernel
theorem dX7_become_1 : decode cX7_become 1 = .ok (.iload_n 1, 1) := by decide +kernel
theorem dX7_become_2 : decode cX7_become 2 = .ok (.invokevirtual 90, 3) := by decide +kernel
theorem dX7_become_5 : decode cX7_become 5 = .ok (.ifCond .eq 10, 3) := by decide +kernel
theorem dX7_become_8 : decode cX7_become 8 = .ok (.iload_n 2, 1) := by decide +kernel
theorem dX7_become_9 : decode cX7_become 9 = .ok (.invokestatic 73, 3) := by decide +kernel
theorem dX7_become_12 : decode cX7_become 12 = .ok (.ifCond .ne 10, 3) := by decide +kernel
theorem dX7_become_15 : decode cX7_become 15 = .ok (.aload_n 0, 1) := by decide +kernel
theorem dX7_become_16 : decode cX7_become 16 = .ok (.ldc 80, 2) := by decide +kernel
theorem dX7_become_18 : decode cX7_become 18 = .ok (.invokevirtual 81, 3) := by decide +kernel
theorem dX7_become_21 : decode cX7_become 21 = .ok (.ireturn, 1) := by decide +kernel
theorem dX7_become_22 : decode cX7_become 22 = .ok (.aload_n 0, 1) := by decide +kernel
theorem dX7_become_23 : decode cX7_become 23 = .ok (.iload_n 1, 1) := by decide +kernel
theorem dX7_become_24 : decode cX7_become 24 = .ok (.iconst 1, 1) := by decide +kernel
theorem dX7_become_25 : decode cX7_become 25 = .ok (.iload_n 2, 1) := by decide +kernel
theorem dX7_become_26 : decode cX7_become 26 = .ok (.bipush 10, 2) := by decide +kernel
theorem dX7_become_28 : decode cX7_become 28 = .ok (.irem, 1) := by decide +kernel
theorem dX7_become_29 : decode cX7_become 29 = .ok (.invokevirtual 86, 3) := by decide +kernel
theorem dX7_become_32 : decode cX7_become 32 = .ok (.aload_n 0, 1) := by decide +kernel
theorem dX7_become_33 : decode cX7_become 33 = .ok (.bipush 9, 2) := by decide +kernel
theorem dX7_become_35 : decode cX7_become 35 = .ok (.bipush 7, 2) := by decide +kernel
theorem dX7_become_37 : decode cX7_become 37 = .ok (.iload_n 1, 1) := by decide +kernel
theorem dX7_become_38 : decode cX7_become 38 = .ok (.imul, 1) := by decide +kernel
theorem dX7_become_39 : decode cX7_become 39 = .ok (.iadd, 1) := by decide +kernel
theorem dX7_become_40 : decode cX7_become 40 = .ok (.iload_n 2, 1) := by decide +kernel
theorem dX7_become_41 : decode cX7_become 41 = .ok (.bipush 10, 2) := by decide +kernel
theorem dX7_become_43 : decode cX7_become 43 = .ok (.idiv, 1) := by decide +kernel
theorem dX7_become_44 : decode cX7_become 44 = .ok (.invokevirtual 99, 3) := by decide +kernel
theorem dX7_become_47 : decode cX7_become 47 = .ok (.ireturn, 1) := by decide +kernel
theorem dX7_as_0 : decode cX7_as 0 = .ok (.aload_n 0, 1) := by decide +kernel
theorem dX7_as_1 : decode cX7_as 1 = .ok (.iload_n 1, 1) := by decide +kernel
theorem dX7_as_2 : decode cX7_as 2 = .ok (.invokevirtual 90, 3) := by decide +kernel
theorem dX7_as_5 : decode cX7_as 5 = .ok (.ifCond .eq 13, 3) := by decide +kernel
theorem dX7_as_8 : decode cX7_as 8 = .ok (.iload_n 2, 1) := by decide +kernel
theorem dX7_as_9 : decode cX7_as 9 = .ok (.iconst 0, 1) := by decide +kernel
theorem dX7_as_10 : decode cX7_as 10 = .ok (.bipush 6, 2) := by decide +kernel
theorem dX7_as_12 : decode cX7_as 12 = .ok (.invokestatic 54, 3) := by decide +kernel
theorem dX7_as_15 : decode cX7_as 15 = .ok (.ifCond .ne 10, 3) := by decide +kernel
theorem dX7_as_18 : decode cX7_as 18 = .ok (.aload_n 0, 1) := by decide +kernel
theorem dX7_as_19 : decode cX7_as 19 = .ok (.ldc 80, 2) := by decide +kernel
theorem dX7_as_21 : decode cX7_as 21 = .ok (.invokevirtual 81, 3) := by decide +kernel
theorem dX7_as_24 : decode cX7_as 24 = .ok (.ireturn, 1) := by decide +kernel
theorem dX7_as_25 : decode cX7_as 25 = .ok (.aload_n 0, 1) := by decide +kernel
theorem dX7_as_26 : decode cX7_as 26 = .ok (.iload_n 1, 1) := by decide +kernel
theorem dX7_as_27 : decode cX7_as 27 = .ok (.iconst 0, 1) := by decide +kernel
theorem dX7_as_28 : decode cX7_as 28 = .ok (.invokevirtual 62, 3) := by decide +kernel
theorem dX7_as_31 : decode cX7_as 31 = .ok (.istore_n 3, 1) := by decide +kernel
theorem dX7_as_32 : decode cX7_as 32 = .ok (.iload_n 2, 1) := by decide +kernel
theorem dX7_as_33 : decode cX7_as 33 = .ok (.ifCond .eq 28, 3) := by decide +kernel
theorem dX7_as_36 : decode cX7_as 36 = .ok (.iload_n 2, 1) := by decide +kernel
theorem dX7_as_37 : decode cX7_as 37 = .ok (.iload_n 3, 1) := by decide +kernel
theorem dX7_as_38 : decode cX7_as 38 = .ok (.if_icmp .eq 23, 3) := by decide +kernel
theorem dX7_as_41 : decode cX7_as 41 = .ok (.iload_n 2, 1) := by decide +kernel
theorem dX7_as_42 : decode cX7_as 42 = .ok (.iconst 1, 1) := by decide +kernel
theorem dX7_as_43 : decode cX7_as 43 = .ok (.if_icmp .ne 8, 3) := by decide +kernel
theorem dX7_as_46 : decode cX7_as 46 = .ok (.iload_n 3, 1) := by decide +kernel
theorem dX7_as_47 : decode cX7_as 47 = .ok (.iconst 4, 1) := by decide +kernel
theorem dX7_as_48 : decode cX7_as 48 = .ok (.if_icmp .eq 13, 3) := by decide +kernel
theorem dX7_as_51 : decode cX7_as 51 = .ok (.iload_n 2, 1) := by decide +kernel
theorem dX7_as_52 : decode cX7_as 52 = .ok (.iconst 2, 1) := by decide +kernel
theorem dX7_as_53 : decode cX7_as 53 = .ok (.if_icmp .ne 12, 3) := by decide +kernel
theorem dX7_as_56 : decode cX7_as 56 = .ok (.iload_n 3, 1) := by decide +kernel
theorem dX7_as_57 : decode cX7_as 57 = .ok (.iconst 5, 1) := by decide +kernel
theorem dX7_as_58 : decode cX7_as 58 = .ok (.if_icmp .ne 7, 3) := by decide +kernel
theorem dX7_as_61 : decode cX7_as 61 = .ok (.iconst 1, 1) := by decide +kernel
theorem dX7_as_62 : decode cX7_as 62 = .ok (.goto 4, 3) := by decide +kernel
theorem dX7_as_65 : decode cX7_as 65 = .ok (.iconst 0, 1) := by decide +kernel
theorem dX7_as_66 : decode cX7_as 66 = .ok (.istore 4, 2) := by decide +kernel
theorem dX7_as_68 : decode cX7_as 68 = .ok (.iload 4, 2) := by decide +kernel
theorem dX7_as_70 : decode cX7_as 70 = .ok (.ifCond .eq 12, 3) := by decide +kernel
theorem dX7_as_73 : decode cX7_as 73 = .ok (.aload_n 0, 1) := by decide +kernel
theorem dX7_as_74 : decode cX7_as 74 = .ok (.iload_n 1, 1) := by decide +kernel
theorem dX7_as_75 : decode cX7_as 75 = .ok (.iconst 1, 1) := by decide +kernel
theorem dX7_as_76 : decode cX7_as 76 = .ok (.invokevirtual 62, 3) := by decide +kernel
theorem dX7_as_79 : decode cX7_as 79 = .ok (.goto 9, 3) := by decide +kernel
theorem dX7_as_82 : decode cX7_as 82 = .ok (.aload_n 0, 1) := by decide +kernel
theorem dX7_as_83 : decode cX7_as 83 = .ok (.ldc 102, 2) := by decide +kernel
theorem dX7_as_85 : decode cX7_as 85 = .ok (.invokevirtual 81, 3) := by decide +kernel
theorem dX7_as_88 : decode cX7_as 88 = .ok (.ireturn, 1) := by decide +kernel
theorem dX7_soak_0 : decode cX7_soak 0 = .ok (.aload_n 0, 1) := by decide +kernel
theorem dX7_soak_1 : decode cX7_soak 1 = .ok (.iload_n 1, 1) := by decide +kernel
theorem dX7_soak_2 : decode cX7_soak 2 = .ok (.invokevirtual 90, 3) := by decide +kernel
theorem dX7_soak_5 : decode cX7_soak 5 = .ok (.ifCond .eq 30, 3) := by decide +kernel
theorem dX7_soak_8 : decode cX7_soak 8 = .ok (.iload_n 2, 1) := by decide +kernel
theorem dX7_soak_9 : decode cX7_soak 9 = .ok (.iconst 0, 1) := by decide +kernel
theorem dX7_soak_10 : decode cX7_soak 10 = .ok (.bipush 9, 2) := by decide +kernel
theorem dX7_soak_12 : decode cX7_soak 12 = .ok (.invokestatic 54, 3) := by decide +kernel
theorem dX7_soak_15 : decode cX7_soak 15 = .ok (.ifCond .eq 20, 3) := by decide +kernel
theorem dX7_soak_18 : decode cX7_soak 18 = .ok (.aload_n 0, 1) := by decide +kernel
theorem dX7_soak_19 : decode cX7_soak 19 = .ok (.bipush 9, 2) := by decide +kernel
theorem dX7_soak_21 : decode cX7_soak 21 = .ok (.bipush 7, 2) := by decide +kernel
theorem dX7_soak_23 : decode cX7_soak 23 = .ok (.iload_n 1, 1) := by decide +kernel
theorem dX7_soak_24 : decode cX7_soak 24 = .ok (.imul, 1) := by decide +kernel
theorem dX7_soak_25 : decode cX7_soak 25 = .ok (.iadd, 1) := by decide +kernel
theorem dX7_soak_26 : decode cX7_soak 26 = .ok (.iconst 5, 1) := by decide +kernel
theorem dX7_soak_27 : decode cX7_soak 27 = .ok (.iadd, 1) := by decide +kernel
theorem dX7_soak_28 : decode cX7_soak 28 = .ok (.iload_n 2, 1) := by decide +kernel
theorem dX7_soak_29 : decode cX7_soak 29 = .ok (.invokevirtual 99, 3) := by decide +kernel
theorem dX7_soak_32 : decode cX7_soak 32 = .ok (.goto 9, 3) := by decide +kernel
theorem dX7_soak_35 : decode cX7_soak 35 = .ok (.aload_n 0, 1) := by decide +kernel
theorem dX7_soak_36 : decode cX7_soak 36 = .ok (.ldc 80, 2) := by decide +kernel
theorem dX7_soak_38 : decode cX7_soak 38 = .ok (.invokevirtual 81, 3) := by decide +kernel
theorem dX7_soak_41 : decode cX7_soak 41 = .ok (.ireturn, 1) := by decide +kernel
theorem dX7_bakes_0 : decode cX7_bakes 0 = .ok (.aload_n 0, 1) := by decide +kernel
theorem dX7_bakes_1 : decode cX7_bakes 1 = .ok (.iload_n 1, 1) := by decide +kernel
theorem dX7_bakes_2 : decode cX7_bakes 2 = .ok (.invokevirtual 90, 3) := by decide +kernel
theorem dX7_bakes_5 : decode cX7_bakes 5 = .ok (.ifCond .ne 10, 3) := by decide +kernel
theorem dX7_bakes_8 : decode cX7_bakes 8 = .ok (.aload_n 0, 1) := by decide +kernel
theorem dX7_bakes_9 : decode cX7_bakes 9 = .ok (.ldc 80, 2) := by decide +kernel
theorem dX7_bakes_11 : decode cX7_bakes 11 = .ok (.invokevirtual 81, 3) := by decide +kernel
theorem dX7_bakes_14 : decode cX7_bakes 14 = .ok (.ireturn, 1) := by decide +kernel
theorem dX7_bakes_15 : decode cX7_bakes 15 = .ok (.aload_n 0, 1) := by decide +kernel
theorem dX7_bakes_16 : decode cX7_bakes 16 = .ok (.iload_n 1, 1) := by decide +kernel
theorem dX7_bakes_17 : decode cX7_bakes 17 = .ok (.invokevirtual 96, 3) := by decide +kernel
theorem dX7_bakes_20 : decode cX7_bakes 20 = .ok (.istore_n 2, 1) := by decide +kernel
theorem dX7_bakes_21 : decode cX7_bakes 21 = .ok (.aload_n 0, 1) := by decide +kernel
theorem dX7_bakes_22 : decode cX7_bakes 22 = .ok (.getfield 9, 3) := by decide +kernel
theorem dX7_bakes_25 : decode cX7_bakes 25 = .ok (.iconst 3, 1) := by decide +kernel
theorem dX7_bakes_26 : decode cX7_bakes 26 = .ok (.iaload, 1) := by decide +kernel
theorem dX7_bakes_27 : decode cX7_bakes 27 = .ok (.iload_n 2, 1) := by decide +kernel
theorem dX7_bakes_28 : decode cX7_bakes 28 = .ok (.if_icmp .ge 10, 3) := by decide +kernel
theorem dX7_bakes_31 : decode cX7_bakes 31 = .ok (.aload_n 0, 1) := by decide +kernel
theorem dX7_bakes_32 : decode cX7_bakes 32 = .ok (.ldc 103, 2) := by decide +kernel
theorem dX7_bakes_34 : decode cX7_bakes 34 = .ok (.invokevirtual 81, 3) := by decide +kernel
theorem dX7_bakes_37 : decode cX7_bakes 37 = .ok (.ireturn, 1) := by decide +kernel
theorem dX7_bakes_38 : decode cX7_bakes 38 = .ok (.aload_n 0, 1) := by decide +kernel
theorem dX7_bakes_39 : decode cX7_bakes 39 = .ok (.getfield 9, 3) := by decide +kernel
theorem dX7_bakes_42 : decode cX7_bakes 42 = .ok (.iconst 3, 1) := by decide +kernel
theorem dX7_bakes_43 : decode cX7_bakes 43 = .ok (.dup2, 1) := by decide +kernel
theorem dX7_bakes_44 : decode cX7_bakes 44 = .ok (.iaload, 1) := by decide +kernel
theorem dX7_bakes_45 : decode cX7_bakes 45 = .ok (.iload_n 2, 1) := by decide +kernel
theorem dX7_bakes_46 : decode cX7_bakes 46 = .ok (.isub, 1) := by decide +kernel
theorem dX7_bakes_47 : decode cX7_bakes 47 = .ok (.iastore, 1) := by decide +kernel
theorem dX7_bakes_48 : decode cX7_bakes 48 = .ok (.aload_n 0, 1) := by decide +kernel
theorem dX7_bakes_49 : decode cX7_bakes 49 = .ok (.iload_n 1, 1) := by decide +kernel
theorem dX7_bakes_50 : decode cX7_bakes 50 = .ok (.iconst 4, 1) := by decide +kernel
theorem dX7_bakes_51 : decode cX7_bakes 51 = .ok (.iconst 0, 1) := by decide +kernel
theorem dX7_bakes_52 : decode cX7_bakes 52 = .ok (.invokevirtual 86, 3) := by decide +kernel
theorem dX7_bakes_55 : decode cX7_bakes 55 = .ok (.aload_n 0, 1) := by decide +kernel
theorem dX7_bakes_56 : decode cX7_bakes 56 = .ok (.iload_n 1, 1) := by decide +kernel
theorem dX7_bakes_57 : decode cX7_bakes 57 = .ok (.iconst 5, 1) := by decide +kernel
theorem dX7_bakes_58 : decode cX7_bakes 58 = .ok (.iconst 0, 1) := by decide +kernel
theorem dX7_bakes_59 : decode cX7_bakes 59 = .ok (.invokevirtual 86, 3) := by decide +kernel
theorem dX7_bakes_62 : decode cX7_bakes 62 = .ok (.aload_n 0, 1) := by decide +kernel
theorem dX7_bakes_63 : decode cX7_bakes 63 = .ok (.iload_n 1, 1) := by decide +kernel
theorem dX7_bakes_64 : decode cX7_bakes 64 = .ok (.bipush 6, 2) := by decide +kernel
theorem dX7_bakes_66 : decode cX7_bakes 66 = .ok (.iconst 0, 1) := by decide +kernel
theorem dX7_bakes_67 : decode cX7_bakes 67 = .ok (.invokevirtual 86, 3) := by decide +kernel
theorem dX7_bakes_70 : decode cX7_bakes 70 = .ok (.iload_n 2, 1) := by decide +kernel
theorem dX7_bakes_71 : decode cX7_bakes 71 = .ok (.ireturn, 1) := by decide +kernel
theorem dX7_eat_0 : decode cX7_eat 0 = .ok (.aload_n 0, 1) := by decide +kernel
theorem dX7_eat_1 : decode cX7_eat 1 = .ok (.iload_n 1, 1) := by decide +kernel
theorem dX7_eat_2 : decode cX7_eat 2 = .ok (.invokevirtual 90, 3) := by decide +kernel
theorem dX7_eat_5 : decode cX7_eat 5 = .ok (.ifCond .eq 21, 3) := by decide +kernel
theorem dX7_eat_8 : decode cX7_eat 8 = .ok (.aload_n 0, 1) := by decide +kernel
theorem dX7_eat_9 : decode cX7_eat 9 = .ok (.bipush 9, 2) := by decide +kernel
theorem dX7_eat_11 : decode cX7_eat 11 = .ok (.bipush 7, 2) := by decide +kernel
theorem dX7_eat_13 : decode cX7_eat 13 = .ok (.iload_n 1, 1) := by decide +kernel
theorem dX7_eat_14 : decode cX7_eat 14 = .ok (.imul, 1) := by decide +kernel
theorem dX7_eat_15 : decode cX7_eat 15 = .ok (.iadd, 1) := by decide +kernel
theorem dX7_eat_16 : decode cX7_eat 16 = .ok (.bipush 6, 2) := by decide +kernel
theorem dX7_eat_18 : decode cX7_eat 18 = .ok (.iadd, 1) := by decide +kernel
theorem dX7_eat_19 : decode cX7_eat 19 = .ok (.iconst 1, 1) := by decide +kernel
theorem dX7_eat_20 : decode cX7_eat 20 = .ok (.invokevirtual 99, 3) := by decide +kernel
theorem dX7_eat_23 : decode cX7_eat 23 = .ok (.goto 9, 3) := by decide +kernel
theorem dX7_eat_26 : decode cX7_eat 26 = .ok (.aload_n 0, 1) := by decide +kernel
theorem dX7_eat_27 : decode cX7_eat 27 = .ok (.ldc 80, 2) := by decide +kernel
theorem dX7_eat_29 : decode cX7_eat 29 = .ok (.invokevirtual 81, 3) := by decide +kernel
theorem dX7_eat_32 : decode cX7_eat 32 = .ok (.ireturn, 1) := by decide +kernel
theorem dX7_store_0 : decode cX7_store 0 = .ok (.iload_n 1, 1) := by decide +kernel
theorem dX7_store_1 : decode cX7_store 1 = .ok (.iconst 0, 1) := by decide +kernel
theorem dX7_store_2 : decode cX7_store 2 = .ok (.iconst 1, 1) := by decide +kernel
theorem dX7_store_3 : decode cX7_store 3 = .ok (.invokestatic 54, 3) := by decide +kernel
theorem dX7_store_6 : decode cX7_store 6 = .ok (.ifCond .eq 27, 3) := by decide +kernel
theorem dX7_store_9 : decode cX7_store 9 = .ok (.iload_n 2, 1) := by decide +kernel
theorem dX7_store_10 : decode cX7_store 10 = .ok (.iconst 0, 1) := by decide +kernel
theorem dX7_store_11 : decode cX7_store 11 = .ok (.iload_n 1, 1) := by decide +kernel
theorem dX7_store_12 : decode cX7_store 12 = .ok (.ifCond .ne 9, 3) := by decide +kernel
theorem dX7_store_15 : decode cX7_store 15 = .ok (.sipush 9999, 3) := by decide +kernel
theorem dX7_store_18 : decode cX7_store 18 = .ok (.goto 5, 3) := by decide +kernel
theorem dX7_store_21 : decode cX7_store 21 = .ok (.bipush 9, 2) := by decide +kernel
theorem dX7_store_23 : decode cX7_store 23 = .ok (.invokestatic 54, 3) := by decide +kernel
theorem dX7_store_26 : decode cX7_store 26 = .ok (.ifCond .eq 7, 3) := by decide +kernel
theorem dX7_store_29 : decode cX7_store 29 = .ok (.iconst 1, 1) := by decide +kernel
theorem dX7_store_30 : decode cX7_store 30 = .ok (.goto 4, 3) := by decide +kernel
theorem dX7_store_33 : decode cX7_store 33 = .ok (.iconst 0, 1) := by decide +kernel
theorem dX7_store_34 : decode cX7_store 34 = .ok (.istore_n 3, 1) := by decide +kernel
theorem dX7_store_35 : decode cX7_store 35 = .ok (.iload_n 3, 1) := by decide +kernel
theorem dX7_store_36 : decode cX7_store 36 = .ok (.ifCond .eq 14, 3) := by decide +kernel
theorem dX7_store_39 : decode cX7_store 39 = .ok (.aload_n 0, 1) := by decide +kernel
theorem dX7_store_40 : decode cX7_store 40 = .ok (.iconst 3, 1) := by decide +kernel
theorem dX7_store_41 : decode cX7_store 41 = .ok (.iload_n 1, 1) := by decide +kernel
theorem dX7_store_42 : decode cX7_store 42 = .ok (.iadd, 1) := by decide +kernel
theorem dX7_store_43 : decode cX7_store 43 = .ok (.iload_n 2, 1) := by decide +kernel
theorem dX7_store_44 : decode cX7_store 44 = .ok (.invokevirtual 99, 3) := by decide +kernel
theorem dX7_store_47 : decode cX7_store 47 = .ok (.goto 9, 3) := by decide +kernel
theorem dX7_store_50 : decode cX7_store 50 = .ok (.aload_n 0, 1) := by decide +kernel
theorem dX7_store_51 : decode cX7_store 51 = .ok (.ldc 80, 2) := by decide +kernel
theorem dX7_store_53 : decode cX7_store 53 = .ok (.invokevirtual 81, 3) := by decide +kernel
theorem dX7_store_56 : decode cX7_store 56 = .ok (.ireturn, 1) := by decide +kernel
theorem dX7_crosses_0 : decode cX7_crosses 0 = .ok (.aload_n 0, 1) := by decide +kernel
theorem dX7_crosses_1 : decode cX7_crosses 1 = .ok (.iload_n 1, 1) := by decide +kernel
theorem dX7_crosses_2 : decode cX7_crosses 2 = .ok (.invokevirtual 93, 3) := by decide +kernel
theorem dX7_crosses_5 : decode cX7_crosses 5 = .ok (.istore_n 3, 1) := by decide +kernel
theorem dX7_crosses_6 : decode cX7_crosses 6 = .ok (.iload_n 3, 1) := by decide +kernel
theorem dX7_crosses_7 : decode cX7_crosses 7 = .ok (.iload_n 2, 1) := by decide +kernel
theorem dX7_crosses_8 : decode cX7_crosses 8 = .ok (.if_icmp .ge 33, 3) := by decide +kernel
theorem dX7_crosses_11 : decode cX7_crosses 11 = .ok (.aload_n 0, 1) := by decide +kernel
theorem dX7_crosses_12 : decode cX7_crosses 12 = .ok (.iload_n 1, 1) := by decide +kernel
theorem dX7_crosses_13 : decode cX7_crosses 13 = .ok (.bipush 6, 2) := by decide +kernel
theorem dX7_crosses_15 : decode cX7_crosses 15 = .ok (.iconst 1, 1) := by decide +kernel
theorem dX7_crosses_16 : decode cX7_crosses 16 = .ok (.invokevirtual 86, 3) := by decide +kernel
theorem dX7_crosses_19 : decode cX7_crosses 19 = .ok (.aload_n 0, 1) := by decide +kernel
theorem dX7_crosses_20 : decode cX7_crosses 20 = .ok (.getfield 9, 3) := by decide +kernel
theorem dX7_crosses_23 : decode cX7_crosses 23 = .ok (.iconst 5, 1) := by decide +kernel
theorem dX7_crosses_24 : decode cX7_crosses 24 = .ok (.aload_n 0, 1) := by decide +kernel
theorem dX7_crosses_25 : decode cX7_crosses 25 = .ok (.getfield 9, 3) := by decide +kernel
theorem dX7_crosses_28 : decode cX7_crosses 28 = .ok (.iconst 5, 1) := by decide +kernel
theorem dX7_crosses_29 : decode cX7_crosses 29 = .ok (.iaload, 1) := by decide +kernel
theorem dX7_crosses_30 : decode cX7_crosses 30 = .ok (.iload_n 2, 1) := by decide +kernel
theorem dX7_crosses_31 : decode cX7_crosses 31 = .ok (.iadd, 1) := by decide +kernel
theorem dX7_crosses_32 : decode cX7_crosses 32 = .ok (.iconst 0, 1) := by decide +kernel
theorem dX7_crosses_33 : decode cX7_crosses 33 = .ok (.ldc 104, 2) := by decide +kernel
theorem dX7_crosses_35 : decode cX7_crosses 35 = .ok (.invokestatic 66, 3) := by decide +kernel
theorem dX7_crosses_38 : decode cX7_crosses 38 = .ok (.iastore, 1) := by decide +kernel
theorem dX7_crosses_39 : decode cX7_crosses 39 = .ok (.iconst (-1), 1) := by decide +kernel
theorem dX7_crosses_40 : decode cX7_crosses 40 = .ok (.ireturn, 1) := by decide +kernel
theorem dX7_crosses_41 : decode cX7_crosses 41 = .ok (.aload_n 0, 1) := by decide +kernel
theorem dX7_crosses_42 : decode cX7_crosses 42 = .ok (.iconst 1, 1) := by decide +kernel
theorem dX7_crosses_43 : decode cX7_crosses 43 = .ok (.iload_n 2, 1) := by decide +kernel
theorem dX7_crosses_44 : decode cX7_crosses 44 = .ok (.iload_n 3, 1) := by decide +kernel
theorem dX7_crosses_45 : decode cX7_crosses 45 = .ok (.aload_n 0, 1) := by decide +kernel
theorem dX7_crosses_46 : decode cX7_crosses 46 = .ok (.iload_n 1, 1) := by decide +kernel
theorem dX7_crosses_47 : decode cX7_crosses 47 = .ok (.iconst 1, 1) := by decide +kernel
theorem dX7_crosses_48 : decode cX7_crosses 48 = .ok (.invokevirtual 62, 3) := by decide +kernel
theorem dX7_crosses_51 : decode cX7_crosses 51 = .ok (.invokevirtual 105, 3) := by decide +kernel
theorem dX7_crosses_54 : decode cX7_crosses 54 = .ok (.istore 4, 2) := by decide +kernel
theorem dX7_crosses_56 : decode cX7_crosses 56 = .ok (.aload_n 0, 1) := by decide +kernel
theorem dX7_crosses_57 : decode cX7_crosses 57 = .ok (.getfield 9, 3) := by decide +kernel
theorem dX7_crosses_60 : decode cX7_crosses 60 = .ok (.bipush 6, 2) := by decide +kernel
theorem dX7_crosses_62 : decode cX7_crosses 62 = .ok (.aload_n 0, 1) := by decide +kernel
theorem dX7_crosses_63 : decode cX7_crosses 63 = .ok (.getfield 9, 3) := by decide +kernel
theorem dX7_crosses_66 : decode cX7_crosses 66 = .ok (.bipush 6, 2) := by decide +kernel
theorem dX7_crosses_68 : decode cX7_crosses 68 = .ok (.iaload, 1) := by decide +kernel
theorem dX7_crosses_69 : decode cX7_crosses 69 = .ok (.iload 4, 2) := by decide +kernel
theorem dX7_crosses_71 : decode cX7_crosses 71 = .ok (.iadd, 1) := by decide +kernel
theorem dX7_crosses_72 : decode cX7_crosses 72 = .ok (.iconst 0, 1) := by decide +kernel
theorem dX7_crosses_73 : decode cX7_crosses 73 = .ok (.ldc 104, 2) := by decide +kernel
theorem dX7_crosses_75 : decode cX7_crosses 75 = .ok (.invokestatic 66, 3) := by decide +kernel
theorem dX7_crosses_78 : decode cX7_crosses 78 = .ok (.iastore, 1) := by decide +kernel
theorem dX7_crosses_79 : decode cX7_crosses 79 = .ok (.iload 4, 2) := by decide +kernel
theorem dX7_crosses_81 : decode cX7_crosses 81 = .ok (.ireturn, 1) := by decide +kernel
theorem dX7_cross_0 : decode cX7_cross 0 = .ok (.aload_n 0, 1) := by decide +kernel
theorem dX7_cross_1 : decode cX7_cross 1 = .ok (.iload_n 1, 1) := by decide +kernel
theorem dX7_cross_2 : decode cX7_cross 2 = .ok (.invokevirtual 90, 3) := by decide +kernel
theorem dX7_cross_5 : decode cX7_cross 5 = .ok (.ifCond .eq 10, 3) := by decide +kernel
theorem dX7_cross_8 : decode cX7_cross 8 = .ok (.iload_n 2, 1) := by decide +kernel
theorem dX7_cross_9 : decode cX7_cross 9 = .ok (.invokestatic 109, 3) := by decide +kernel
theorem dX7_cross_12 : decode cX7_cross 12 = .ok (.ifCond .ne 10, 3) := by decide +kernel
theorem dX7_cross_15 : decode cX7_cross 15 = .ok (.aload_n 0, 1) := by decide +kernel
theorem dX7_cross_16 : decode cX7_cross 16 = .ok (.ldc 80, 2) := by decide +kernel
theorem dX7_cross_18 : decode cX7_cross 18 = .ok (.invokevirtual 81, 3) := by decide +kernel
theorem dX7_cross_21 : decode cX7_cross 21 = .ok (.ireturn, 1) := by decide +kernel
theorem dX7_cross_22 : decode cX7_cross 22 = .ok (.aload_n 0, 1) := by decide +kernel
theorem dX7_cross_23 : decode cX7_cross 23 = .ok (.iload_n 1, 1) := by decide +kernel
theorem dX7_cross_24 : decode cX7_cross 24 = .ok (.bipush 6, 2) := by decide +kernel
theorem dX7_cross_26 : decode cX7_cross 26 = .ok (.invokevirtual 62, 3) := by decide +kernel
theorem dX7_cross_29 : decode cX7_cross 29 = .ok (.iconst 1, 1) := by decide +kernel
theorem dX7_cross_30 : decode cX7_cross 30 = .ok (.if_icmp .ne 12, 3) := by decide +kernel
theorem dX7_cross_33 : decode cX7_cross 33 = .ok (.aload_n 0, 1) := by decide +kernel
theorem dX7_cross_34 : decode cX7_cross 34 = .ok (.ldc 103, 2) := by decide +kernel
theorem dX7_cross_36 : decode cX7_cross 36 = .ok (.invokevirtual 81, 3) := by decide +kernel
theorem dX7_cross_39 : decode cX7_cross 39 = .ok (.goto 9, 3) := by decide +kernel
theorem dX7_cross_42 : decode cX7_cross 42 = .ok (.aload_n 0, 1) := by decide +kernel
theorem dX7_cross_43 : decode cX7_cross 43 = .ok (.iload_n 1, 1) := by decide +kernel
theorem dX7_cross_44 : decode cX7_cross 44 = .ok (.iload_n 2, 1) := by decide +kernel
theorem dX7_cross_45 : decode cX7_cross 45 = .ok (.invokevirtual 112, 3) := by decide +kernel
theorem dX7_cross_48 : decode cX7_cross 48 = .ok (.ireturn, 1) := by decide +kernel
theorem dX7_feed_0 : decode cX7_feed 0 = .ok (.iload_n 3, 1) := by decide +kernel
theorem dX7_feed_1 : decode cX7_feed 1 = .ok (.iconst 1, 1) := by decide +kernel
theorem dX7_feed_2 : decode cX7_feed 2 = .ok (.bipush 8, 2) := by decide +kernel
theorem dX7_feed_4 : decode cX7_feed 4 = .ok (.invokestatic 54, 3) := by decide +kernel
theorem dX7_feed_7 : decode cX7_feed 7 = .ok (.ifCond .ne 10, 3) := by decide +kernel
theorem dX7_feed_10 : decode cX7_feed 10 = .ok (.aload_n 0, 1) := by decide +kernel
theorem dX7_feed_11 : decode cX7_feed 11 = .ok (.ldc 80, 2) := by decide +kernel
theorem dX7_feed_13 : decode cX7_feed 13 = .ok (.invokevirtual 81, 3) := by decide +kernel
theorem dX7_feed_16 : decode cX7_feed 16 = .ok (.ireturn, 1) := by decide +kernel
theorem dX7_feed_17 : decode cX7_feed 17 = .ok (.aload_n 0, 1) := by decide +kernel
theorem dX7_feed_18 : decode cX7_feed 18 = .ok (.getfield 9, 3) := by decide +kernel
theorem dX7_feed_21 : decode cX7_feed 21 = .ok (.bipush 7, 2) := by decide +kernel
theorem dX7_feed_23 : decode cX7_feed 23 = .ok (.iaload, 1) := by decide +kernel
theorem dX7_feed_24 : decode cX7_feed 24 = .ok (.iload_n 3, 1) := by decide +kernel
theorem dX7_feed_25 : decode cX7_feed 25 = .ok (.iadd, 1) := by decide +kernel
theorem dX7_feed_26 : decode cX7_feed 26 = .ok (.bipush 60, 2) := by decide +kernel
theorem dX7_feed_28 : decode cX7_feed 28 = .ok (.if_icmp .le 10, 3) := by decide +kernel
theorem dX7_feed_31 : decode cX7_feed 31 = .ok (.aload_n 0, 1) := by decide +kernel
theorem dX7_feed_32 : decode cX7_feed 32 = .ok (.ldc 85, 2) := by decide +kernel
theorem dX7_feed_34 : decode cX7_feed 34 = .ok (.invokevirtual 81, 3) := by decide +kernel
theorem dX7_feed_37 : decode cX7_feed 37 = .ok (.ireturn, 1) := by decide +kernel
theorem dX7_feed_38 : decode cX7_feed 38 = .ok (.iconst 0, 1) := by decide +kernel
theorem dX7_feed_39 : decode cX7_feed 39 = .ok (.istore 4, 2) := by decide +kernel
theorem dX7_feed_41 : decode cX7_feed 41 = .ok (.iload 4, 2) := by decide +kernel
theorem dX7_feed_43 : decode cX7_feed 43 = .ok (.iload_n 3, 1) := by decide +kernel
theorem dX7_feed_44 : decode cX7_feed 44 = .ok (.if_icmp .ge 47, 3) := by decide +kernel
theorem dX7_feed_47 : decode cX7_feed 47 = .ok (.aload_n 0, 1) := by decide +kernel
theorem dX7_feed_48 : decode cX7_feed 48 = .ok (.getfield 9, 3) := by decide +kernel
theorem dX7_feed_51 : decode cX7_feed 51 = .ok (.bipush 72, 2) := by decide +kernel
theorem dX7_feed_53 : decode cX7_feed 53 = .ok (.aload_n 0, 1) := by decide +kernel
theorem dX7_feed_54 : decode cX7_feed 54 = .ok (.getfield 9, 3) := by decide +kernel
theorem dX7_feed_57 : decode cX7_feed 57 = .ok (.bipush 7, 2) := by decide +kernel
theorem dX7_feed_59 : decode cX7_feed 59 = .ok (.iaload, 1) := by decide +kernel
theorem dX7_feed_60 : decode cX7_feed 60 = .ok (.iadd, 1) := by decide +kernel
theorem dX7_feed_61 : decode cX7_feed 61 = .ok (.lload_n 1, 1) := by decide +kernel
theorem dX7_feed_62 : decode cX7_feed 62 = .ok (.bipush 8, 2) := by decide +kernel
theorem dX7_feed_64 : decode cX7_feed 64 = .ok (.iload 4, 2) := by decide +kernel
theorem dX7_feed_66 : decode cX7_feed 66 = .ok (.imul, 1) := by decide +kernel
theorem dX7_feed_67 : decode cX7_feed 67 = .ok (.lshr, 1) := by decide +kernel
theorem dX7_feed_68 : decode cX7_feed 68 = .ok (.ldc2_w 115, 3) := by decide +kernel
theorem dX7_feed_71 : decode cX7_feed 71 = .ok (.land, 1) := by decide +kernel
theorem dX7_feed_72 : decode cX7_feed 72 = .ok (.l2i, 1) := by decide +kernel
theorem dX7_feed_73 : decode cX7_feed 73 = .ok (.iastore, 1) := by decide +kernel
theorem dX7_feed_74 : decode cX7_feed 74 = .ok (.aload_n 0, 1) := by decide +kernel
theorem dX7_feed_75 : decode cX7_feed 75 = .ok (.getfield 9, 3) := by decide +kernel
theorem dX7_feed_78 : decode cX7_feed 78 = .ok (.bipush 7, 2) := by decide +kernel
theorem dX7_feed_80 : decode cX7_feed 80 = .ok (.dup2, 1) := by decide +kernel
theorem dX7_feed_81 : decode cX7_feed 81 = .ok (.iaload, 1) := by decide +kernel
theorem dX7_feed_82 : decode cX7_feed 82 = .ok (.iconst 1, 1) := by decide +kernel
theorem dX7_feed_83 : decode cX7_feed 83 = .ok (.iadd, 1) := by decide +kernel
theorem dX7_feed_84 : decode cX7_feed 84 = .ok (.iastore, 1) := by decide +kernel
theorem dX7_feed_85 : decode cX7_feed 85 = .ok (.iinc 4 1, 3) := by decide +kernel
theorem dX7_feed_88 : decode cX7_feed 88 = .ok (.goto (-47), 3) := by decide +kernel
theorem dX7_feed_91 : decode cX7_feed 91 = .ok (.aload_n 0, 1) := by decide +kernel
theorem dX7_feed_92 : decode cX7_feed 92 = .ok (.getfield 9, 3) := by decide +kernel
theorem dX7_feed_95 : decode cX7_feed 95 = .ok (.bipush 7, 2) := by decide +kernel
theorem dX7_feed_97 : decode cX7_feed 97 = .ok (.iaload, 1) := by decide +kernel
theorem dX7_feed_98 : decode cX7_feed 98 = .ok (.ireturn, 1) := by decide +kernel
theorem dX7_look_0 : decode cX7_look 0 = .ok (.aload_n 0, 1) := by decide +kernel
theorem dX7_look_1 : decode cX7_look 1 = .ok (.getfield 117, 3) := by decide +kernel
theorem dX7_look_4 : decode cX7_look 4 = .ok (.aload_n 0, 1) := by decide +kernel
theorem dX7_look_5 : decode cX7_look 5 = .ok (.getfield 9, 3) := by decide +kernel
theorem dX7_look_8 : decode cX7_look 8 = .ok (.bipush 7, 2) := by decide +kernel
theorem dX7_look_10 : decode cX7_look 10 = .ok (.iaload, 1) := by decide +kernel
theorem dX7_look_11 : decode cX7_look 11 = .ok (.if_icmp .ge 18, 3) := by decide +kernel
theorem dX7_look_14 : decode cX7_look 14 = .ok (.aload_n 0, 1) := by decide +kernel
theorem dX7_look_15 : decode cX7_look 15 = .ok (.getfield 9, 3) := by decide +kernel
theorem dX7_look_18 : decode cX7_look 18 = .ok (.bipush 72, 2) := by decide +kernel
theorem dX7_look_20 : decode cX7_look 20 = .ok (.aload_n 0, 1) := by decide +kernel
theorem dX7_look_21 : decode cX7_look 21 = .ok (.getfield 117, 3) := by decide +kernel
theorem dX7_look_24 : decode cX7_look 24 = .ok (.iadd, 1) := by decide +kernel
theorem dX7_look_25 : decode cX7_look 25 = .ok (.iaload, 1) := by decide +kernel
theorem dX7_look_26 : decode cX7_look 26 = .ok (.goto 4, 3) := by decide +kernel
theorem dX7_look_29 : decode cX7_look 29 = .ok (.iconst (-1), 1) := by decide +kernel
theorem dX7_look_30 : decode cX7_look 30 = .ok (.ireturn, 1) := by decide +kernel
theorem dX7_step_0 : decode cX7_step 0 = .ok (.aload_n 0, 1) := by decide +kernel
theorem dX7_step_1 : decode cX7_step 1 = .ok (.getfield 121, 3) := by decide +kernel
theorem dX7_step_4 : decode cX7_step 4 = .ok (.aload_n 0, 1) := by decide +kernel
theorem dX7_step_5 : decode cX7_step 5 = .ok (.getfield 31, 3) := by decide +kernel
theorem dX7_step_8 : decode cX7_step 8 = .ok (.arraylength, 1) := by decide +kernel
theorem dX7_step_9 : decode cX7_step 9 = .ok (.if_icmp .ge 33, 3) := by decide +kernel
theorem dX7_step_12 : decode cX7_step 12 = .ok (.aload_n 0, 1) := by decide +kernel
theorem dX7_step_13 : decode cX7_step 13 = .ok (.getfield 31, 3) := by decide +kernel
theorem dX7_step_16 : decode cX7_step 16 = .ok (.aload_n 0, 1) := by decide +kernel
theorem dX7_step_17 : decode cX7_step 17 = .ok (.getfield 121, 3) := by decide +kernel
theorem dX7_step_20 : decode cX7_step 20 = .ok (.iload_n 1, 1) := by decide +kernel
theorem dX7_step_21 : decode cX7_step 21 = .ok (.iastore, 1) := by decide +kernel
theorem dX7_step_22 : decode cX7_step 22 = .ok (.aload_n 0, 1) := by decide +kernel
theorem dX7_step_23 : decode cX7_step 23 = .ok (.getfield 34, 3) := by decide +kernel
theorem dX7_step_26 : decode cX7_step 26 = .ok (.aload_n 0, 1) := by decide +kernel
theorem dX7_step_27 : decode cX7_step 27 = .ok (.getfield 121, 3) := by decide +kernel
theorem dX7_step_30 : decode cX7_step 30 = .ok (.iload_n 2, 1) := by decide +kernel
theorem dX7_step_31 : decode cX7_step 31 = .ok (.iastore, 1) := by decide +kernel
theorem dX7_step_32 : decode cX7_step 32 = .ok (.aload_n 0, 1) := by decide +kernel
theorem dX7_step_33 : decode cX7_step 33 = .ok (.dup, 1) := by decide +kernel
theorem dX7_step_34 : decode cX7_step 34 = .ok (.getfield 121, 3) := by decide +kernel
theorem dX7_step_37 : decode cX7_step 37 = .ok (.iconst 1, 1) := by decide +kernel
theorem dX7_step_38 : decode cX7_step 38 = .ok (.iadd, 1) := by decide +kernel
theorem dX7_step_39 : decode cX7_step 39 = .ok (.putfield 121, 3) := by decide +kernel
theorem dX7_step_42 : decode cX7_step 42 = .ok (.return_, 1) := by decide +kernel
theorem dX7_nameOf_0 : decode cX7_nameOf 0 = .ok (.iload_n 1, 1) := by decide +kernel
theorem dX7_nameOf_1 : decode cX7_nameOf 1 = .ok (.lookupswitch 126 #[(98, 92), (107, 59), (108, 92), (109, 92), (114, 59), (119, 59)], 59) := by decide +kernel
theorem dX7_nameOf_60 : decode cX7_nameOf 60 = .ok (.aload_n 0, 1) := by decide +kernel
theorem dX7_nameOf_61 : decode cX7_nameOf 61 = .ok (.getfield 124, 3) := by decide +kernel
theorem dX7_nameOf_64 : decode cX7_nameOf 64 = .ok (.ifCond .eq 7, 3) := by decide +kernel
theorem dX7_nameOf_67 : decode cX7_nameOf 67 = .ok (.iconst (-1), 1) := by decide +kernel
theorem dX7_nameOf_68 : decode cX7_nameOf 68 = .ok (.goto 24, 3) := by decide +kernel
theorem dX7_nameOf_71 : decode cX7_nameOf 71 = .ok (.iload_n 1, 1) := by decide +kernel
theorem dX7_nameOf_72 : decode cX7_nameOf 72 = .ok (.bipush 114, 2) := by decide +kernel
theorem dX7_nameOf_74 : decode cX7_nameOf 74 = .ok (.if_icmp .ne 7, 3) := by decide +kernel
theorem dX7_nameOf_77 : decode cX7_nameOf 77 = .ok (.iconst 0, 1) := by decide +kernel
theorem dX7_nameOf_78 : decode cX7_nameOf 78 = .ok (.goto 14, 3) := by decide +kernel
theorem dX7_nameOf_81 : decode cX7_nameOf 81 = .ok (.iload_n 1, 1) := by decide +kernel
theorem dX7_nameOf_82 : decode cX7_nameOf 82 = .ok (.bipush 119, 2) := by decide +kernel
theorem dX7_nameOf_84 : decode cX7_nameOf 84 = .ok (.if_icmp .ne 7, 3) := by decide +kernel
theorem dX7_nameOf_87 : decode cX7_nameOf 87 = .ok (.iconst 1, 1) := by decide +kernel
theorem dX7_nameOf_88 : decode cX7_nameOf 88 = .ok (.goto 4, 3) := by decide +kernel
theorem dX7_nameOf_91 : decode cX7_nameOf 91 = .ok (.iconst 2, 1) := by decide +kernel
theorem dX7_nameOf_92 : decode cX7_nameOf 92 = .ok (.ireturn, 1) := by decide +kernel
theorem dX7_nameOf_93 : decode cX7_nameOf 93 = .ok (.aload_n 0, 1) := by decide +kernel
theorem dX7_nameOf_94 : decode cX7_nameOf 94 = .ok (.getfield 124, 3) := by decide +kernel
theorem dX7_nameOf_97 : decode cX7_nameOf 97 = .ok (.iconst 1, 1) := by decide +kernel
theorem dX7_nameOf_98 : decode cX7_nameOf 98 = .ok (.if_icmp .eq 7, 3) := by decide +kernel
theorem dX7_nameOf_101 : decode cX7_nameOf 101 = .ok (.iconst (-1), 1) := by decide +kernel
theorem dX7_nameOf_102 : decode cX7_nameOf 102 = .ok (.goto 24, 3) := by decide +kernel
theorem dX7_nameOf_105 : decode cX7_nameOf 105 = .ok (.iload_n 1, 1) := by decide +kernel
theorem dX7_nameOf_106 : decode cX7_nameOf 106 = .ok (.bipush 108, 2) := by decide +kernel
theorem dX7_nameOf_108 : decode cX7_nameOf 108 = .ok (.if_icmp .ne 7, 3) := by decide +kernel
theorem dX7_nameOf_111 : decode cX7_nameOf 111 = .ok (.iconst 0, 1) := by decide +kernel
theorem dX7_nameOf_112 : decode cX7_nameOf 112 = .ok (.goto 14, 3) := by decide +kernel
theorem dX7_nameOf_115 : decode cX7_nameOf 115 = .ok (.iload_n 1, 1) := by decide +kernel
theorem dX7_nameOf_116 : decode cX7_nameOf 116 = .ok (.bipush 98, 2) := by decide +kernel
theorem dX7_nameOf_118 : decode cX7_nameOf 118 = .ok (.if_icmp .ne 7, 3) := by decide +kernel
theorem dX7_nameOf_121 : decode cX7_nameOf 121 = .ok (.iconst 1, 1) := by decide +kernel
theorem dX7_nameOf_122 : decode cX7_nameOf 122 = .ok (.goto 4, 3) := by decide +kernel
theorem dX7_nameOf_125 : decode cX7_nameOf 125 = .ok (.iconst 2, 1) := by decide +kernel
theorem dX7_nameOf_126 : decode cX7_nameOf 126 = .ok (.ireturn, 1) := by decide +kernel
theorem dX7_nameOf_127 : decode cX7_nameOf 127 = .ok (.iconst (-1), 1) := by decide +kernel
theorem dX7_nameOf_128 : decode cX7_nameOf 128 = .ok (.ireturn, 1) := by decide +kernel
theorem dX7_number_0 : decode cX7_number 0 = .ok (.iconst 0, 1) := by decide +kernel
theorem dX7_number_1 : decode cX7_number 1 = .ok (.istore_n 1, 1) := by decide +kernel
theorem dX7_number_2 : decode cX7_number 2 = .ok (.iconst 0, 1) := by decide +kernel
theorem dX7_number_3 : decode cX7_number 3 = .ok (.istore_n 2, 1) := by decide +kernel
theorem dX7_number_4 : decode cX7_number 4 = .ok (.iload_n 2, 1) := by decide +kernel
theorem dX7_number_5 : decode cX7_number 5 = .ok (.iconst 4, 1) := by decide +kernel
theorem dX7_number_6 : decode cX7_number 6 = .ok (.if_icmp .ge 46, 3) := by decide +kernel
theorem dX7_number_9 : decode cX7_number 9 = .ok (.aload_n 0, 1) := by decide +kernel
theorem dX7_number_10 : decode cX7_number 10 = .ok (.invokevirtual 127, 3) := by decide +kernel
theorem dX7_number_13 : decode cX7_number 13 = .ok (.bipush 48, 2) := by decide +kernel
theorem dX7_number_15 : decode cX7_number 15 = .ok (.bipush 57, 2) := by decide +kernel
theorem dX7_number_17 : decode cX7_number 17 = .ok (.invokestatic 54, 3) := by decide +kernel
theorem dX7_number_20 : decode cX7_number 20 = .ok (.ifCond .eq 32, 3) := by decide +kernel
theorem dX7_number_23 : decode cX7_number 23 = .ok (.bipush 10, 2) := by decide +kernel
theorem dX7_number_25 : decode cX7_number 25 = .ok (.iload_n 1, 1) := by decide +kernel
theorem dX7_number_26 : decode cX7_number 26 = .ok (.imul, 1) := by decide +kernel
theorem dX7_number_27 : decode cX7_number 27 = .ok (.aload_n 0, 1) := by decide +kernel
theorem dX7_number_28 : decode cX7_number 28 = .ok (.invokevirtual 127, 3) := by decide +kernel
theorem dX7_number_31 : decode cX7_number 31 = .ok (.iadd, 1) := by decide +kernel
theorem dX7_number_32 : decode cX7_number 32 = .ok (.bipush 48, 2) := by decide +kernel
theorem dX7_number_34 : decode cX7_number 34 = .ok (.isub, 1) := by decide +kernel
theorem dX7_number_35 : decode cX7_number 35 = .ok (.istore_n 1, 1) := by decide +kernel
theorem dX7_number_36 : decode cX7_number 36 = .ok (.aload_n 0, 1) := by decide +kernel
theorem dX7_number_37 : decode cX7_number 37 = .ok (.dup, 1) := by decide +kernel
theorem dX7_number_38 : decode cX7_number 38 = .ok (.getfield 117, 3) := by decide +kernel
theorem dX7_number_41 : decode cX7_number 41 = .ok (.iconst 1, 1) := by decide +kernel
theorem dX7_number_42 : decode cX7_number 42 = .ok (.iadd, 1) := by decide +kernel
theorem dX7_number_43 : decode cX7_number 43 = .ok (.putfield 117, 3) := by decide +kernel
theorem dX7_number_46 : decode cX7_number 46 = .ok (.iinc 2 1, 3) := by decide +kernel
theorem dX7_number_49 : decode cX7_number 49 = .ok (.goto (-45), 3) := by decide +kernel
theorem dX7_number_52 : decode cX7_number 52 = .ok (.aload_n 0, 1) := by decide +kernel
theorem dX7_number_53 : decode cX7_number 53 = .ok (.iload_n 2, 1) := by decide +kernel
theorem dX7_number_54 : decode cX7_number 54 = .ok (.ifCond .ne 7, 3) := by decide +kernel
theorem dX7_number_57 : decode cX7_number 57 = .ok (.iconst 1, 1) := by decide +kernel
theorem dX7_number_58 : decode cX7_number 58 = .ok (.goto 4, 3) := by decide +kernel
theorem dX7_number_61 : decode cX7_number 61 = .ok (.iconst 0, 1) := by decide +kernel
theorem dX7_number_62 : decode cX7_number 62 = .ok (.putfield 131, 3) := by decide +kernel
theorem dX7_number_65 : decode cX7_number 65 = .ok (.aload_n 0, 1) := by decide +kernel
theorem dX7_number_66 : decode cX7_number 66 = .ok (.iconst 1, 1) := by decide +kernel
theorem dX7_number_67 : decode cX7_number 67 = .ok (.iload_n 1, 1) := by decide +kernel
theorem dX7_number_68 : decode cX7_number 68 = .ok (.invokevirtual 135, 3) := by decide +kernel
theorem dX7_number_71 : decode cX7_number 71 = .ok (.return_, 1) := by decide +kernel
theorem dX7_opens_0 : decode cX7_opens 0 = .ok (.aload_n 0, 1) := by decide +kernel
theorem dX7_opens_1 : decode cX7_opens 1 = .ok (.getfield 139, 3) := by decide +kernel
theorem dX7_opens_4 : decode cX7_opens 4 = .ok (.iconst 5, 1) := by decide +kernel
theorem dX7_opens_5 : decode cX7_opens 5 = .ok (.if_icmp .ne 9, 3) := by decide +kernel
theorem dX7_opens_8 : decode cX7_opens 8 = .ok (.aload_n 0, 1) := by decide +kernel
theorem dX7_opens_9 : decode cX7_opens 9 = .ok (.iconst 1, 1) := by decide +kernel
theorem dX7_opens_10 : decode cX7_opens 10 = .ok (.putfield 131, 3) := by decide +kernel
theorem dX7_opens_13 : decode cX7_opens 13 = .ok (.return_, 1) := by decide +kernel
theorem dX7_opens_14 : decode cX7_opens 14 = .ok (.aload_n 0, 1) := by decide +kernel
theorem dX7_opens_15 : decode cX7_opens 15 = .ok (.dup, 1) := by decide +kernel
theorem dX7_opens_16 : decode cX7_opens 16 = .ok (.getfield 139, 3) := by decide +kernel
theorem dX7_opens_19 : decode cX7_opens 19 = .ok (.iconst 1, 1) := by decide +kernel
theorem dX7_opens_20 : decode cX7_opens 20 = .ok (.iadd, 1) := by decide +kernel
theorem dX7_opens_21 : decode cX7_opens 21 = .ok (.putfield 139, 3) := by decide +kernel
theorem dX7_opens_24 : decode cX7_opens 24 = .ok (.aload_n 0, 1) := by decide +kernel
theorem dX7_opens_25 : decode cX7_opens 25 = .ok (.dup, 1) := by decide +kernel
theorem dX7_opens_26 : decode cX7_opens 26 = .ok (.getfield 117, 3) := by decide +kernel
theorem dX7_opens_29 : decode cX7_opens 29 = .ok (.iconst 1, 1) := by decide +kernel
theorem dX7_opens_30 : decode cX7_opens 30 = .ok (.iadd, 1) := by decide +kernel
theorem dX7_opens_31 : decode cX7_opens 31 = .ok (.putfield 117, 3) := by decide +kernel
theorem dX7_opens_34 : decode cX7_opens 34 = .ok (.iload_n 1, 1) := by decide +kernel
theorem dX7_opens_35 : decode cX7_opens 35 = .ok (.bipush 33, 2) := by decide +kernel
theorem dX7_opens_37 : decode cX7_opens 37 = .ok (.if_icmp .ne 16, 3) := by decide +kernel
theorem dX7_opens_40 : decode cX7_opens 40 = .ok (.aload_n 0, 1) := by decide +kernel
theorem dX7_opens_41 : decode cX7_opens 41 = .ok (.invokevirtual 142, 3) := by decide +kernel
theorem dX7_opens_44 : decode cX7_opens 44 = .ok (.aload_n 0, 1) := by decide +kernel
theorem dX7_opens_45 : decode cX7_opens 45 = .ok (.iconst 3, 1) := by decide +kernel
theorem dX7_opens_46 : decode cX7_opens 46 = .ok (.iconst 0, 1) := by decide +kernel
theorem dX7_opens_47 : decode cX7_opens 47 = .ok (.invokevirtual 135, 3) := by decide +kernel
theorem dX7_opens_50 : decode cX7_opens 50 = .ok (.goto 53, 3) := by decide +kernel
theorem dX7_opens_53 : decode cX7_opens 53 = .ok (.aload_n 0, 1) := by decide +kernel
theorem dX7_opens_54 : decode cX7_opens 54 = .ok (.invokevirtual 145, 3) := by decide +kernel
theorem dX7_opens_57 : decode cX7_opens 57 = .ok (.aload_n 0, 1) := by decide +kernel
theorem dX7_opens_58 : decode cX7_opens 58 = .ok (.aload_n 0, 1) := by decide +kernel
theorem dX7_opens_59 : decode cX7_opens 59 = .ok (.getfield 131, 3) := by decide +kernel
theorem dX7_opens_62 : decode cX7_opens 62 = .ok (.ifCond .ne 12, 3) := by decide +kernel
theorem dX7_opens_65 : decode cX7_opens 65 = .ok (.aload_n 0, 1) := by decide +kernel
theorem dX7_opens_66 : decode cX7_opens 66 = .ok (.invokevirtual 127, 3) := by decide +kernel
theorem dX7_opens_69 : decode cX7_opens 69 = .ok (.bipush 41, 2) := by decide +kernel
theorem dX7_opens_71 : decode cX7_opens 71 = .ok (.if_icmp .eq 7, 3) := by decide +kernel
theorem dX7_opens_74 : decode cX7_opens 74 = .ok (.iconst 1, 1) := by decide +kernel
theorem dX7_opens_75 : decode cX7_opens 75 = .ok (.goto 4, 3) := by decide +kernel
theorem dX7_opens_78 : decode cX7_opens 78 = .ok (.iconst 0, 1) := by decide +kernel
theorem dX7_opens_79 : decode cX7_opens 79 = .ok (.putfield 131, 3) := by decide +kernel
theorem dX7_opens_82 : decode cX7_opens 82 = .ok (.aload_n 0, 1) := by decide +kernel
theorem dX7_opens_83 : decode cX7_opens 83 = .ok (.dup, 1) := by decide +kernel
theorem dX7_opens_84 : decode cX7_opens 84 = .ok (.getfield 117, 3) := by decide +kernel
theorem dX7_opens_87 : decode cX7_opens 87 = .ok (.aload_n 0, 1) := by decide +kernel
theorem dX7_opens_88 : decode cX7_opens 88 = .ok (.getfield 131, 3) := by decide +kernel
theorem dX7_opens_91 : decode cX7_opens 91 = .ok (.ifCond .eq 7, 3) := by decide +kernel
theorem dX7_opens_94 : decode cX7_opens 94 = .ok (.iconst 0, 1) := by decide +kernel
theorem dX7_opens_95 : decode cX7_opens 95 = .ok (.goto 4, 3) := by decide +kernel
theorem dX7_opens_98 : decode cX7_opens 98 = .ok (.iconst 1, 1) := by decide +kernel
theorem dX7_opens_99 : decode cX7_opens 99 = .ok (.iadd, 1) := by decide +kernel
theorem dX7_opens_100 : decode cX7_opens 100 = .ok (.putfield 117, 3) := by decide +kernel
theorem dX7_opens_103 : decode cX7_opens 103 = .ok (.aload_n 0, 1) := by decide +kernel
theorem dX7_opens_104 : decode cX7_opens 104 = .ok (.dup, 1) := by decide +kernel
theorem dX7_opens_105 : decode cX7_opens 105 = .ok (.getfield 139, 3) := by decide +kernel
theorem dX7_opens_108 : decode cX7_opens 108 = .ok (.iconst 1, 1) := by decide +kernel
theorem dX7_opens_109 : decode cX7_opens 109 = .ok (.isub, 1) := by decide +kernel
theorem dX7_opens_110 : decode cX7_opens 110 = .ok (.putfield 139, 3) := by decide +kernel
theorem dX7_opens_113 : decode cX7_opens 113 = .ok (.return_, 1) := by decide +kernel
theorem dX7_one_0 : decode cX7_one 0 = .ok (.aload_n 0, 1) := by decide +kernel
theorem dX7_one_1 : decode cX7_one 1 = .ok (.invokevirtual 127, 3) := by decide +kernel
theorem dX7_one_4 : decode cX7_one 4 = .ok (.istore_n 1, 1) := by decide +kernel
theorem dX7_one_5 : decode cX7_one 5 = .ok (.aload_n 0, 1) := by decide +kernel
theorem dX7_one_6 : decode cX7_one 6 = .ok (.iload_n 1, 1) := by decide +kernel
theorem dX7_one_7 : decode cX7_one 7 = .ok (.invokevirtual 148, 3) := by decide +kernel
theorem dX7_one_10 : decode cX7_one 10 = .ok (.istore_n 2, 1) := by decide +kernel
theorem dX7_one_11 : decode cX7_one 11 = .ok (.iload_n 2, 1) := by decide +kernel
theorem dX7_one_12 : decode cX7_one 12 = .ok (.ifCond .lt 22, 3) := by decide +kernel
theorem dX7_one_15 : decode cX7_one 15 = .ok (.aload_n 0, 1) := by decide +kernel
theorem dX7_one_16 : decode cX7_one 16 = .ok (.dup, 1) := by decide +kernel
theorem dX7_one_17 : decode cX7_one 17 = .ok (.getfield 117, 3) := by decide +kernel
theorem dX7_one_20 : decode cX7_one 20 = .ok (.iconst 1, 1) := by decide +kernel
theorem dX7_one_21 : decode cX7_one 21 = .ok (.iadd, 1) := by decide +kernel
theorem dX7_one_22 : decode cX7_one 22 = .ok (.putfield 117, 3) := by decide +kernel
theorem dX7_one_25 : decode cX7_one 25 = .ok (.aload_n 0, 1) := by decide +kernel
theorem dX7_one_26 : decode cX7_one 26 = .ok (.iconst 2, 1) := by decide +kernel
theorem dX7_one_27 : decode cX7_one 27 = .ok (.iload_n 2, 1) := by decide +kernel
theorem dX7_one_28 : decode cX7_one 28 = .ok (.invokevirtual 135, 3) := by decide +kernel
theorem dX7_one_31 : decode cX7_one 31 = .ok (.goto 27, 3) := by decide +kernel
theorem dX7_one_34 : decode cX7_one 34 = .ok (.iload_n 1, 1) := by decide +kernel
theorem dX7_one_35 : decode cX7_one 35 = .ok (.bipush 33, 2) := by decide +kernel
theorem dX7_one_37 : decode cX7_one 37 = .ok (.if_icmp .eq 9, 3) := by decide +kernel
theorem dX7_one_40 : decode cX7_one 40 = .ok (.iload_n 1, 1) := by decide +kernel
theorem dX7_one_41 : decode cX7_one 41 = .ok (.bipush 40, 2) := by decide +kernel
theorem dX7_one_43 : decode cX7_one 43 = .ok (.if_icmp .ne 11, 3) := by decide +kernel
theorem dX7_one_46 : decode cX7_one 46 = .ok (.aload_n 0, 1) := by decide +kernel
theorem dX7_one_47 : decode cX7_one 47 = .ok (.iload_n 1, 1) := by decide +kernel
theorem dX7_one_48 : decode cX7_one 48 = .ok (.invokevirtual 151, 3) := by decide +kernel
theorem dX7_one_51 : decode cX7_one 51 = .ok (.goto 7, 3) := by decide +kernel
theorem dX7_one_54 : decode cX7_one 54 = .ok (.aload_n 0, 1) := by decide +kernel
theorem dX7_one_55 : decode cX7_one 55 = .ok (.invokevirtual 155, 3) := by decide +kernel
theorem dX7_one_58 : decode cX7_one 58 = .ok (.return_, 1) := by decide +kernel
theorem dX7_times_0 : decode cX7_times 0 = .ok (.aload_n 0, 1) := by decide +kernel
theorem dX7_times_1 : decode cX7_times 1 = .ok (.invokevirtual 142, 3) := by decide +kernel
theorem dX7_times_4 : decode cX7_times 4 = .ok (.aload_n 0, 1) := by decide +kernel
theorem dX7_times_5 : decode cX7_times 5 = .ok (.getfield 131, 3) := by decide +kernel
theorem dX7_times_8 : decode cX7_times 8 = .ok (.ifCond .ne 58, 3) := by decide +kernel
theorem dX7_times_11 : decode cX7_times 11 = .ok (.aload_n 0, 1) := by decide +kernel
theorem dX7_times_12 : decode cX7_times 12 = .ok (.invokevirtual 127, 3) := by decide +kernel
theorem dX7_times_15 : decode cX7_times 15 = .ok (.bipush 42, 2) := by decide +kernel
theorem dX7_times_17 : decode cX7_times 17 = .ok (.if_icmp .eq 21, 3) := by decide +kernel
theorem dX7_times_20 : decode cX7_times 20 = .ok (.aload_n 0, 1) := by decide +kernel
theorem dX7_times_21 : decode cX7_times 21 = .ok (.invokevirtual 127, 3) := by decide +kernel
theorem dX7_times_24 : decode cX7_times 24 = .ok (.bipush 47, 2) := by decide +kernel
theorem dX7_times_26 : decode cX7_times 26 = .ok (.if_icmp .eq 12, 3) := by decide +kernel
theorem dX7_times_29 : decode cX7_times 29 = .ok (.aload_n 0, 1) := by decide +kernel
theorem dX7_times_30 : decode cX7_times 30 = .ok (.invokevirtual 127, 3) := by decide +kernel
theorem dX7_times_33 : decode cX7_times 33 = .ok (.bipush 37, 2) := by decide +kernel
theorem dX7_times_35 : decode cX7_times 35 = .ok (.if_icmp .ne 31, 3) := by decide +kernel
theorem dX7_times_38 : decode cX7_times 38 = .ok (.aload_n 0, 1) := by decide +kernel
theorem dX7_times_39 : decode cX7_times 39 = .ok (.invokevirtual 127, 3) := by decide +kernel
theorem dX7_times_42 : decode cX7_times 42 = .ok (.istore_n 1, 1) := by decide +kernel
theorem dX7_times_43 : decode cX7_times 43 = .ok (.aload_n 0, 1) := by decide +kernel
theorem dX7_times_44 : decode cX7_times 44 = .ok (.dup, 1) := by decide +kernel
theorem dX7_times_45 : decode cX7_times 45 = .ok (.getfield 117, 3) := by decide +kernel
theorem dX7_times_48 : decode cX7_times 48 = .ok (.iconst 1, 1) := by decide +kernel
theorem dX7_times_49 : decode cX7_times 49 = .ok (.iadd, 1) := by decide +kernel
theorem dX7_times_50 : decode cX7_times 50 = .ok (.putfield 117, 3) := by decide +kernel
theorem dX7_times_53 : decode cX7_times 53 = .ok (.aload_n 0, 1) := by decide +kernel
theorem dX7_times_54 : decode cX7_times 54 = .ok (.invokevirtual 142, 3) := by decide +kernel
theorem dX7_times_57 : decode cX7_times 57 = .ok (.aload_n 0, 1) := by decide +kernel
theorem dX7_times_58 : decode cX7_times 58 = .ok (.iload_n 1, 1) := by decide +kernel
theorem dX7_times_59 : decode cX7_times 59 = .ok (.iconst 0, 1) := by decide +kernel
theorem dX7_times_60 : decode cX7_times 60 = .ok (.invokevirtual 135, 3) := by decide +kernel
theorem dX7_times_63 : decode cX7_times 63 = .ok (.goto (-59), 3) := by decide +kernel
theorem dX7_times_66 : decode cX7_times 66 = .ok (.return_, 1) := by decide +kernel
theorem dX7_sum_0 : decode cX7_sum 0 = .ok (.aload_n 0, 1) := by decide +kernel
theorem dX7_sum_1 : decode cX7_sum 1 = .ok (.invokevirtual 158, 3) := by decide +kernel
theorem dX7_sum_4 : decode cX7_sum 4 = .ok (.aload_n 0, 1) := by decide +kernel
theorem dX7_sum_5 : decode cX7_sum 5 = .ok (.getfield 131, 3) := by decide +kernel
theorem dX7_sum_8 : decode cX7_sum 8 = .ok (.ifCond .ne 49, 3) := by decide +kernel
theorem dX7_sum_11 : decode cX7_sum 11 = .ok (.aload_n 0, 1) := by decide +kernel
theorem dX7_sum_12 : decode cX7_sum 12 = .ok (.invokevirtual 127, 3) := by decide +kernel
theorem dX7_sum_15 : decode cX7_sum 15 = .ok (.bipush 43, 2) := by decide +kernel
theorem dX7_sum_17 : decode cX7_sum 17 = .ok (.if_icmp .eq 12, 3) := by decide +kernel
theorem dX7_sum_20 : decode cX7_sum 20 = .ok (.aload_n 0, 1) := by decide +kernel
theorem dX7_sum_21 : decode cX7_sum 21 = .ok (.invokevirtual 127, 3) := by decide +kernel
theorem dX7_sum_24 : decode cX7_sum 24 = .ok (.bipush 45, 2) := by decide +kernel
theorem dX7_sum_26 : decode cX7_sum 26 = .ok (.if_icmp .ne 31, 3) := by decide +kernel
theorem dX7_sum_29 : decode cX7_sum 29 = .ok (.aload_n 0, 1) := by decide +kernel
theorem dX7_sum_30 : decode cX7_sum 30 = .ok (.invokevirtual 127, 3) := by decide +kernel
theorem dX7_sum_33 : decode cX7_sum 33 = .ok (.istore_n 1, 1) := by decide +kernel
theorem dX7_sum_34 : decode cX7_sum 34 = .ok (.aload_n 0, 1) := by decide +kernel
theorem dX7_sum_35 : decode cX7_sum 35 = .ok (.dup, 1) := by decide +kernel
theorem dX7_sum_36 : decode cX7_sum 36 = .ok (.getfield 117, 3) := by decide +kernel
theorem dX7_sum_39 : decode cX7_sum 39 = .ok (.iconst 1, 1) := by decide +kernel
theorem dX7_sum_40 : decode cX7_sum 40 = .ok (.iadd, 1) := by decide +kernel
theorem dX7_sum_41 : decode cX7_sum 41 = .ok (.putfield 117, 3) := by decide +kernel
theorem dX7_sum_44 : decode cX7_sum 44 = .ok (.aload_n 0, 1) := by decide +kernel
theorem dX7_sum_45 : decode cX7_sum 45 = .ok (.invokevirtual 158, 3) := by decide +kernel
theorem dX7_sum_48 : decode cX7_sum 48 = .ok (.aload_n 0, 1) := by decide +kernel
theorem dX7_sum_49 : decode cX7_sum 49 = .ok (.iload_n 1, 1) := by decide +kernel
theorem dX7_sum_50 : decode cX7_sum 50 = .ok (.iconst 0, 1) := by decide +kernel
theorem dX7_sum_51 : decode cX7_sum 51 = .ok (.invokevirtual 135, 3) := by decide +kernel
theorem dX7_sum_54 : decode cX7_sum 54 = .ok (.goto (-50), 3) := by decide +kernel
theorem dX7_sum_57 : decode cX7_sum 57 = .ok (.return_, 1) := by decide +kernel
theorem dX7_compares_0 : decode cX7_compares 0 = .ok (.aload_n 0, 1) := by decide +kernel
theorem dX7_compares_1 : decode cX7_compares 1 = .ok (.invokevirtual 161, 3) := by decide +kernel
theorem dX7_compares_4 : decode cX7_compares 4 = .ok (.aload_n 0, 1) := by decide +kernel
theorem dX7_compares_5 : decode cX7_compares 5 = .ok (.invokevirtual 127, 3) := by decide +kernel
theorem dX7_compares_8 : decode cX7_compares 8 = .ok (.istore_n 1, 1) := by decide +kernel
theorem dX7_compares_9 : decode cX7_compares 9 = .ok (.aload_n 0, 1) := by decide +kernel
theorem dX7_compares_10 : decode cX7_compares 10 = .ok (.getfield 131, 3) := by decide +kernel
theorem dX7_compares_13 : decode cX7_compares 13 = .ok (.ifCond .ne 41, 3) := by decide +kernel
theorem dX7_compares_16 : decode cX7_compares 16 = .ok (.iload_n 1, 1) := by decide +kernel
theorem dX7_compares_17 : decode cX7_compares 17 = .ok (.bipush 60, 2) := by decide +kernel
theorem dX7_compares_19 : decode cX7_compares 19 = .ok (.if_icmp .eq 15, 3) := by decide +kernel
theorem dX7_compares_22 : decode cX7_compares 22 = .ok (.iload_n 1, 1) := by decide +kernel
theorem dX7_compares_23 : decode cX7_compares 23 = .ok (.bipush 61, 2) := by decide +kernel
theorem dX7_compares_25 : decode cX7_compares 25 = .ok (.if_icmp .eq 9, 3) := by decide +kernel
theorem dX7_compares_28 : decode cX7_compares 28 = .ok (.iload_n 1, 1) := by decide +kernel
theorem dX7_compares_29 : decode cX7_compares 29 = .ok (.bipush 62, 2) := by decide +kernel
theorem dX7_compares_31 : decode cX7_compares 31 = .ok (.if_icmp .ne 23, 3) := by decide +kernel
theorem dX7_compares_34 : decode cX7_compares 34 = .ok (.aload_n 0, 1) := by decide +kernel
theorem dX7_compares_35 : decode cX7_compares 35 = .ok (.dup, 1) := by decide +kernel
theorem dX7_compares_36 : decode cX7_compares 36 = .ok (.getfield 117, 3) := by decide +kernel
theorem dX7_compares_39 : decode cX7_compares 39 = .ok (.iconst 1, 1) := by decide +kernel
theorem dX7_compares_40 : decode cX7_compares 40 = .ok (.iadd, 1) := by decide +kernel
theorem dX7_compares_41 : decode cX7_compares 41 = .ok (.putfield 117, 3) := by decide +kernel
theorem dX7_compares_44 : decode cX7_compares 44 = .ok (.aload_n 0, 1) := by decide +kernel
theorem dX7_compares_45 : decode cX7_compares 45 = .ok (.invokevirtual 161, 3) := by decide +kernel
theorem dX7_compares_48 : decode cX7_compares 48 = .ok (.aload_n 0, 1) := by decide +kernel
theorem dX7_compares_49 : decode cX7_compares 49 = .ok (.iload_n 1, 1) := by decide +kernel
theorem dX7_compares_50 : decode cX7_compares 50 = .ok (.iconst 0, 1) := by decide +kernel
theorem dX7_compares_51 : decode cX7_compares 51 = .ok (.invokevirtual 135, 3) := by decide +kernel
theorem dX7_compares_54 : decode cX7_compares 54 = .ok (.return_, 1) := by decide +kernel
theorem dX7_all_0 : decode cX7_all 0 = .ok (.aload_n 0, 1) := by decide +kernel
theorem dX7_all_1 : decode cX7_all 1 = .ok (.invokevirtual 164, 3) := by decide +kernel
theorem dX7_all_4 : decode cX7_all 4 = .ok (.aload_n 0, 1) := by decide +kernel
theorem dX7_all_5 : decode cX7_all 5 = .ok (.getfield 131, 3) := by decide +kernel
theorem dX7_all_8 : decode cX7_all 8 = .ok (.ifCond .ne 36, 3) := by decide +kernel
theorem dX7_all_11 : decode cX7_all 11 = .ok (.aload_n 0, 1) := by decide +kernel
theorem dX7_all_12 : decode cX7_all 12 = .ok (.invokevirtual 127, 3) := by decide +kernel
theorem dX7_all_15 : decode cX7_all 15 = .ok (.bipush 38, 2) := by decide +kernel
theorem dX7_all_17 : decode cX7_all 17 = .ok (.if_icmp .ne 27, 3) := by decide +kernel
theorem dX7_all_20 : decode cX7_all 20 = .ok (.aload_n 0, 1) := by decide +kernel
theorem dX7_all_21 : decode cX7_all 21 = .ok (.dup, 1) := by decide +kernel
theorem dX7_all_22 : decode cX7_all 22 = .ok (.getfield 117, 3) := by decide +kernel
theorem dX7_all_25 : decode cX7_all 25 = .ok (.iconst 1, 1) := by decide +kernel
theorem dX7_all_26 : decode cX7_all 26 = .ok (.iadd, 1) := by decide +kernel
theorem dX7_all_27 : decode cX7_all 27 = .ok (.putfield 117, 3) := by decide +kernel
theorem dX7_all_30 : decode cX7_all 30 = .ok (.aload_n 0, 1) := by decide +kernel
theorem dX7_all_31 : decode cX7_all 31 = .ok (.invokevirtual 164, 3) := by decide +kernel
theorem dX7_all_34 : decode cX7_all 34 = .ok (.aload_n 0, 1) := by decide +kernel
theorem dX7_all_35 : decode cX7_all 35 = .ok (.bipush 38, 2) := by decide +kernel
theorem dX7_all_37 : decode cX7_all 37 = .ok (.iconst 0, 1) := by decide +kernel
theorem dX7_all_38 : decode cX7_all 38 = .ok (.invokevirtual 135, 3) := by decide +kernel
theorem dX7_all_41 : decode cX7_all 41 = .ok (.goto (-37), 3) := by decide +kernel
theorem dX7_all_44 : decode cX7_all 44 = .ok (.return_, 1) := by decide +kernel
theorem dX7_any_0 : decode cX7_any 0 = .ok (.aload_n 0, 1) := by decide +kernel
theorem dX7_any_1 : decode cX7_any 1 = .ok (.invokevirtual 167, 3) := by decide +kernel
theorem dX7_any_4 : decode cX7_any 4 = .ok (.aload_n 0, 1) := by decide +kernel
theorem dX7_any_5 : decode cX7_any 5 = .ok (.getfield 131, 3) := by decide +kernel
theorem dX7_any_8 : decode cX7_any 8 = .ok (.ifCond .ne 36, 3) := by decide +kernel
theorem dX7_any_11 : decode cX7_any 11 = .ok (.aload_n 0, 1) := by decide +kernel
theorem dX7_any_12 : decode cX7_any 12 = .ok (.invokevirtual 127, 3) := by decide +kernel
theorem dX7_any_15 : decode cX7_any 15 = .ok (.bipush 124, 2) := by decide +kernel
theorem dX7_any_17 : decode cX7_any 17 = .ok (.if_icmp .ne 27, 3) := by decide +kernel
theorem dX7_any_20 : decode cX7_any 20 = .ok (.aload_n 0, 1) := by decide +kernel
theorem dX7_any_21 : decode cX7_any 21 = .ok (.dup, 1) := by decide +kernel
theorem dX7_any_22 : decode cX7_any 22 = .ok (.getfield 117, 3) := by decide +kernel
theorem dX7_any_25 : decode cX7_any 25 = .ok (.iconst 1, 1) := by decide +kernel
theorem dX7_any_26 : decode cX7_any 26 = .ok (.iadd, 1) := by decide +kernel
theorem dX7_any_27 : decode cX7_any 27 = .ok (.putfield 117, 3) := by decide +kernel
theorem dX7_any_30 : decode cX7_any 30 = .ok (.aload_n 0, 1) := by decide +kernel
theorem dX7_any_31 : decode cX7_any 31 = .ok (.invokevirtual 167, 3) := by decide +kernel
theorem dX7_any_34 : decode cX7_any 34 = .ok (.aload_n 0, 1) := by decide +kernel
theorem dX7_any_35 : decode cX7_any 35 = .ok (.bipush 124, 2) := by decide +kernel
theorem dX7_any_37 : decode cX7_any 37 = .ok (.iconst 0, 1) := by decide +kernel
theorem dX7_any_38 : decode cX7_any 38 = .ok (.invokevirtual 135, 3) := by decide +kernel
theorem dX7_any_41 : decode cX7_any 41 = .ok (.goto (-37), 3) := by decide +kernel
theorem dX7_any_44 : decode cX7_any 44 = .ok (.return_, 1) := by decide +kernel
theorem dX7_text_0 : decode cX7_text 0 = .ok (.iload_n 1, 1) := by decide +kernel
theorem dX7_text_1 : decode cX7_text 1 = .ok (.iconst 0, 1) := by decide +kernel
theorem dX7_text_2 : decode cX7_text 2 = .ok (.iconst 1, 1) := by decide +kernel
theorem dX7_text_3 : decode cX7_text 3 = .ok (.invokestatic 54, 3) := by decide +kernel
theorem dX7_text_6 : decode cX7_text 6 = .ok (.ifCond .ne 10, 3) := by decide +kernel
theorem dX7_text_9 : decode cX7_text 9 = .ok (.aload_n 0, 1) := by decide +kernel
theorem dX7_text_10 : decode cX7_text 10 = .ok (.ldc 80, 2) := by decide +kernel
theorem dX7_text_12 : decode cX7_text 12 = .ok (.invokevirtual 81, 3) := by decide +kernel
theorem dX7_text_15 : decode cX7_text 15 = .ok (.ireturn, 1) := by decide +kernel
theorem dX7_text_16 : decode cX7_text 16 = .ok (.aload_n 0, 1) := by decide +kernel
theorem dX7_text_17 : decode cX7_text 17 = .ok (.iload_n 1, 1) := by decide +kernel
theorem dX7_text_18 : decode cX7_text 18 = .ok (.putfield 124, 3) := by decide +kernel
theorem dX7_text_21 : decode cX7_text 21 = .ok (.aload_n 0, 1) := by decide +kernel
theorem dX7_text_22 : decode cX7_text 22 = .ok (.iconst 0, 1) := by decide +kernel
theorem dX7_text_23 : decode cX7_text 23 = .ok (.putfield 121, 3) := by decide +kernel
theorem dX7_text_26 : decode cX7_text 26 = .ok (.aload_n 0, 1) := by decide +kernel
theorem dX7_text_27 : decode cX7_text 27 = .ok (.iconst 0, 1) := by decide +kernel
theorem dX7_text_28 : decode cX7_text 28 = .ok (.putfield 117, 3) := by decide +kernel
theorem dX7_text_31 : decode cX7_text 31 = .ok (.aload_n 0, 1) := by decide +kernel
theorem dX7_text_32 : decode cX7_text 32 = .ok (.iconst 0, 1) := by decide +kernel
theorem dX7_text_33 : decode cX7_text 33 = .ok (.putfield 139, 3) := by decide +kernel
theorem dX7_text_36 : decode cX7_text 36 = .ok (.aload_n 0, 1) := by decide +kernel
theorem dX7_text_37 : decode cX7_text 37 = .ok (.iconst 0, 1) := by decide +kernel
theorem dX7_text_38 : decode cX7_text 38 = .ok (.putfield 131, 3) := by decide +kernel
theorem dX7_text_41 : decode cX7_text 41 = .ok (.aload_n 0, 1) := by decide +kernel
theorem dX7_text_42 : decode cX7_text 42 = .ok (.invokevirtual 145, 3) := by decide +kernel
theorem dX7_text_45 : decode cX7_text 45 = .ok (.aload_n 0, 1) := by decide +kernel
theorem dX7_text_46 : decode cX7_text 46 = .ok (.aload_n 0, 1) := by decide +kernel
theorem dX7_text_47 : decode cX7_text 47 = .ok (.getfield 131, 3) := by decide +kernel
theorem dX7_text_50 : decode cX7_text 50 = .ok (.ifCond .ne 17, 3) := by decide +kernel
theorem dX7_text_53 : decode cX7_text 53 = .ok (.aload_n 0, 1) := by decide +kernel
theorem dX7_text_54 : decode cX7_text 54 = .ok (.getfield 117, 3) := by decide +kernel
theorem dX7_text_57 : decode cX7_text 57 = .ok (.aload_n 0, 1) := by decide +kernel
theorem dX7_text_58 : decode cX7_text 58 = .ok (.getfield 9, 3) := by decide +kernel
theorem dX7_text_61 : decode cX7_text 61 = .ok (.bipush 7, 2) := by decide +kernel
theorem dX7_text_63 : decode cX7_text 63 = .ok (.iaload, 1) := by decide +kernel
theorem dX7_text_64 : decode cX7_text 64 = .ok (.if_icmp .ge 7, 3) := by decide +kernel
theorem dX7_text_67 : decode cX7_text 67 = .ok (.iconst 1, 1) := by decide +kernel
theorem dX7_text_68 : decode cX7_text 68 = .ok (.goto 4, 3) := by decide +kernel
theorem dX7_text_71 : decode cX7_text 71 = .ok (.iconst 0, 1) := by decide +kernel
theorem dX7_text_72 : decode cX7_text 72 = .ok (.putfield 131, 3) := by decide +kernel
theorem dX7_text_75 : decode cX7_text 75 = .ok (.aload_n 0, 1) := by decide +kernel
theorem dX7_text_76 : decode cX7_text 76 = .ok (.getfield 9, 3) := by decide +kernel
theorem dX7_text_79 : decode cX7_text 79 = .ok (.bipush 7, 2) := by decide +kernel
theorem dX7_text_81 : decode cX7_text 81 = .ok (.iconst 0, 1) := by decide +kernel
theorem dX7_text_82 : decode cX7_text 82 = .ok (.iastore, 1) := by decide +kernel
theorem dX7_text_83 : decode cX7_text 83 = .ok (.aload_n 0, 1) := by decide +kernel
theorem dX7_text_84 : decode cX7_text 84 = .ok (.getfield 131, 3) := by decide +kernel
theorem dX7_text_87 : decode cX7_text 87 = .ok (.ifCond .eq 11, 3) := by decide +kernel
theorem dX7_text_90 : decode cX7_text 90 = .ok (.bipush (-10), 2) := by decide +kernel
theorem dX7_text_92 : decode cX7_text 92 = .ok (.aload_n 0, 1) := by decide +kernel
theorem dX7_text_93 : decode cX7_text 93 = .ok (.getfield 117, 3) := by decide +kernel
theorem dX7_text_96 : decode cX7_text 96 = .ok (.isub, 1) := by decide +kernel
theorem dX7_text_97 : decode cX7_text 97 = .ok (.ireturn, 1) := by decide +kernel
theorem dX7_text_98 : decode cX7_text 98 = .ok (.sipush 156, 3) := by decide +kernel
theorem dX7_text_101 : decode cX7_text 101 = .ok (.bipush 121, 2) := by decide +kernel
theorem dX7_text_103 : decode cX7_text 103 = .ok (.iload_n 1, 1) := by decide +kernel
theorem dX7_text_104 : decode cX7_text 104 = .ok (.imul, 1) := by decide +kernel
theorem dX7_text_105 : decode cX7_text 105 = .ok (.iadd, 1) := by decide +kernel
theorem dX7_text_106 : decode cX7_text 106 = .ok (.istore_n 2, 1) := by decide +kernel
theorem dX7_text_107 : decode cX7_text 107 = .ok (.aload_n 0, 1) := by decide +kernel
theorem dX7_text_108 : decode cX7_text 108 = .ok (.getfield 9, 3) := by decide +kernel
theorem dX7_text_111 : decode cX7_text 111 = .ok (.iload_n 2, 1) := by decide +kernel
theorem dX7_text_112 : decode cX7_text 112 = .ok (.aload_n 0, 1) := by decide +kernel
theorem dX7_text_113 : decode cX7_text 113 = .ok (.getfield 121, 3) := by decide +kernel
theorem dX7_text_116 : decode cX7_text 116 = .ok (.iastore, 1) := by decide +kernel
theorem dX7_text_117 : decode cX7_text 117 = .ok (.iconst 0, 1) := by decide +kernel
theorem dX7_text_118 : decode cX7_text 118 = .ok (.istore_n 3, 1) := by decide +kernel
theorem dX7_text_119 : decode cX7_text 119 = .ok (.iload_n 3, 1) := by decide +kernel
theorem dX7_text_120 : decode cX7_text 120 = .ok (.aload_n 0, 1) := by decide +kernel
theorem dX7_text_121 : decode cX7_text 121 = .ok (.getfield 121, 3) := by decide +kernel
theorem dX7_text_124 : decode cX7_text 124 = .ok (.if_icmp .ge 42, 3) := by decide +kernel
theorem dX7_text_127 : decode cX7_text 127 = .ok (.aload_n 0, 1) := by decide +kernel
theorem dX7_text_128 : decode cX7_text 128 = .ok (.getfield 9, 3) := by decide +kernel
theorem dX7_text_131 : decode cX7_text 131 = .ok (.iload_n 2, 1) := by decide +kernel
theorem dX7_text_132 : decode cX7_text 132 = .ok (.iconst 1, 1) := by decide +kernel
theorem dX7_text_133 : decode cX7_text 133 = .ok (.iadd, 1) := by decide +kernel
theorem dX7_text_134 : decode cX7_text 134 = .ok (.iload_n 3, 1) := by decide +kernel
theorem dX7_text_135 : decode cX7_text 135 = .ok (.iadd, 1) := by decide +kernel
theorem dX7_text_136 : decode cX7_text 136 = .ok (.aload_n 0, 1) := by decide +kernel
theorem dX7_text_137 : decode cX7_text 137 = .ok (.getfield 31, 3) := by decide +kernel
theorem dX7_text_140 : decode cX7_text 140 = .ok (.iload_n 3, 1) := by decide +kernel
theorem dX7_text_141 : decode cX7_text 141 = .ok (.iaload, 1) := by decide +kernel
theorem dX7_text_142 : decode cX7_text 142 = .ok (.iastore, 1) := by decide +kernel
theorem dX7_text_143 : decode cX7_text 143 = .ok (.aload_n 0, 1) := by decide +kernel
theorem dX7_text_144 : decode cX7_text 144 = .ok (.getfield 9, 3) := by decide +kernel
theorem dX7_text_147 : decode cX7_text 147 = .ok (.iload_n 2, 1) := by decide +kernel
theorem dX7_text_148 : decode cX7_text 148 = .ok (.bipush 61, 2) := by decide +kernel
theorem dX7_text_150 : decode cX7_text 150 = .ok (.iadd, 1) := by decide +kernel
theorem dX7_text_151 : decode cX7_text 151 = .ok (.iload_n 3, 1) := by decide +kernel
theorem dX7_text_152 : decode cX7_text 152 = .ok (.iadd, 1) := by decide +kernel
theorem dX7_text_153 : decode cX7_text 153 = .ok (.aload_n 0, 1) := by decide +kernel
theorem dX7_text_154 : decode cX7_text 154 = .ok (.getfield 34, 3) := by decide +kernel
theorem dX7_text_157 : decode cX7_text 157 = .ok (.iload_n 3, 1) := by decide +kernel
theorem dX7_text_158 : decode cX7_text 158 = .ok (.iaload, 1) := by decide +kernel
theorem dX7_text_159 : decode cX7_text 159 = .ok (.iastore, 1) := by decide +kernel
theorem dX7_text_160 : decode cX7_text 160 = .ok (.iinc 3 1, 3) := by decide +kernel
theorem dX7_text_163 : decode cX7_text 163 = .ok (.goto (-44), 3) := by decide +kernel
theorem dX7_text_166 : decode cX7_text 166 = .ok (.iconst 1, 1) := by decide +kernel
theorem dX7_text_167 : decode cX7_text 167 = .ok (.ireturn, 1) := by decide +kernel
theorem dX7_untell_0 : decode cX7_untell 0 = .ok (.iload_n 1, 1) := by decide +kernel
theorem dX7_untell_1 : decode cX7_untell 1 = .ok (.iconst 0, 1) := by decide +kernel
theorem dX7_untell_2 : decode cX7_untell 2 = .ok (.iconst 1, 1) := by decide +kernel
theorem dX7_untell_3 : decode cX7_untell 3 = .ok (.invokestatic 54, 3) := by decide +kernel
theorem dX7_untell_6 : decode cX7_untell 6 = .ok (.ifCond .ne 10, 3) := by decide +kernel
theorem dX7_untell_9 : decode cX7_untell 9 = .ok (.aload_n 0, 1) := by decide +kernel
theorem dX7_untell_10 : decode cX7_untell 10 = .ok (.ldc 80, 2) := by decide +kernel
theorem dX7_untell_12 : decode cX7_untell 12 = .ok (.invokevirtual 81, 3) := by decide +kernel
theorem dX7_untell_15 : decode cX7_untell 15 = .ok (.ireturn, 1) := by decide +kernel
theorem dX7_untell_16 : decode cX7_untell 16 = .ok (.aload_n 0, 1) := by decide +kernel
theorem dX7_untell_17 : decode cX7_untell 17 = .ok (.sipush 156, 3) := by decide +kernel
theorem dX7_untell_20 : decode cX7_untell 20 = .ok (.bipush 121, 2) := by decide +kernel
theorem dX7_untell_22 : decode cX7_untell 22 = .ok (.iload_n 1, 1) := by decide +kernel
theorem dX7_untell_23 : decode cX7_untell 23 = .ok (.imul, 1) := by decide +kernel
theorem dX7_untell_24 : decode cX7_untell 24 = .ok (.iadd, 1) := by decide +kernel
theorem dX7_untell_25 : decode cX7_untell 25 = .ok (.iconst 0, 1) := by decide +kernel
theorem dX7_untell_26 : decode cX7_untell 26 = .ok (.invokevirtual 99, 3) := by decide +kernel
theorem dX7_untell_29 : decode cX7_untell 29 = .ok (.ifCond .le 7, 3) := by decide +kernel
theorem dX7_untell_32 : decode cX7_untell 32 = .ok (.iconst 1, 1) := by decide +kernel
theorem dX7_untell_33 : decode cX7_untell 33 = .ok (.goto 4, 3) := by decide +kernel
theorem dX7_untell_36 : decode cX7_untell 36 = .ok (.iconst 0, 1) := by decide +kernel
theorem dX7_untell_37 : decode cX7_untell 37 = .ok (.ireturn, 1) := by decide +kernel
theorem dX7_twoOf_0 : decode cX7_twoOf 0 = .ok (.iload_n 0, 1) := by decide +kernel
theorem dX7_twoOf_1 : decode cX7_twoOf 1 = .ok (.tableswitch 202 37 62 #[143, 188, 202, 202, 202, 127, 119, 202, 123, 202, 131, 202, 202, 202, 202, 202, 202, 202, 202, 202, 202, 202, 202, 155, 166, 177], 119) := by decide +kernel
theorem dX7_twoOf_120 : decode cX7_twoOf 120 = .ok (.iload_n 1, 1) := by decide +kernel
theorem dX7_twoOf_121 : decode cX7_twoOf 121 = .ok (.iload_n 2, 1) := by decide +kernel
theorem dX7_twoOf_122 : decode cX7_twoOf 122 = .ok (.iadd, 1) := by decide +kernel
theorem dX7_twoOf_123 : decode cX7_twoOf 123 = .ok (.ireturn, 1) := by decide +kernel
theorem dX7_twoOf_124 : decode cX7_twoOf 124 = .ok (.iload_n 1, 1) := by decide +kernel
theorem dX7_twoOf_125 : decode cX7_twoOf 125 = .ok (.iload_n 2, 1) := by decide +kernel
theorem dX7_twoOf_126 : decode cX7_twoOf 126 = .ok (.isub, 1) := by decide +kernel
theorem dX7_twoOf_127 : decode cX7_twoOf 127 = .ok (.ireturn, 1) := by decide +kernel
theorem dX7_twoOf_128 : decode cX7_twoOf 128 = .ok (.iload_n 1, 1) := by decide +kernel
theorem dX7_twoOf_129 : decode cX7_twoOf 129 = .ok (.iload_n 2, 1) := by decide +kernel
theorem dX7_twoOf_130 : decode cX7_twoOf 130 = .ok (.imul, 1) := by decide +kernel
theorem dX7_twoOf_131 : decode cX7_twoOf 131 = .ok (.ireturn, 1) := by decide +kernel
theorem dX7_twoOf_132 : decode cX7_twoOf 132 = .ok (.iload_n 2, 1) := by decide +kernel
theorem dX7_twoOf_133 : decode cX7_twoOf 133 = .ok (.ifCond .ne 7, 3) := by decide +kernel
theorem dX7_twoOf_136 : decode cX7_twoOf 136 = .ok (.iconst 0, 1) := by decide +kernel
theorem dX7_twoOf_137 : decode cX7_twoOf 137 = .ok (.goto 6, 3) := by decide +kernel
theorem dX7_twoOf_140 : decode cX7_twoOf 140 = .ok (.iload_n 1, 1) := by decide +kernel
theorem dX7_twoOf_141 : decode cX7_twoOf 141 = .ok (.iload_n 2, 1) := by decide +kernel
theorem dX7_twoOf_142 : decode cX7_twoOf 142 = .ok (.idiv, 1) := by decide +kernel
theorem dX7_twoOf_143 : decode cX7_twoOf 143 = .ok (.ireturn, 1) := by decide +kernel
theorem dX7_twoOf_144 : decode cX7_twoOf 144 = .ok (.iload_n 2, 1) := by decide +kernel
theorem dX7_twoOf_145 : decode cX7_twoOf 145 = .ok (.ifCond .ne 7, 3) := by decide +kernel
theorem dX7_twoOf_148 : decode cX7_twoOf 148 = .ok (.iconst 0, 1) := by decide +kernel
theorem dX7_twoOf_149 : decode cX7_twoOf 149 = .ok (.goto 6, 3) := by decide +kernel
theorem dX7_twoOf_152 : decode cX7_twoOf 152 = .ok (.iload_n 1, 1) := by decide +kernel
theorem dX7_twoOf_153 : decode cX7_twoOf 153 = .ok (.iload_n 2, 1) := by decide +kernel
theorem dX7_twoOf_154 : decode cX7_twoOf 154 = .ok (.irem, 1) := by decide +kernel
theorem dX7_twoOf_155 : decode cX7_twoOf 155 = .ok (.ireturn, 1) := by decide +kernel
theorem dX7_twoOf_156 : decode cX7_twoOf 156 = .ok (.iload_n 1, 1) := by decide +kernel
theorem dX7_twoOf_157 : decode cX7_twoOf 157 = .ok (.iload_n 2, 1) := by decide +kernel
theorem dX7_twoOf_158 : decode cX7_twoOf 158 = .ok (.if_icmp .ge 7, 3) := by decide +kernel
theorem dX7_twoOf_161 : decode cX7_twoOf 161 = .ok (.iconst 1, 1) := by decide +kernel
theorem dX7_twoOf_162 : decode cX7_twoOf 162 = .ok (.goto 4, 3) := by decide +kernel
theorem dX7_twoOf_165 : decode cX7_twoOf 165 = .ok (.iconst 0, 1) := by decide +kernel
theorem dX7_twoOf_166 : decode cX7_twoOf 166 = .ok (.ireturn, 1) := by decide +kernel
theorem dX7_twoOf_167 : decode cX7_twoOf 167 = .ok (.iload_n 1, 1) := by decide +kernel
theorem dX7_twoOf_168 : decode cX7_twoOf 168 = .ok (.iload_n 2, 1) := by decide +kernel
theorem dX7_twoOf_169 : decode cX7_twoOf 169 = .ok (.if_icmp .ne 7, 3) := by decide +kernel
theorem dX7_twoOf_172 : decode cX7_twoOf 172 = .ok (.iconst 1, 1) := by decide +kernel
theorem dX7_twoOf_173 : decode cX7_twoOf 173 = .ok (.goto 4, 3) := by decide +kernel
theorem dX7_twoOf_176 : decode cX7_twoOf 176 = .ok (.iconst 0, 1) := by decide +kernel
theorem dX7_twoOf_177 : decode cX7_twoOf 177 = .ok (.ireturn, 1) := by decide +kernel
theorem dX7_twoOf_178 : decode cX7_twoOf 178 = .ok (.iload_n 1, 1) := by decide +kernel
theorem dX7_twoOf_179 : decode cX7_twoOf 179 = .ok (.iload_n 2, 1) := by decide +kernel
theorem dX7_twoOf_180 : decode cX7_twoOf 180 = .ok (.if_icmp .le 7, 3) := by decide +kernel
theorem dX7_twoOf_183 : decode cX7_twoOf 183 = .ok (.iconst 1, 1) := by decide +kernel
theorem dX7_twoOf_184 : decode cX7_twoOf 184 = .ok (.goto 4, 3) := by decide +kernel
theorem dX7_twoOf_187 : decode cX7_twoOf 187 = .ok (.iconst 0, 1) := by decide +kernel
theorem dX7_twoOf_188 : decode cX7_twoOf 188 = .ok (.ireturn, 1) := by decide +kernel
theorem dX7_twoOf_189 : decode cX7_twoOf 189 = .ok (.iload_n 1, 1) := by decide +kernel
theorem dX7_twoOf_190 : decode cX7_twoOf 190 = .ok (.ifCond .eq 11, 3) := by decide +kernel
theorem dX7_twoOf_193 : decode cX7_twoOf 193 = .ok (.iload_n 2, 1) := by decide +kernel
theorem dX7_twoOf_194 : decode cX7_twoOf 194 = .ok (.ifCond .eq 7, 3) := by decide +kernel
theorem dX7_twoOf_197 : decode cX7_twoOf 197 = .ok (.iconst 1, 1) := by decide +kernel
theorem dX7_twoOf_198 : decode cX7_twoOf 198 = .ok (.goto 4, 3) := by decide +kernel
theorem dX7_twoOf_201 : decode cX7_twoOf 201 = .ok (.iconst 0, 1) := by decide +kernel
theorem dX7_twoOf_202 : decode cX7_twoOf 202 = .ok (.ireturn, 1) := by decide +kernel
theorem dX7_twoOf_203 : decode cX7_twoOf 203 = .ok (.iload_n 1, 1) := by decide +kernel
theorem dX7_twoOf_204 : decode cX7_twoOf 204 = .ok (.ifCond .ne 7, 3) := by decide +kernel
theorem dX7_twoOf_207 : decode cX7_twoOf 207 = .ok (.iload_n 2, 1) := by decide +kernel
theorem dX7_twoOf_208 : decode cX7_twoOf 208 = .ok (.ifCond .eq 7, 3) := by decide +kernel
theorem dX7_twoOf_211 : decode cX7_twoOf 211 = .ok (.iconst 1, 1) := by decide +kernel
theorem dX7_twoOf_212 : decode cX7_twoOf 212 = .ok (.goto 4, 3) := by decide +kernel
theorem dX7_twoOf_215 : decode cX7_twoOf 215 = .ok (.iconst 0, 1) := by decide +kernel
theorem dX7_twoOf_216 : decode cX7_twoOf 216 = .ok (.ireturn, 1) := by decide +kernel
theorem dX7_works_0 : decode cX7_works 0 = .ok (.iconst 0, 1) := by decide +kernel
theorem dX7_works_1 : decode cX7_works 1 = .ok (.istore_n 2, 1) := by decide +kernel
theorem dX7_works_2 : decode cX7_works 2 = .ok (.iconst 0, 1) := by decide +kernel
theorem dX7_works_3 : decode cX7_works 3 = .ok (.istore_n 3, 1) := by decide +kernel
theorem dX7_works_4 : decode cX7_works 4 = .ok (.iload_n 3, 1) := by decide +kernel
theorem dX7_works_5 : decode cX7_works 5 = .ok (.aload_n 0, 1) := by decide +kernel
theorem dX7_works_6 : decode cX7_works 6 = .ok (.getfield 9, 3) := by decide +kernel
theorem dX7_works_9 : decode cX7_works 9 = .ok (.iload_n 1, 1) := by decide +kernel
theorem dX7_works_10 : decode cX7_works 10 = .ok (.iaload, 1) := by decide +kernel
theorem dX7_works_11 : decode cX7_works 11 = .ok (.if_icmp .ge 144, 3) := by decide +kernel
theorem dX7_works_14 : decode cX7_works 14 = .ok (.aload_n 0, 1) := by decide +kernel
theorem dX7_works_15 : decode cX7_works 15 = .ok (.getfield 9, 3) := by decide +kernel
theorem dX7_works_18 : decode cX7_works 18 = .ok (.iload_n 1, 1) := by decide +kernel
theorem dX7_works_19 : decode cX7_works 19 = .ok (.iconst 1, 1) := by decide +kernel
theorem dX7_works_20 : decode cX7_works 20 = .ok (.iadd, 1) := by decide +kernel
theorem dX7_works_21 : decode cX7_works 21 = .ok (.iload_n 3, 1) := by decide +kernel
theorem dX7_works_22 : decode cX7_works 22 = .ok (.iadd, 1) := by decide +kernel
theorem dX7_works_23 : decode cX7_works 23 = .ok (.iaload, 1) := by decide +kernel
theorem dX7_works_24 : decode cX7_works 24 = .ok (.istore 4, 2) := by decide +kernel
theorem dX7_works_26 : decode cX7_works 26 = .ok (.iload 4, 2) := by decide +kernel
theorem dX7_works_28 : decode cX7_works 28 = .ok (.iconst 1, 1) := by decide +kernel
theorem dX7_works_29 : decode cX7_works 29 = .ok (.if_icmp .eq 9, 3) := by decide +kernel
theorem dX7_works_32 : decode cX7_works 32 = .ok (.iload 4, 2) := by decide +kernel
theorem dX7_works_34 : decode cX7_works 34 = .ok (.iconst 2, 1) := by decide +kernel
theorem dX7_works_35 : decode cX7_works 35 = .ok (.if_icmp .ne 51, 3) := by decide +kernel
theorem dX7_works_38 : decode cX7_works 38 = .ok (.aload_n 0, 1) := by decide +kernel
theorem dX7_works_39 : decode cX7_works 39 = .ok (.getfield 40, 3) := by decide +kernel
theorem dX7_works_42 : decode cX7_works 42 = .ok (.iload_n 2, 1) := by decide +kernel
theorem dX7_works_43 : decode cX7_works 43 = .ok (.iload 4, 2) := by decide +kernel
theorem dX7_works_45 : decode cX7_works 45 = .ok (.iconst 1, 1) := by decide +kernel
theorem dX7_works_46 : decode cX7_works 46 = .ok (.if_icmp .ne 17, 3) := by decide +kernel
theorem dX7_works_49 : decode cX7_works 49 = .ok (.aload_n 0, 1) := by decide +kernel
theorem dX7_works_50 : decode cX7_works 50 = .ok (.getfield 9, 3) := by decide +kernel
theorem dX7_works_53 : decode cX7_works 53 = .ok (.iload_n 1, 1) := by decide +kernel
theorem dX7_works_54 : decode cX7_works 54 = .ok (.bipush 61, 2) := by decide +kernel
theorem dX7_works_56 : decode cX7_works 56 = .ok (.iadd, 1) := by decide +kernel
theorem dX7_works_57 : decode cX7_works 57 = .ok (.iload_n 3, 1) := by decide +kernel
theorem dX7_works_58 : decode cX7_works 58 = .ok (.iadd, 1) := by decide +kernel
theorem dX7_works_59 : decode cX7_works 59 = .ok (.iaload, 1) := by decide +kernel
theorem dX7_works_60 : decode cX7_works 60 = .ok (.goto 19, 3) := by decide +kernel
theorem dX7_works_63 : decode cX7_works 63 = .ok (.aload_n 0, 1) := by decide +kernel
theorem dX7_works_64 : decode cX7_works 64 = .ok (.getfield 37, 3) := by decide +kernel
theorem dX7_works_67 : decode cX7_works 67 = .ok (.aload_n 0, 1) := by decide +kernel
theorem dX7_works_68 : decode cX7_works 68 = .ok (.getfield 9, 3) := by decide +kernel
theorem dX7_works_71 : decode cX7_works 71 = .ok (.iload_n 1, 1) := by decide +kernel
theorem dX7_works_72 : decode cX7_works 72 = .ok (.bipush 61, 2) := by decide +kernel
theorem dX7_works_74 : decode cX7_works 74 = .ok (.iadd, 1) := by decide +kernel
theorem dX7_works_75 : decode cX7_works 75 = .ok (.iload_n 3, 1) := by decide +kernel
theorem dX7_works_76 : decode cX7_works 76 = .ok (.iadd, 1) := by decide +kernel
theorem dX7_works_77 : decode cX7_works 77 = .ok (.iaload, 1) := by decide +kernel
theorem dX7_works_78 : decode cX7_works 78 = .ok (.iaload, 1) := by decide +kernel
theorem dX7_works_79 : decode cX7_works 79 = .ok (.iastore, 1) := by decide +kernel
theorem dX7_works_80 : decode cX7_works 80 = .ok (.iinc 2 1, 3) := by decide +kernel
theorem dX7_works_83 : decode cX7_works 83 = .ok (.goto 66, 3) := by decide +kernel
theorem dX7_works_86 : decode cX7_works 86 = .ok (.iload 4, 2) := by decide +kernel
theorem dX7_works_88 : decode cX7_works 88 = .ok (.iconst 3, 1) := by decide +kernel
theorem dX7_works_89 : decode cX7_works 89 = .ok (.if_icmp .ne 30, 3) := by decide +kernel
theorem dX7_works_92 : decode cX7_works 92 = .ok (.aload_n 0, 1) := by decide +kernel
theorem dX7_works_93 : decode cX7_works 93 = .ok (.getfield 40, 3) := by decide +kernel
theorem dX7_works_96 : decode cX7_works 96 = .ok (.iload_n 2, 1) := by decide +kernel
theorem dX7_works_97 : decode cX7_works 97 = .ok (.iconst 1, 1) := by decide +kernel
theorem dX7_works_98 : decode cX7_works 98 = .ok (.isub, 1) := by decide +kernel
theorem dX7_works_99 : decode cX7_works 99 = .ok (.aload_n 0, 1) := by decide +kernel
theorem dX7_works_100 : decode cX7_works 100 = .ok (.getfield 40, 3) := by decide +kernel
theorem dX7_works_103 : decode cX7_works 103 = .ok (.iload_n 2, 1) := by decide +kernel
theorem dX7_works_104 : decode cX7_works 104 = .ok (.iconst 1, 1) := by decide +kernel
theorem dX7_works_105 : decode cX7_works 105 = .ok (.isub, 1) := by decide +kernel
theorem dX7_works_106 : decode cX7_works 106 = .ok (.iaload, 1) := by decide +kernel
theorem dX7_works_107 : decode cX7_works 107 = .ok (.ifCond .ne 7, 3) := by decide +kernel
theorem dX7_works_110 : decode cX7_works 110 = .ok (.iconst 1, 1) := by decide +kernel
theorem dX7_works_111 : decode cX7_works 111 = .ok (.goto 4, 3) := by decide +kernel
theorem dX7_works_114 : decode cX7_works 114 = .ok (.iconst 0, 1) := by decide +kernel
theorem dX7_works_115 : decode cX7_works 115 = .ok (.iastore, 1) := by decide +kernel
theorem dX7_works_116 : decode cX7_works 116 = .ok (.goto 33, 3) := by decide +kernel
theorem dX7_works_119 : decode cX7_works 119 = .ok (.iinc 2 (-1), 3) := by decide +kernel
theorem dX7_works_122 : decode cX7_works 122 = .ok (.aload_n 0, 1) := by decide +kernel
theorem dX7_works_123 : decode cX7_works 123 = .ok (.getfield 40, 3) := by decide +kernel
theorem dX7_works_126 : decode cX7_works 126 = .ok (.iload_n 2, 1) := by decide +kernel
theorem dX7_works_127 : decode cX7_works 127 = .ok (.iconst 1, 1) := by decide +kernel
theorem dX7_works_128 : decode cX7_works 128 = .ok (.isub, 1) := by decide +kernel
theorem dX7_works_129 : decode cX7_works 129 = .ok (.iload 4, 2) := by decide +kernel
theorem dX7_works_131 : decode cX7_works 131 = .ok (.aload_n 0, 1) := by decide +kernel
theorem dX7_works_132 : decode cX7_works 132 = .ok (.getfield 40, 3) := by decide +kernel
theorem dX7_works_135 : decode cX7_works 135 = .ok (.iload_n 2, 1) := by decide +kernel
theorem dX7_works_136 : decode cX7_works 136 = .ok (.iconst 1, 1) := by decide +kernel
theorem dX7_works_137 : decode cX7_works 137 = .ok (.isub, 1) := by decide +kernel
theorem dX7_works_138 : decode cX7_works 138 = .ok (.iaload, 1) := by decide +kernel
theorem dX7_works_139 : decode cX7_works 139 = .ok (.aload_n 0, 1) := by decide +kernel
theorem dX7_works_140 : decode cX7_works 140 = .ok (.getfield 40, 3) := by decide +kernel
theorem dX7_works_143 : decode cX7_works 143 = .ok (.iload_n 2, 1) := by decide +kernel
theorem dX7_works_144 : decode cX7_works 144 = .ok (.iaload, 1) := by decide +kernel
theorem dX7_works_145 : decode cX7_works 145 = .ok (.invokestatic 170, 3) := by decide +kernel
theorem dX7_works_148 : decode cX7_works 148 = .ok (.iastore, 1) := by decide +kernel
theorem dX7_works_149 : decode cX7_works 149 = .ok (.iinc 3 1, 3) := by decide +kernel
theorem dX7_works_152 : decode cX7_works 152 = .ok (.goto (-148), 3) := by decide +kernel
theorem dX7_works_155 : decode cX7_works 155 = .ok (.aload_n 0, 1) := by decide +kernel
theorem dX7_works_156 : decode cX7_works 156 = .ok (.getfield 40, 3) := by decide +kernel
theorem dX7_works_159 : decode cX7_works 159 = .ok (.iconst 0, 1) := by decide +kernel
theorem dX7_works_160 : decode cX7_works 160 = .ok (.iaload, 1) := by decide +kernel
theorem dX7_works_161 : decode cX7_works 161 = .ok (.ireturn, 1) := by decide +kernel
theorem dX7_gives_0 : decode cX7_gives 0 = .ok (.sipush 156, 3) := by decide +kernel
theorem dX7_gives_3 : decode cX7_gives 3 = .ok (.bipush 121, 2) := by decide +kernel
theorem dX7_gives_5 : decode cX7_gives 5 = .ok (.iload_n 1, 1) := by decide +kernel
theorem dX7_gives_6 : decode cX7_gives 6 = .ok (.imul, 1) := by decide +kernel
theorem dX7_gives_7 : decode cX7_gives 7 = .ok (.iadd, 1) := by decide +kernel
theorem dX7_gives_8 : decode cX7_gives 8 = .ok (.istore 5, 2) := by decide +kernel
theorem dX7_gives_10 : decode cX7_gives 10 = .ok (.aload_n 0, 1) := by decide +kernel
theorem dX7_gives_11 : decode cX7_gives 11 = .ok (.getfield 37, 3) := by decide +kernel
theorem dX7_gives_14 : decode cX7_gives 14 = .ok (.iconst 0, 1) := by decide +kernel
theorem dX7_gives_15 : decode cX7_gives 15 = .ok (.iload_n 2, 1) := by decide +kernel
theorem dX7_gives_16 : decode cX7_gives 16 = .ok (.iastore, 1) := by decide +kernel
theorem dX7_gives_17 : decode cX7_gives 17 = .ok (.aload_n 0, 1) := by decide +kernel
theorem dX7_gives_18 : decode cX7_gives 18 = .ok (.getfield 37, 3) := by decide +kernel
theorem dX7_gives_21 : decode cX7_gives 21 = .ok (.iconst 1, 1) := by decide +kernel
theorem dX7_gives_22 : decode cX7_gives 22 = .ok (.iload_n 3, 1) := by decide +kernel
theorem dX7_gives_23 : decode cX7_gives 23 = .ok (.iastore, 1) := by decide +kernel
theorem dX7_gives_24 : decode cX7_gives 24 = .ok (.aload_n 0, 1) := by decide +kernel
theorem dX7_gives_25 : decode cX7_gives 25 = .ok (.getfield 37, 3) := by decide +kernel
theorem dX7_gives_28 : decode cX7_gives 28 = .ok (.iconst 2, 1) := by decide +kernel
theorem dX7_gives_29 : decode cX7_gives 29 = .ok (.iload 4, 2) := by decide +kernel
theorem dX7_gives_31 : decode cX7_gives 31 = .ok (.iastore, 1) := by decide +kernel
theorem dX7_gives_32 : decode cX7_gives 32 = .ok (.aload_n 0, 1) := by decide +kernel
theorem dX7_gives_33 : decode cX7_gives 33 = .ok (.getfield 9, 3) := by decide +kernel
theorem dX7_gives_36 : decode cX7_gives 36 = .ok (.iload 5, 2) := by decide +kernel
theorem dX7_gives_38 : decode cX7_gives 38 = .ok (.iaload, 1) := by decide +kernel
theorem dX7_gives_39 : decode cX7_gives 39 = .ok (.ifCond .le 12, 3) := by decide +kernel
theorem dX7_gives_42 : decode cX7_gives 42 = .ok (.aload_n 0, 1) := by decide +kernel
theorem dX7_gives_43 : decode cX7_gives 43 = .ok (.iload 5, 2) := by decide +kernel
theorem dX7_gives_45 : decode cX7_gives 45 = .ok (.invokevirtual 173, 3) := by decide +kernel
theorem dX7_gives_48 : decode cX7_gives 48 = .ok (.goto 26, 3) := by decide +kernel
theorem dX7_gives_51 : decode cX7_gives 51 = .ok (.iload_n 1, 1) := by decide +kernel
theorem dX7_gives_52 : decode cX7_gives 52 = .ok (.iconst 1, 1) := by decide +kernel
theorem dX7_gives_53 : decode cX7_gives 53 = .ok (.if_icmp .ne 12, 3) := by decide +kernel
theorem dX7_gives_56 : decode cX7_gives 56 = .ok (.iload_n 2, 1) := by decide +kernel
theorem dX7_gives_57 : decode cX7_gives 57 = .ok (.bipush 10, 2) := by decide +kernel
theorem dX7_gives_59 : decode cX7_gives 59 = .ok (.idiv, 1) := by decide +kernel
theorem dX7_gives_60 : decode cX7_gives 60 = .ok (.iconst 1, 1) := by decide +kernel
theorem dX7_gives_61 : decode cX7_gives 61 = .ok (.iadd, 1) := by decide +kernel
theorem dX7_gives_62 : decode cX7_gives 62 = .ok (.goto 12, 3) := by decide +kernel
theorem dX7_gives_65 : decode cX7_gives 65 = .ok (.iload_n 2, 1) := by decide +kernel
theorem dX7_gives_66 : decode cX7_gives 66 = .ok (.ifCond .le 7, 3) := by decide +kernel
theorem dX7_gives_69 : decode cX7_gives 69 = .ok (.iconst 1, 1) := by decide +kernel
theorem dX7_gives_70 : decode cX7_gives 70 = .ok (.goto 4, 3) := by decide +kernel
theorem dX7_gives_73 : decode cX7_gives 73 = .ok (.iconst (-1), 1) := by decide +kernel
theorem dX7_gives_74 : decode cX7_gives 74 = .ok (.istore 6, 2) := by decide +kernel
theorem dX7_gives_76 : decode cX7_gives 76 = .ok (.iload_n 1, 1) := by decide +kernel
theorem dX7_gives_77 : decode cX7_gives 77 = .ok (.ifCond .ne 15, 3) := by decide +kernel
theorem dX7_gives_80 : decode cX7_gives 80 = .ok (.iload 6, 2) := by decide +kernel
theorem dX7_gives_82 : decode cX7_gives 82 = .ok (.bipush (-9), 2) := by decide +kernel
theorem dX7_gives_84 : decode cX7_gives 84 = .ok (.bipush 9, 2) := by decide +kernel
theorem dX7_gives_86 : decode cX7_gives 86 = .ok (.invokestatic 66, 3) := by decide +kernel
theorem dX7_gives_89 : decode cX7_gives 89 = .ok (.goto 11, 3) := by decide +kernel
theorem dX7_gives_92 : decode cX7_gives 92 = .ok (.iload 6, 2) := by decide +kernel
theorem dX7_gives_94 : decode cX7_gives 94 = .ok (.iconst 0, 1) := by decide +kernel
theorem dX7_gives_95 : decode cX7_gives 95 = .ok (.bipush 99, 2) := by decide +kernel
theorem dX7_gives_97 : decode cX7_gives 97 = .ok (.invokestatic 66, 3) := by decide +kernel
theorem dX7_gives_100 : decode cX7_gives 100 = .ok (.ireturn, 1) := by decide +kernel
theorem dX7_law_0 : decode cX7_law 0 = .ok (.iload_n 1, 1) := by decide +kernel
theorem dX7_law_1 : decode cX7_law 1 = .ok (.iconst 0, 1) := by decide +kernel
theorem dX7_law_2 : decode cX7_law 2 = .ok (.iconst 1, 1) := by decide +kernel
theorem dX7_law_3 : decode cX7_law 3 = .ok (.invokestatic 54, 3) := by decide +kernel
theorem dX7_law_6 : decode cX7_law 6 = .ok (.ifCond .eq 15, 3) := by decide +kernel
theorem dX7_law_9 : decode cX7_law 9 = .ok (.aload_n 0, 1) := by decide +kernel
theorem dX7_law_10 : decode cX7_law 10 = .ok (.iload_n 1, 1) := by decide +kernel
theorem dX7_law_11 : decode cX7_law 11 = .ok (.iload_n 2, 1) := by decide +kernel
theorem dX7_law_12 : decode cX7_law 12 = .ok (.iload_n 3, 1) := by decide +kernel
theorem dX7_law_13 : decode cX7_law 13 = .ok (.iload 4, 2) := by decide +kernel
theorem dX7_law_15 : decode cX7_law 15 = .ok (.invokevirtual 105, 3) := by decide +kernel
theorem dX7_law_18 : decode cX7_law 18 = .ok (.goto 9, 3) := by decide +kernel
theorem dX7_law_21 : decode cX7_law 21 = .ok (.aload_n 0, 1) := by decide +kernel
theorem dX7_law_22 : decode cX7_law 22 = .ok (.ldc 80, 2) := by decide +kernel
theorem dX7_law_24 : decode cX7_law 24 = .ok (.invokevirtual 81, 3) := by decide +kernel
theorem dX7_law_27 : decode cX7_law 27 = .ok (.ireturn, 1) := by decide +kernel
theorem dX7_goes_0 : decode cX7_goes 0 = .ok (.iconst 0, 1) := by decide +kernel
theorem dX7_goes_1 : decode cX7_goes 1 = .ok (.istore_n 1, 1) := by decide +kernel
theorem dX7_goes_2 : decode cX7_goes 2 = .ok (.iload_n 1, 1) := by decide +kernel
theorem dX7_goes_3 : decode cX7_goes 3 = .ok (.aload_n 0, 1) := by decide +kernel
theorem dX7_goes_4 : decode cX7_goes 4 = .ok (.getfield 9, 3) := by decide +kernel
theorem dX7_goes_7 : decode cX7_goes 7 = .ok (.iconst 2, 1) := by decide +kernel
theorem dX7_goes_8 : decode cX7_goes 8 = .ok (.iaload, 1) := by decide +kernel
theorem dX7_goes_9 : decode cX7_goes 9 = .ok (.if_icmp .ge 73, 3) := by decide +kernel
theorem dX7_goes_12 : decode cX7_goes 12 = .ok (.aload_n 0, 1) := by decide +kernel
theorem dX7_goes_13 : decode cX7_goes 13 = .ok (.iconst 0, 1) := by decide +kernel
theorem dX7_goes_14 : decode cX7_goes 14 = .ok (.aload_n 0, 1) := by decide +kernel
theorem dX7_goes_15 : decode cX7_goes 15 = .ok (.getfield 9, 3) := by decide +kernel
theorem dX7_goes_18 : decode cX7_goes 18 = .ok (.iconst 4, 1) := by decide +kernel
theorem dX7_goes_19 : decode cX7_goes 19 = .ok (.iaload, 1) := by decide +kernel
theorem dX7_goes_20 : decode cX7_goes 20 = .ok (.aload_n 0, 1) := by decide +kernel
theorem dX7_goes_21 : decode cX7_goes 21 = .ok (.iload_n 1, 1) := by decide +kernel
theorem dX7_goes_22 : decode cX7_goes 22 = .ok (.iconst 5, 1) := by decide +kernel
theorem dX7_goes_23 : decode cX7_goes 23 = .ok (.invokevirtual 62, 3) := by decide +kernel
theorem dX7_goes_26 : decode cX7_goes 26 = .ok (.aload_n 0, 1) := by decide +kernel
theorem dX7_goes_27 : decode cX7_goes 27 = .ok (.iload_n 1, 1) := by decide +kernel
theorem dX7_goes_28 : decode cX7_goes 28 = .ok (.iconst 0, 1) := by decide +kernel
theorem dX7_goes_29 : decode cX7_goes 29 = .ok (.invokevirtual 62, 3) := by decide +kernel
theorem dX7_goes_32 : decode cX7_goes 32 = .ok (.invokevirtual 105, 3) := by decide +kernel
theorem dX7_goes_35 : decode cX7_goes 35 = .ok (.istore_n 2, 1) := by decide +kernel
theorem dX7_goes_36 : decode cX7_goes 36 = .ok (.aload_n 0, 1) := by decide +kernel
theorem dX7_goes_37 : decode cX7_goes 37 = .ok (.iload_n 1, 1) := by decide +kernel
theorem dX7_goes_38 : decode cX7_goes 38 = .ok (.iconst 5, 1) := by decide +kernel
theorem dX7_goes_39 : decode cX7_goes 39 = .ok (.aload_n 0, 1) := by decide +kernel
theorem dX7_goes_40 : decode cX7_goes 40 = .ok (.iload_n 1, 1) := by decide +kernel
theorem dX7_goes_41 : decode cX7_goes 41 = .ok (.iconst 5, 1) := by decide +kernel
theorem dX7_goes_42 : decode cX7_goes 42 = .ok (.invokevirtual 62, 3) := by decide +kernel
theorem dX7_goes_45 : decode cX7_goes 45 = .ok (.iload_n 2, 1) := by decide +kernel
theorem dX7_goes_46 : decode cX7_goes 46 = .ok (.iadd, 1) := by decide +kernel
theorem dX7_goes_47 : decode cX7_goes 47 = .ok (.iconst 0, 1) := by decide +kernel
theorem dX7_goes_48 : decode cX7_goes 48 = .ok (.bipush 9, 2) := by decide +kernel
theorem dX7_goes_50 : decode cX7_goes 50 = .ok (.invokestatic 66, 3) := by decide +kernel
theorem dX7_goes_53 : decode cX7_goes 53 = .ok (.invokevirtual 86, 3) := by decide +kernel
theorem dX7_goes_56 : decode cX7_goes 56 = .ok (.aload_n 0, 1) := by decide +kernel
theorem dX7_goes_57 : decode cX7_goes 57 = .ok (.iload_n 1, 1) := by decide +kernel
theorem dX7_goes_58 : decode cX7_goes 58 = .ok (.iconst 4, 1) := by decide +kernel
theorem dX7_goes_59 : decode cX7_goes 59 = .ok (.aload_n 0, 1) := by decide +kernel
theorem dX7_goes_60 : decode cX7_goes 60 = .ok (.iload_n 1, 1) := by decide +kernel
theorem dX7_goes_61 : decode cX7_goes 61 = .ok (.iconst 4, 1) := by decide +kernel
theorem dX7_goes_62 : decode cX7_goes 62 = .ok (.invokevirtual 62, 3) := by decide +kernel
theorem dX7_goes_65 : decode cX7_goes 65 = .ok (.iconst 1, 1) := by decide +kernel
theorem dX7_goes_66 : decode cX7_goes 66 = .ok (.iadd, 1) := by decide +kernel
theorem dX7_goes_67 : decode cX7_goes 67 = .ok (.iconst 0, 1) := by decide +kernel
theorem dX7_goes_68 : decode cX7_goes 68 = .ok (.bipush 99, 2) := by decide +kernel
theorem dX7_goes_70 : decode cX7_goes 70 = .ok (.invokestatic 66, 3) := by decide +kernel
theorem dX7_goes_73 : decode cX7_goes 73 = .ok (.invokevirtual 86, 3) := by decide +kernel
theorem dX7_goes_76 : decode cX7_goes 76 = .ok (.iinc 1 1, 3) := by decide +kernel
theorem dX7_goes_79 : decode cX7_goes 79 = .ok (.goto (-77), 3) := by decide +kernel
theorem dX7_goes_82 : decode cX7_goes 82 = .ok (.aload_n 0, 1) := by decide +kernel
theorem dX7_goes_83 : decode cX7_goes 83 = .ok (.getfield 9, 3) := by decide +kernel
theorem dX7_goes_86 : decode cX7_goes 86 = .ok (.iconst 0, 1) := by decide +kernel
theorem dX7_goes_87 : decode cX7_goes 87 = .ok (.dup2, 1) := by decide +kernel
theorem dX7_goes_88 : decode cX7_goes 88 = .ok (.iaload, 1) := by decide +kernel
theorem dX7_goes_89 : decode cX7_goes 89 = .ok (.iconst 1, 1) := by decide +kernel
theorem dX7_goes_90 : decode cX7_goes 90 = .ok (.iadd, 1) := by decide +kernel
theorem dX7_goes_91 : decode cX7_goes 91 = .ok (.iastore, 1) := by decide +kernel
theorem dX7_goes_92 : decode cX7_goes 92 = .ok (.return_, 1) := by decide +kernel
theorem dX7_days_0 : decode cX7_days 0 = .ok (.iload_n 1, 1) := by decide +kernel
theorem dX7_days_1 : decode cX7_days 1 = .ok (.iconst 1, 1) := by decide +kernel
theorem dX7_days_2 : decode cX7_days 2 = .ok (.bipush 60, 2) := by decide +kernel
theorem dX7_days_4 : decode cX7_days 4 = .ok (.invokestatic 54, 3) := by decide +kernel
theorem dX7_days_7 : decode cX7_days 7 = .ok (.ifCond .ne 10, 3) := by decide +kernel
theorem dX7_days_10 : decode cX7_days 10 = .ok (.aload_n 0, 1) := by decide +kernel
theorem dX7_days_11 : decode cX7_days 11 = .ok (.ldc 80, 2) := by decide +kernel
theorem dX7_days_13 : decode cX7_days 13 = .ok (.invokevirtual 81, 3) := by decide +kernel
theorem dX7_days_16 : decode cX7_days 16 = .ok (.ireturn, 1) := by decide +kernel
theorem dX7_days_17 : decode cX7_days 17 = .ok (.aload_n 0, 1) := by decide +kernel
theorem dX7_days_18 : decode cX7_days 18 = .ok (.getfield 9, 3) := by decide +kernel
theorem dX7_days_21 : decode cX7_days 21 = .ok (.iconst 0, 1) := by decide +kernel
theorem dX7_days_22 : decode cX7_days 22 = .ok (.iaload, 1) := by decide +kernel
theorem dX7_days_23 : decode cX7_days 23 = .ok (.iload_n 1, 1) := by decide +kernel
theorem dX7_days_24 : decode cX7_days 24 = .ok (.iadd, 1) := by decide +kernel
theorem dX7_days_25 : decode cX7_days 25 = .ok (.sipush 9999, 3) := by decide +kernel
theorem dX7_days_28 : decode cX7_days 28 = .ok (.if_icmp .le 10, 3) := by decide +kernel
theorem dX7_days_31 : decode cX7_days 31 = .ok (.aload_n 0, 1) := by decide +kernel
theorem dX7_days_32 : decode cX7_days 32 = .ok (.ldc 103, 2) := by decide +kernel
theorem dX7_days_34 : decode cX7_days 34 = .ok (.invokevirtual 81, 3) := by decide +kernel
theorem dX7_days_37 : decode cX7_days 37 = .ok (.ireturn, 1) := by decide +kernel
theorem dX7_days_38 : decode cX7_days 38 = .ok (.iconst 0, 1) := by decide +kernel
theorem dX7_days_39 : decode cX7_days 39 = .ok (.istore_n 2, 1) := by decide +kernel
theorem dX7_days_40 : decode cX7_days 40 = .ok (.iload_n 2, 1) := by decide +kernel
theorem dX7_days_41 : decode cX7_days 41 = .ok (.iload_n 1, 1) := by decide +kernel
theorem dX7_days_42 : decode cX7_days 42 = .ok (.if_icmp .ge 13, 3) := by decide +kernel
theorem dX7_days_45 : decode cX7_days 45 = .ok (.aload_n 0, 1) := by decide +kernel
theorem dX7_days_46 : decode cX7_days 46 = .ok (.invokevirtual 176, 3) := by decide +kernel
theorem dX7_days_49 : decode cX7_days 49 = .ok (.iinc 2 1, 3) := by decide +kernel
theorem dX7_days_52 : decode cX7_days 52 = .ok (.goto (-12), 3) := by decide +kernel
theorem dX7_days_55 : decode cX7_days 55 = .ok (.aload_n 0, 1) := by decide +kernel
theorem dX7_days_56 : decode cX7_days 56 = .ok (.getfield 9, 3) := by decide +kernel
theorem dX7_days_59 : decode cX7_days 59 = .ok (.iconst 0, 1) := by decide +kernel
theorem dX7_days_60 : decode cX7_days 60 = .ok (.iaload, 1) := by decide +kernel
theorem dX7_days_61 : decode cX7_days 61 = .ok (.ireturn, 1) := by decide +kernel
theorem dX7_draw_0 : decode cX7_draw 0 = .ok (.aload_n 0, 1) := by decide +kernel
theorem dX7_draw_1 : decode cX7_draw 1 = .ok (.getfield 9, 3) := by decide +kernel
theorem dX7_draw_4 : decode cX7_draw 4 = .ok (.iconst 1, 1) := by decide +kernel
theorem dX7_draw_5 : decode cX7_draw 5 = .ok (.aload_n 0, 1) := by decide +kernel
theorem dX7_draw_6 : decode cX7_draw 6 = .ok (.getfield 9, 3) := by decide +kernel
theorem dX7_draw_9 : decode cX7_draw 9 = .ok (.iconst 1, 1) := by decide +kernel
theorem dX7_draw_10 : decode cX7_draw 10 = .ok (.iaload, 1) := by decide +kernel
theorem dX7_draw_11 : decode cX7_draw 11 = .ok (.ldc 179, 2) := by decide +kernel
theorem dX7_draw_13 : decode cX7_draw 13 = .ok (.imul, 1) := by decide +kernel
theorem dX7_draw_14 : decode cX7_draw 14 = .ok (.sipush 12345, 3) := by decide +kernel
theorem dX7_draw_17 : decode cX7_draw 17 = .ok (.iadd, 1) := by decide +kernel
theorem dX7_draw_18 : decode cX7_draw 18 = .ok (.iastore, 1) := by decide +kernel
theorem dX7_draw_19 : decode cX7_draw 19 = .ok (.aload_n 0, 1) := by decide +kernel
theorem dX7_draw_20 : decode cX7_draw 20 = .ok (.getfield 9, 3) := by decide +kernel
theorem dX7_draw_23 : decode cX7_draw 23 = .ok (.iconst 1, 1) := by decide +kernel
theorem dX7_draw_24 : decode cX7_draw 24 = .ok (.iaload, 1) := by decide +kernel
theorem dX7_draw_25 : decode cX7_draw 25 = .ok (.bipush 8, 2) := by decide +kernel
theorem dX7_draw_27 : decode cX7_draw 27 = .ok (.iushr, 1) := by decide +kernel
theorem dX7_draw_28 : decode cX7_draw 28 = .ok (.ireturn, 1) := by decide +kernel
theorem dX7_drawn_0 : decode cX7_drawn 0 = .ok (.iconst 0, 1) := by decide +kernel
theorem dX7_drawn_1 : decode cX7_drawn 1 = .ok (.istore_n 1, 1) := by decide +kernel
theorem dX7_drawn_2 : decode cX7_drawn 2 = .ok (.aload_n 0, 1) := by decide +kernel
theorem dX7_drawn_3 : decode cX7_drawn 3 = .ok (.getfield 9, 3) := by decide +kernel
theorem dX7_drawn_6 : decode cX7_drawn 6 = .ok (.iconst 4, 1) := by decide +kernel
theorem dX7_drawn_7 : decode cX7_drawn 7 = .ok (.aload_n 0, 1) := by decide +kernel
theorem dX7_drawn_8 : decode cX7_drawn 8 = .ok (.invokevirtual 180, 3) := by decide +kernel
theorem dX7_drawn_11 : decode cX7_drawn 11 = .ok (.bipush 16, 2) := by decide +kernel
theorem dX7_drawn_13 : decode cX7_drawn 13 = .ok (.irem, 1) := by decide +kernel
theorem dX7_drawn_14 : decode cX7_drawn 14 = .ok (.bipush 6, 2) := by decide +kernel
theorem dX7_drawn_16 : decode cX7_drawn 16 = .ok (.isub, 1) := by decide +kernel
theorem dX7_drawn_17 : decode cX7_drawn 17 = .ok (.iconst 0, 1) := by decide +kernel
theorem dX7_drawn_18 : decode cX7_drawn 18 = .ok (.bipush 9, 2) := by decide +kernel
theorem dX7_drawn_20 : decode cX7_drawn 20 = .ok (.invokestatic 66, 3) := by decide +kernel
theorem dX7_drawn_23 : decode cX7_drawn 23 = .ok (.iastore, 1) := by decide +kernel
theorem dX7_drawn_24 : decode cX7_drawn 24 = .ok (.aload_n 0, 1) := by decide +kernel
theorem dX7_drawn_25 : decode cX7_drawn 25 = .ok (.getfield 9, 3) := by decide +kernel
theorem dX7_drawn_28 : decode cX7_drawn 28 = .ok (.iconst 2, 1) := by decide +kernel
theorem dX7_drawn_29 : decode cX7_drawn 29 = .ok (.iaload, 1) := by decide +kernel
theorem dX7_drawn_30 : decode cX7_drawn 30 = .ok (.ifCond .le 48, 3) := by decide +kernel
theorem dX7_drawn_33 : decode cX7_drawn 33 = .ok (.aload_n 0, 1) := by decide +kernel
theorem dX7_drawn_34 : decode cX7_drawn 34 = .ok (.invokevirtual 180, 3) := by decide +kernel
theorem dX7_drawn_37 : decode cX7_drawn 37 = .ok (.aload_n 0, 1) := by decide +kernel
theorem dX7_drawn_38 : decode cX7_drawn 38 = .ok (.getfield 9, 3) := by decide +kernel
theorem dX7_drawn_41 : decode cX7_drawn 41 = .ok (.iconst 2, 1) := by decide +kernel
theorem dX7_drawn_42 : decode cX7_drawn 42 = .ok (.iaload, 1) := by decide +kernel
theorem dX7_drawn_43 : decode cX7_drawn 43 = .ok (.irem, 1) := by decide +kernel
theorem dX7_drawn_44 : decode cX7_drawn 44 = .ok (.istore_n 2, 1) := by decide +kernel
theorem dX7_drawn_45 : decode cX7_drawn 45 = .ok (.aload_n 0, 1) := by decide +kernel
theorem dX7_drawn_46 : decode cX7_drawn 46 = .ok (.invokevirtual 180, 3) := by decide +kernel
theorem dX7_drawn_49 : decode cX7_drawn 49 = .ok (.bipush 30, 2) := by decide +kernel
theorem dX7_drawn_51 : decode cX7_drawn 51 = .ok (.irem, 1) := by decide +kernel
theorem dX7_drawn_52 : decode cX7_drawn 52 = .ok (.istore_n 3, 1) := by decide +kernel
theorem dX7_drawn_53 : decode cX7_drawn 53 = .ok (.aload_n 0, 1) := by decide +kernel
theorem dX7_drawn_54 : decode cX7_drawn 54 = .ok (.iload_n 2, 1) := by decide +kernel
theorem dX7_drawn_55 : decode cX7_drawn 55 = .ok (.bipush 6, 2) := by decide +kernel
theorem dX7_drawn_57 : decode cX7_drawn 57 = .ok (.invokevirtual 62, 3) := by decide +kernel
theorem dX7_drawn_60 : decode cX7_drawn 60 = .ok (.ifCond .ne 16, 3) := by decide +kernel
theorem dX7_drawn_63 : decode cX7_drawn 63 = .ok (.aload_n 0, 1) := by decide +kernel
theorem dX7_drawn_64 : decode cX7_drawn 64 = .ok (.iload_n 2, 1) := by decide +kernel
theorem dX7_drawn_65 : decode cX7_drawn 65 = .ok (.iload_n 3, 1) := by decide +kernel
theorem dX7_drawn_66 : decode cX7_drawn 66 = .ok (.invokevirtual 112, 3) := by decide +kernel
theorem dX7_drawn_69 : decode cX7_drawn 69 = .ok (.ifCond .ge 7, 3) := by decide +kernel
theorem dX7_drawn_72 : decode cX7_drawn 72 = .ok (.iconst 1, 1) := by decide +kernel
theorem dX7_drawn_73 : decode cX7_drawn 73 = .ok (.goto 4, 3) := by decide +kernel
theorem dX7_drawn_76 : decode cX7_drawn 76 = .ok (.iconst 0, 1) := by decide +kernel
theorem dX7_drawn_77 : decode cX7_drawn 77 = .ok (.istore_n 1, 1) := by decide +kernel
theorem dX7_drawn_78 : decode cX7_drawn 78 = .ok (.aload_n 0, 1) := by decide +kernel
theorem dX7_drawn_79 : decode cX7_drawn 79 = .ok (.invokevirtual 176, 3) := by decide +kernel
theorem dX7_drawn_82 : decode cX7_drawn 82 = .ok (.iload_n 1, 1) := by decide +kernel
theorem dX7_drawn_83 : decode cX7_drawn 83 = .ok (.ireturn, 1) := by decide +kernel
theorem dX7_loose_0 : decode cX7_loose 0 = .ok (.iload_n 1, 1) := by decide +kernel
theorem dX7_loose_1 : decode cX7_loose 1 = .ok (.iconst 1, 1) := by decide +kernel
theorem dX7_loose_2 : decode cX7_loose 2 = .ok (.bipush 30, 2) := by decide +kernel
theorem dX7_loose_4 : decode cX7_loose 4 = .ok (.invokestatic 54, 3) := by decide +kernel
theorem dX7_loose_7 : decode cX7_loose 7 = .ok (.ifCond .ne 10, 3) := by decide +kernel
theorem dX7_loose_10 : decode cX7_loose 10 = .ok (.aload_n 0, 1) := by decide +kernel
theorem dX7_loose_11 : decode cX7_loose 11 = .ok (.ldc 80, 2) := by decide +kernel
theorem dX7_loose_13 : decode cX7_loose 13 = .ok (.invokevirtual 81, 3) := by decide +kernel
theorem dX7_loose_16 : decode cX7_loose 16 = .ok (.ireturn, 1) := by decide +kernel
theorem dX7_loose_17 : decode cX7_loose 17 = .ok (.aload_n 0, 1) := by decide +kernel
theorem dX7_loose_18 : decode cX7_loose 18 = .ok (.getfield 9, 3) := by decide +kernel
theorem dX7_loose_21 : decode cX7_loose 21 = .ok (.iconst 0, 1) := by decide +kernel
theorem dX7_loose_22 : decode cX7_loose 22 = .ok (.iaload, 1) := by decide +kernel
theorem dX7_loose_23 : decode cX7_loose 23 = .ok (.iload_n 1, 1) := by decide +kernel
theorem dX7_loose_24 : decode cX7_loose 24 = .ok (.iadd, 1) := by decide +kernel
theorem dX7_loose_25 : decode cX7_loose 25 = .ok (.sipush 9999, 3) := by decide +kernel
theorem dX7_loose_28 : decode cX7_loose 28 = .ok (.if_icmp .le 10, 3) := by decide +kernel
theorem dX7_loose_31 : decode cX7_loose 31 = .ok (.aload_n 0, 1) := by decide +kernel
theorem dX7_loose_32 : decode cX7_loose 32 = .ok (.ldc 103, 2) := by decide +kernel
theorem dX7_loose_34 : decode cX7_loose 34 = .ok (.invokevirtual 81, 3) := by decide +kernel
theorem dX7_loose_37 : decode cX7_loose 37 = .ok (.ireturn, 1) := by decide +kernel
theorem dX7_loose_38 : decode cX7_loose 38 = .ok (.iconst 0, 1) := by decide +kernel
theorem dX7_loose_39 : decode cX7_loose 39 = .ok (.istore_n 2, 1) := by decide +kernel
theorem dX7_loose_40 : decode cX7_loose 40 = .ok (.iconst 0, 1) := by decide +kernel
theorem dX7_loose_41 : decode cX7_loose 41 = .ok (.istore_n 3, 1) := by decide +kernel
theorem dX7_loose_42 : decode cX7_loose 42 = .ok (.iload_n 3, 1) := by decide +kernel
theorem dX7_loose_43 : decode cX7_loose 43 = .ok (.iload_n 1, 1) := by decide +kernel
theorem dX7_loose_44 : decode cX7_loose 44 = .ok (.if_icmp .ge 16, 3) := by decide +kernel
theorem dX7_loose_47 : decode cX7_loose 47 = .ok (.iload_n 2, 1) := by decide +kernel
theorem dX7_loose_48 : decode cX7_loose 48 = .ok (.aload_n 0, 1) := by decide +kernel
theorem dX7_loose_49 : decode cX7_loose 49 = .ok (.invokevirtual 183, 3) := by decide +kernel
theorem dX7_loose_52 : decode cX7_loose 52 = .ok (.iadd, 1) := by decide +kernel
theorem dX7_loose_53 : decode cX7_loose 53 = .ok (.istore_n 2, 1) := by decide +kernel
theorem dX7_loose_54 : decode cX7_loose 54 = .ok (.iinc 3 1, 3) := by decide +kernel
theorem dX7_loose_57 : decode cX7_loose 57 = .ok (.goto (-15), 3) := by decide +kernel
theorem dX7_loose_60 : decode cX7_loose 60 = .ok (.iload_n 2, 1) := by decide +kernel
theorem dX7_loose_61 : decode cX7_loose 61 = .ok (.ireturn, 1) := by decide +kernel
theorem dX7_seed_0 : decode cX7_seed 0 = .ok (.aload_n 0, 1) := by decide +kernel
theorem dX7_seed_1 : decode cX7_seed 1 = .ok (.iconst 1, 1) := by decide +kernel
theorem dX7_seed_2 : decode cX7_seed 2 = .ok (.iload_n 1, 1) := by decide +kernel
theorem dX7_seed_3 : decode cX7_seed 3 = .ok (.invokevirtual 99, 3) := by decide +kernel
theorem dX7_seed_6 : decode cX7_seed 6 = .ok (.ireturn, 1) := by decide +kernel
theorem dX7_findBearing_0 : decode cX7_findBearing 0 = .ok (.iconst 0, 1) := by decide +kernel
theorem dX7_findBearing_1 : decode cX7_findBearing 1 = .ok (.istore_n 1, 1) := by decide +kernel
theorem dX7_findBearing_2 : decode cX7_findBearing 2 = .ok (.iload_n 1, 1) := by decide +kernel
theorem dX7_findBearing_3 : decode cX7_findBearing 3 = .ok (.aload_n 0, 1) := by decide +kernel
theorem dX7_findBearing_4 : decode cX7_findBearing 4 = .ok (.getfield 9, 3) := by decide +kernel
theorem dX7_findBearing_7 : decode cX7_findBearing 7 = .ok (.iconst 2, 1) := by decide +kernel
theorem dX7_findBearing_8 : decode cX7_findBearing 8 = .ok (.iaload, 1) := by decide +kernel
theorem dX7_findBearing_9 : decode cX7_findBearing 9 = .ok (.if_icmp .ge 20, 3) := by decide +kernel
theorem dX7_findBearing_12 : decode cX7_findBearing 12 = .ok (.aload_n 0, 1) := by decide +kernel
theorem dX7_findBearing_13 : decode cX7_findBearing 13 = .ok (.getfield 43, 3) := by decide +kernel
theorem dX7_findBearing_16 : decode cX7_findBearing 16 = .ok (.iload_n 1, 1) := by decide +kernel
theorem dX7_findBearing_17 : decode cX7_findBearing 17 = .ok (.aload_n 0, 1) := by decide +kernel
theorem dX7_findBearing_18 : decode cX7_findBearing 18 = .ok (.iload_n 1, 1) := by decide +kernel
theorem dX7_findBearing_19 : decode cX7_findBearing 19 = .ok (.invokevirtual 93, 3) := by decide +kernel
theorem dX7_findBearing_22 : decode cX7_findBearing 22 = .ok (.iastore, 1) := by decide +kernel
theorem dX7_findBearing_23 : decode cX7_findBearing 23 = .ok (.iinc 1 1, 3) := by decide +kernel
theorem dX7_findBearing_26 : decode cX7_findBearing 26 = .ok (.goto (-24), 3) := by decide +kernel
theorem dX7_findBearing_29 : decode cX7_findBearing 29 = .ok (.return_, 1) := by decide +kernel
theorem dX7_joinedBy_0 : decode cX7_joinedBy 0 = .ok (.iconst 1, 1) := by decide +kernel
theorem dX7_joinedBy_1 : decode cX7_joinedBy 1 = .ok (.iload_n 1, 1) := by decide +kernel
theorem dX7_joinedBy_2 : decode cX7_joinedBy 2 = .ok (.ishl, 1) := by decide +kernel
theorem dX7_joinedBy_3 : decode cX7_joinedBy 3 = .ok (.istore_n 3, 1) := by decide +kernel
theorem dX7_joinedBy_4 : decode cX7_joinedBy 4 = .ok (.iconst 0, 1) := by decide +kernel
theorem dX7_joinedBy_5 : decode cX7_joinedBy 5 = .ok (.istore 4, 2) := by decide +kernel
theorem dX7_joinedBy_7 : decode cX7_joinedBy 7 = .ok (.iload_n 3, 1) := by decide +kernel
theorem dX7_joinedBy_8 : decode cX7_joinedBy 8 = .ok (.iload 4, 2) := by decide +kernel
theorem dX7_joinedBy_10 : decode cX7_joinedBy 10 = .ok (.if_icmp .eq 77, 3) := by decide +kernel
theorem dX7_joinedBy_13 : decode cX7_joinedBy 13 = .ok (.iload_n 3, 1) := by decide +kernel
theorem dX7_joinedBy_14 : decode cX7_joinedBy 14 = .ok (.istore 4, 2) := by decide +kernel
theorem dX7_joinedBy_16 : decode cX7_joinedBy 16 = .ok (.iconst 0, 1) := by decide +kernel
theorem dX7_joinedBy_17 : decode cX7_joinedBy 17 = .ok (.istore 5, 2) := by decide +kernel
theorem dX7_joinedBy_19 : decode cX7_joinedBy 19 = .ok (.iload 5, 2) := by decide +kernel
theorem dX7_joinedBy_21 : decode cX7_joinedBy 21 = .ok (.aload_n 0, 1) := by decide +kernel
theorem dX7_joinedBy_22 : decode cX7_joinedBy 22 = .ok (.getfield 9, 3) := by decide +kernel
theorem dX7_joinedBy_25 : decode cX7_joinedBy 25 = .ok (.iconst 2, 1) := by decide +kernel
theorem dX7_joinedBy_26 : decode cX7_joinedBy 26 = .ok (.iaload, 1) := by decide +kernel
theorem dX7_joinedBy_27 : decode cX7_joinedBy 27 = .ok (.if_icmp .ge 57, 3) := by decide +kernel
theorem dX7_joinedBy_30 : decode cX7_joinedBy 30 = .ok (.iconst 1, 1) := by decide +kernel
theorem dX7_joinedBy_31 : decode cX7_joinedBy 31 = .ok (.aload_n 0, 1) := by decide +kernel
theorem dX7_joinedBy_32 : decode cX7_joinedBy 32 = .ok (.iload 5, 2) := by decide +kernel
theorem dX7_joinedBy_34 : decode cX7_joinedBy 34 = .ok (.iconst 2, 1) := by decide +kernel
theorem dX7_joinedBy_35 : decode cX7_joinedBy 35 = .ok (.invokevirtual 62, 3) := by decide +kernel
theorem dX7_joinedBy_38 : decode cX7_joinedBy 38 = .ok (.ishl, 1) := by decide +kernel
theorem dX7_joinedBy_39 : decode cX7_joinedBy 39 = .ok (.iconst 1, 1) := by decide +kernel
theorem dX7_joinedBy_40 : decode cX7_joinedBy 40 = .ok (.aload_n 0, 1) := by decide +kernel
theorem dX7_joinedBy_41 : decode cX7_joinedBy 41 = .ok (.iload 5, 2) := by decide +kernel
theorem dX7_joinedBy_43 : decode cX7_joinedBy 43 = .ok (.iconst 3, 1) := by decide +kernel
theorem dX7_joinedBy_44 : decode cX7_joinedBy 44 = .ok (.invokevirtual 62, 3) := by decide +kernel
theorem dX7_joinedBy_47 : decode cX7_joinedBy 47 = .ok (.ishl, 1) := by decide +kernel
theorem dX7_joinedBy_48 : decode cX7_joinedBy 48 = .ok (.ior, 1) := by decide +kernel
theorem dX7_joinedBy_49 : decode cX7_joinedBy 49 = .ok (.istore 6, 2) := by decide +kernel
theorem dX7_joinedBy_51 : decode cX7_joinedBy 51 = .ok (.iload_n 3, 1) := by decide +kernel
theorem dX7_joinedBy_52 : decode cX7_joinedBy 52 = .ok (.aload_n 0, 1) := by decide +kernel
theorem dX7_joinedBy_53 : decode cX7_joinedBy 53 = .ok (.getfield 43, 3) := by decide +kernel
theorem dX7_joinedBy_56 : decode cX7_joinedBy 56 = .ok (.iload 5, 2) := by decide +kernel
theorem dX7_joinedBy_58 : decode cX7_joinedBy 58 = .ok (.iaload, 1) := by decide +kernel
theorem dX7_joinedBy_59 : decode cX7_joinedBy 59 = .ok (.iload_n 2, 1) := by decide +kernel
theorem dX7_joinedBy_60 : decode cX7_joinedBy 60 = .ok (.if_icmp .lt 15, 3) := by decide +kernel
theorem dX7_joinedBy_63 : decode cX7_joinedBy 63 = .ok (.iload_n 3, 1) := by decide +kernel
theorem dX7_joinedBy_64 : decode cX7_joinedBy 64 = .ok (.iload 6, 2) := by decide +kernel
theorem dX7_joinedBy_66 : decode cX7_joinedBy 66 = .ok (.iand, 1) := by decide +kernel
theorem dX7_joinedBy_67 : decode cX7_joinedBy 67 = .ok (.ifCond .eq 8, 3) := by decide +kernel
theorem dX7_joinedBy_70 : decode cX7_joinedBy 70 = .ok (.iload 6, 2) := by decide +kernel
theorem dX7_joinedBy_72 : decode cX7_joinedBy 72 = .ok (.goto 4, 3) := by decide +kernel
theorem dX7_joinedBy_75 : decode cX7_joinedBy 75 = .ok (.iconst 0, 1) := by decide +kernel
theorem dX7_joinedBy_76 : decode cX7_joinedBy 76 = .ok (.ior, 1) := by decide +kernel
theorem dX7_joinedBy_77 : decode cX7_joinedBy 77 = .ok (.istore_n 3, 1) := by decide +kernel
theorem dX7_joinedBy_78 : decode cX7_joinedBy 78 = .ok (.iinc 5 1, 3) := by decide +kernel
theorem dX7_joinedBy_81 : decode cX7_joinedBy 81 = .ok (.goto (-62), 3) := by decide +kernel
theorem dX7_joinedBy_84 : decode cX7_joinedBy 84 = .ok (.goto (-77), 3) := by decide +kernel
theorem dX7_joinedBy_87 : decode cX7_joinedBy 87 = .ok (.iload_n 3, 1) := by decide +kernel
theorem dX7_joinedBy_88 : decode cX7_joinedBy 88 = .ok (.ireturn, 1) := by decide +kernel
theorem dX7_areJoinedBy_0 : decode cX7_areJoinedBy 0 = .ok (.aload_n 0, 1) := by decide +kernel
theorem dX7_areJoinedBy_1 : decode cX7_areJoinedBy 1 = .ok (.iload_n 1, 1) := by decide +kernel
theorem dX7_areJoinedBy_2 : decode cX7_areJoinedBy 2 = .ok (.iload_n 3, 1) := by decide +kernel
theorem dX7_areJoinedBy_3 : decode cX7_areJoinedBy 3 = .ok (.invokevirtual 186, 3) := by decide +kernel
theorem dX7_areJoinedBy_6 : decode cX7_areJoinedBy 6 = .ok (.iload_n 2, 1) := by decide +kernel
theorem dX7_areJoinedBy_7 : decode cX7_areJoinedBy 7 = .ok (.ishr, 1) := by decide +kernel
theorem dX7_areJoinedBy_8 : decode cX7_areJoinedBy 8 = .ok (.iconst 1, 1) := by decide +kernel
theorem dX7_areJoinedBy_9 : decode cX7_areJoinedBy 9 = .ok (.iand, 1) := by decide +kernel
theorem dX7_areJoinedBy_10 : decode cX7_areJoinedBy 10 = .ok (.iconst 1, 1) := by decide +kernel
theorem dX7_areJoinedBy_11 : decode cX7_areJoinedBy 11 = .ok (.if_icmp .ne 7, 3) := by decide +kernel
theorem dX7_areJoinedBy_14 : decode cX7_areJoinedBy 14 = .ok (.iconst 1, 1) := by decide +kernel
theorem dX7_areJoinedBy_15 : decode cX7_areJoinedBy 15 = .ok (.goto 4, 3) := by decide +kernel
theorem dX7_areJoinedBy_18 : decode cX7_areJoinedBy 18 = .ok (.iconst 0, 1) := by decide +kernel
theorem dX7_areJoinedBy_19 : decode cX7_areJoinedBy 19 = .ok (.ireturn, 1) := by decide +kernel
theorem dX7_areJoined_0 : decode cX7_areJoined 0 = .ok (.aload_n 0, 1) := by decide +kernel
theorem dX7_areJoined_1 : decode cX7_areJoined 1 = .ok (.invokevirtual 189, 3) := by decide +kernel
theorem dX7_areJoined_4 : decode cX7_areJoined 4 = .ok (.aload_n 0, 1) := by decide +kernel
theorem dX7_areJoined_5 : decode cX7_areJoined 5 = .ok (.iload_n 1, 1) := by decide +kernel
theorem dX7_areJoined_6 : decode cX7_areJoined 6 = .ok (.iload_n 2, 1) := by decide +kernel
theorem dX7_areJoined_7 : decode cX7_areJoined 7 = .ok (.iload_n 3, 1) := by decide +kernel
theorem dX7_areJoined_8 : decode cX7_areJoined 8 = .ok (.invokevirtual 192, 3) := by decide +kernel
theorem dX7_areJoined_11 : decode cX7_areJoined 11 = .ok (.ireturn, 1) := by decide +kernel
theorem dX7_joined_0 : decode cX7_joined 0 = .ok (.iload_n 1, 1) := by decide +kernel
theorem dX7_joined_1 : decode cX7_joined 1 = .ok (.invokestatic 58, 3) := by decide +kernel
theorem dX7_joined_4 : decode cX7_joined 4 = .ok (.ifCond .eq 10, 3) := by decide +kernel
theorem dX7_joined_7 : decode cX7_joined 7 = .ok (.iload_n 2, 1) := by decide +kernel
theorem dX7_joined_8 : decode cX7_joined 8 = .ok (.invokestatic 109, 3) := by decide +kernel
theorem dX7_joined_11 : decode cX7_joined 11 = .ok (.ifCond .ne 10, 3) := by decide +kernel
theorem dX7_joined_14 : decode cX7_joined 14 = .ok (.aload_n 0, 1) := by decide +kernel
theorem dX7_joined_15 : decode cX7_joined 15 = .ok (.ldc 80, 2) := by decide +kernel
theorem dX7_joined_17 : decode cX7_joined 17 = .ok (.invokevirtual 81, 3) := by decide +kernel
theorem dX7_joined_20 : decode cX7_joined 20 = .ok (.ireturn, 1) := by decide +kernel
theorem dX7_joined_21 : decode cX7_joined 21 = .ok (.aload_n 0, 1) := by decide +kernel
theorem dX7_joined_22 : decode cX7_joined 22 = .ok (.invokevirtual 189, 3) := by decide +kernel
theorem dX7_joined_25 : decode cX7_joined 25 = .ok (.aload_n 0, 1) := by decide +kernel
theorem dX7_joined_26 : decode cX7_joined 26 = .ok (.iload_n 1, 1) := by decide +kernel
theorem dX7_joined_27 : decode cX7_joined 27 = .ok (.iload_n 2, 1) := by decide +kernel
theorem dX7_joined_28 : decode cX7_joined 28 = .ok (.invokevirtual 186, 3) := by decide +kernel
theorem dX7_joined_31 : decode cX7_joined 31 = .ok (.ireturn, 1) := by decide +kernel
theorem dX7_load_0 : decode cX7_load 0 = .ok (.iload_n 1, 1) := by decide +kernel
theorem dX7_load_1 : decode cX7_load 1 = .ok (.iload_n 2, 1) := by decide +kernel
theorem dX7_load_2 : decode cX7_load 2 = .ok (.invokestatic 76, 3) := by decide +kernel
theorem dX7_load_5 : decode cX7_load 5 = .ok (.ifCond .ne 10, 3) := by decide +kernel
theorem dX7_load_8 : decode cX7_load 8 = .ok (.aload_n 0, 1) := by decide +kernel
theorem dX7_load_9 : decode cX7_load 9 = .ok (.ldc 80, 2) := by decide +kernel
theorem dX7_load_11 : decode cX7_load 11 = .ok (.invokevirtual 81, 3) := by decide +kernel
theorem dX7_load_14 : decode cX7_load 14 = .ok (.ireturn, 1) := by decide +kernel
theorem dX7_load_15 : decode cX7_load 15 = .ok (.aload_n 0, 1) := by decide +kernel
theorem dX7_load_16 : decode cX7_load 16 = .ok (.invokevirtual 189, 3) := by decide +kernel
theorem dX7_load_19 : decode cX7_load 19 = .ok (.bipush 99, 2) := by decide +kernel
theorem dX7_load_21 : decode cX7_load 21 = .ok (.istore_n 3, 1) := by decide +kernel
theorem dX7_load_22 : decode cX7_load 22 = .ok (.iload_n 3, 1) := by decide +kernel
theorem dX7_load_23 : decode cX7_load 23 = .ok (.ifCond .lt 19, 3) := by decide +kernel
theorem dX7_load_26 : decode cX7_load 26 = .ok (.aload_n 0, 1) := by decide +kernel
theorem dX7_load_27 : decode cX7_load 27 = .ok (.iload_n 1, 1) := by decide +kernel
theorem dX7_load_28 : decode cX7_load 28 = .ok (.iload_n 2, 1) := by decide +kernel
theorem dX7_load_29 : decode cX7_load 29 = .ok (.iload_n 3, 1) := by decide +kernel
theorem dX7_load_30 : decode cX7_load 30 = .ok (.invokevirtual 192, 3) := by decide +kernel
theorem dX7_load_33 : decode cX7_load 33 = .ok (.ifCond .ne 9, 3) := by decide +kernel
theorem dX7_load_36 : decode cX7_load 36 = .ok (.iinc 3 (-1), 3) := by decide +kernel
theorem dX7_load_39 : decode cX7_load 39 = .ok (.goto (-17), 3) := by decide +kernel
theorem dX7_load_42 : decode cX7_load 42 = .ok (.iload_n 3, 1) := by decide +kernel
theorem dX7_load_43 : decode cX7_load 43 = .ok (.ifCond .ge 12, 3) := by decide +kernel
theorem dX7_load_46 : decode cX7_load 46 = .ok (.aload_n 0, 1) := by decide +kernel
theorem dX7_load_47 : decode cX7_load 47 = .ok (.ldc 195, 2) := by decide +kernel
theorem dX7_load_49 : decode cX7_load 49 = .ok (.invokevirtual 81, 3) := by decide +kernel
theorem dX7_load_52 : decode cX7_load 52 = .ok (.goto 4, 3) := by decide +kernel
theorem dX7_load_55 : decode cX7_load 55 = .ok (.iload_n 3, 1) := by decide +kernel
theorem dX7_load_56 : decode cX7_load 56 = .ok (.ireturn, 1) := by decide +kernel
theorem dX7_flourFor_0 : decode cX7_flourFor 0 = .ok (.iconst 0, 1) := by decide +kernel
theorem dX7_flourFor_1 : decode cX7_flourFor 1 = .ok (.istore_n 2, 1) := by decide +kernel
theorem dX7_flourFor_2 : decode cX7_flourFor 2 = .ok (.iconst 0, 1) := by decide +kernel
theorem dX7_flourFor_3 : decode cX7_flourFor 3 = .ok (.istore_n 3, 1) := by decide +kernel
theorem dX7_flourFor_4 : decode cX7_flourFor 4 = .ok (.iload_n 3, 1) := by decide +kernel
theorem dX7_flourFor_5 : decode cX7_flourFor 5 = .ok (.aload_n 0, 1) := by decide +kernel
theorem dX7_flourFor_6 : decode cX7_flourFor 6 = .ok (.getfield 9, 3) := by decide +kernel
theorem dX7_flourFor_9 : decode cX7_flourFor 9 = .ok (.iconst 2, 1) := by decide +kernel
theorem dX7_flourFor_10 : decode cX7_flourFor 10 = .ok (.iaload, 1) := by decide +kernel
theorem dX7_flourFor_11 : decode cX7_flourFor 11 = .ok (.if_icmp .ge 30, 3) := by decide +kernel
theorem dX7_flourFor_14 : decode cX7_flourFor 14 = .ok (.iload_n 2, 1) := by decide +kernel
theorem dX7_flourFor_15 : decode cX7_flourFor 15 = .ok (.iload_n 1, 1) := by decide +kernel
theorem dX7_flourFor_16 : decode cX7_flourFor 16 = .ok (.iload_n 3, 1) := by decide +kernel
theorem dX7_flourFor_17 : decode cX7_flourFor 17 = .ok (.ishr, 1) := by decide +kernel
theorem dX7_flourFor_18 : decode cX7_flourFor 18 = .ok (.iconst 1, 1) := by decide +kernel
theorem dX7_flourFor_19 : decode cX7_flourFor 19 = .ok (.iand, 1) := by decide +kernel
theorem dX7_flourFor_20 : decode cX7_flourFor 20 = .ok (.iconst 1, 1) := by decide +kernel
theorem dX7_flourFor_21 : decode cX7_flourFor 21 = .ok (.if_icmp .ne 11, 3) := by decide +kernel
theorem dX7_flourFor_24 : decode cX7_flourFor 24 = .ok (.aload_n 0, 1) := by decide +kernel
theorem dX7_flourFor_25 : decode cX7_flourFor 25 = .ok (.iload_n 3, 1) := by decide +kernel
theorem dX7_flourFor_26 : decode cX7_flourFor 26 = .ok (.invokevirtual 96, 3) := by decide +kernel
theorem dX7_flourFor_29 : decode cX7_flourFor 29 = .ok (.goto 4, 3) := by decide +kernel
theorem dX7_flourFor_32 : decode cX7_flourFor 32 = .ok (.iconst 0, 1) := by decide +kernel
theorem dX7_flourFor_33 : decode cX7_flourFor 33 = .ok (.iadd, 1) := by decide +kernel
theorem dX7_flourFor_34 : decode cX7_flourFor 34 = .ok (.istore_n 2, 1) := by decide +kernel
theorem dX7_flourFor_35 : decode cX7_flourFor 35 = .ok (.iinc 3 1, 3) := by decide +kernel
theorem dX7_flourFor_38 : decode cX7_flourFor 38 = .ok (.goto (-34), 3) := by decide +kernel
theorem dX7_flourFor_41 : decode cX7_flourFor 41 = .ok (.iload_n 2, 1) := by decide +kernel
theorem dX7_flourFor_42 : decode cX7_flourFor 42 = .ok (.ireturn, 1) := by decide +kernel
theorem dX7_baking_0 : decode cX7_baking 0 = .ok (.iload_n 1, 1) := by decide +kernel
theorem dX7_baking_1 : decode cX7_baking 1 = .ok (.iload_n 2, 1) := by decide +kernel
theorem dX7_baking_2 : decode cX7_baking 2 = .ok (.invokestatic 76, 3) := by decide +kernel
theorem dX7_baking_5 : decode cX7_baking 5 = .ok (.ifCond .eq 20, 3) := by decide +kernel
theorem dX7_baking_8 : decode cX7_baking 8 = .ok (.iload_n 3, 1) := by decide +kernel
theorem dX7_baking_9 : decode cX7_baking 9 = .ok (.invokestatic 109, 3) := by decide +kernel
theorem dX7_baking_12 : decode cX7_baking 12 = .ok (.ifCond .eq 13, 3) := by decide +kernel
theorem dX7_baking_15 : decode cX7_baking 15 = .ok (.iload 4, 2) := by decide +kernel
end
section
theorem dX7_baking_17 : decode cX7_baking 17 = .ok (.iconst 0, 1) := by decide +kernel
theorem dX7_baking_18 : decode cX7_baking 18 = .ok (.iconst 1, 1) := by decide +kernel
theorem dX7_baking_19 : decode cX7_baking 19 = .ok (.invokestatic 54, 3) := by decide +kernel
theorem dX7_baking_22 : decode cX7_baking 22 = .ok (.ifCond .ne 10, 3) := by decide +kernel
theorem dX7_baking_25 : decode cX7_baking 25 = .ok (.aload_n 0, 1) := by decide +kernel
theorem dX7_baking_26 : decode cX7_baking 26 = .ok (.ldc 80, 2) := by decide +kernel
theorem dX7_baking_28 : decode cX7_baking 28 = .ok (.invokevirtual 81, 3) := by decide +kernel
theorem dX7_baking_31 : decode cX7_baking 31 = .ok (.ireturn, 1) := by decide +kernel
theorem dX7_baking_32 : decode cX7_baking 32 = .ok (.iconst (-1), 1) := by decide +kernel
theorem dX7_baking_33 : decode cX7_baking 33 = .ok (.istore 5, 2) := by decide +kernel
theorem dX7_baking_35 : decode cX7_baking 35 = .ok (.iconst 0, 1) := by decide +kernel
theorem dX7_baking_36 : decode cX7_baking 36 = .ok (.istore 6, 2) := by decide +kernel
theorem dX7_baking_38 : decode cX7_baking 38 = .ok (.iconst 0, 1) := by decide +kernel
theorem dX7_baking_39 : decode cX7_baking 39 = .ok (.istore 7, 2) := by decide +kernel
theorem dX7_baking_41 : decode cX7_baking 41 = .ok (.iload 7, 2) := by decide +kernel
theorem dX7_baking_43 : decode cX7_baking 43 = .ok (.iconst 1, 1) := by decide +kernel
theorem dX7_baking_44 : decode cX7_baking 44 = .ok (.aload_n 0, 1) := by decide +kernel
theorem dX7_baking_45 : decode cX7_baking 45 = .ok (.getfield 9, 3) := by decide +kernel
theorem dX7_baking_48 : decode cX7_baking 48 = .ok (.iconst 2, 1) := by decide +kernel
theorem dX7_baking_49 : decode cX7_baking 49 = .ok (.iaload, 1) := by decide +kernel
theorem dX7_baking_50 : decode cX7_baking 50 = .ok (.ishl, 1) := by decide +kernel
theorem dX7_baking_51 : decode cX7_baking 51 = .ok (.if_icmp .ge 121, 3) := by decide +kernel
theorem dX7_baking_54 : decode cX7_baking 54 = .ok (.aload_n 0, 1) := by decide +kernel
theorem dX7_baking_55 : decode cX7_baking 55 = .ok (.iload 7, 2) := by decide +kernel
theorem dX7_baking_57 : decode cX7_baking 57 = .ok (.invokevirtual 196, 3) := by decide +kernel
theorem dX7_baking_60 : decode cX7_baking 60 = .ok (.istore 8, 2) := by decide +kernel
theorem dX7_baking_62 : decode cX7_baking 62 = .ok (.iload 5, 2) := by decide +kernel
theorem dX7_baking_64 : decode cX7_baking 64 = .ok (.ifCond .lt 10, 3) := by decide +kernel
theorem dX7_baking_67 : decode cX7_baking 67 = .ok (.iload 8, 2) := by decide +kernel
theorem dX7_baking_69 : decode cX7_baking 69 = .ok (.iload 6, 2) := by decide +kernel
theorem dX7_baking_71 : decode cX7_baking 71 = .ok (.if_icmp .ge 95, 3) := by decide +kernel
theorem dX7_baking_74 : decode cX7_baking 74 = .ok (.iconst 0, 1) := by decide +kernel
theorem dX7_baking_75 : decode cX7_baking 75 = .ok (.istore 9, 2) := by decide +kernel
theorem dX7_baking_77 : decode cX7_baking 77 = .ok (.iload 9, 2) := by decide +kernel
theorem dX7_baking_79 : decode cX7_baking 79 = .ok (.aload_n 0, 1) := by decide +kernel
theorem dX7_baking_80 : decode cX7_baking 80 = .ok (.getfield 9, 3) := by decide +kernel
theorem dX7_baking_83 : decode cX7_baking 83 = .ok (.iconst 2, 1) := by decide +kernel
theorem dX7_baking_84 : decode cX7_baking 84 = .ok (.iaload, 1) := by decide +kernel
theorem dX7_baking_85 : decode cX7_baking 85 = .ok (.if_icmp .ge 44, 3) := by decide +kernel
theorem dX7_baking_88 : decode cX7_baking 88 = .ok (.aload_n 0, 1) := by decide +kernel
theorem dX7_baking_89 : decode cX7_baking 89 = .ok (.getfield 43, 3) := by decide +kernel
theorem dX7_baking_92 : decode cX7_baking 92 = .ok (.iload 9, 2) := by decide +kernel
theorem dX7_baking_94 : decode cX7_baking 94 = .ok (.iload 7, 2) := by decide +kernel
theorem dX7_baking_96 : decode cX7_baking 96 = .ok (.iload 9, 2) := by decide +kernel
theorem dX7_baking_98 : decode cX7_baking 98 = .ok (.ishr, 1) := by decide +kernel
theorem dX7_baking_99 : decode cX7_baking 99 = .ok (.iconst 1, 1) := by decide +kernel
theorem dX7_baking_100 : decode cX7_baking 100 = .ok (.iand, 1) := by decide +kernel
theorem dX7_baking_101 : decode cX7_baking 101 = .ok (.iconst 1, 1) := by decide +kernel
theorem dX7_baking_102 : decode cX7_baking 102 = .ok (.if_icmp .ne 14, 3) := by decide +kernel
theorem dX7_baking_105 : decode cX7_baking 105 = .ok (.aload_n 0, 1) := by decide +kernel
theorem dX7_baking_106 : decode cX7_baking 106 = .ok (.iload 9, 2) := by decide +kernel
theorem dX7_baking_108 : decode cX7_baking 108 = .ok (.iconst 0, 1) := by decide +kernel
theorem dX7_baking_109 : decode cX7_baking 109 = .ok (.iconst 0, 1) := by decide +kernel
theorem dX7_baking_110 : decode cX7_baking 110 = .ok (.invokevirtual 70, 3) := by decide +kernel
theorem dX7_baking_113 : decode cX7_baking 113 = .ok (.goto 9, 3) := by decide +kernel
theorem dX7_baking_116 : decode cX7_baking 116 = .ok (.aload_n 0, 1) := by decide +kernel
theorem dX7_baking_117 : decode cX7_baking 117 = .ok (.iload 9, 2) := by decide +kernel
theorem dX7_baking_119 : decode cX7_baking 119 = .ok (.invokevirtual 93, 3) := by decide +kernel
theorem dX7_baking_122 : decode cX7_baking 122 = .ok (.iastore, 1) := by decide +kernel
theorem dX7_baking_123 : decode cX7_baking 123 = .ok (.iinc 9 1, 3) := by decide +kernel
theorem dX7_baking_126 : decode cX7_baking 126 = .ok (.goto (-49), 3) := by decide +kernel
theorem dX7_baking_129 : decode cX7_baking 129 = .ok (.aload_n 0, 1) := by decide +kernel
theorem dX7_baking_130 : decode cX7_baking 130 = .ok (.iload_n 1, 1) := by decide +kernel
theorem dX7_baking_131 : decode cX7_baking 131 = .ok (.iload_n 2, 1) := by decide +kernel
theorem dX7_baking_132 : decode cX7_baking 132 = .ok (.iload_n 3, 1) := by decide +kernel
theorem dX7_baking_133 : decode cX7_baking 133 = .ok (.invokevirtual 192, 3) := by decide +kernel
theorem dX7_baking_136 : decode cX7_baking 136 = .ok (.istore 9, 2) := by decide +kernel
theorem dX7_baking_138 : decode cX7_baking 138 = .ok (.iload 9, 2) := by decide +kernel
theorem dX7_baking_140 : decode cX7_baking 140 = .ok (.ifCond .eq 8, 3) := by decide +kernel
theorem dX7_baking_143 : decode cX7_baking 143 = .ok (.iload 7, 2) := by decide +kernel
theorem dX7_baking_145 : decode cX7_baking 145 = .ok (.goto 5, 3) := by decide +kernel
theorem dX7_baking_148 : decode cX7_baking 148 = .ok (.iload 5, 2) := by decide +kernel
theorem dX7_baking_150 : decode cX7_baking 150 = .ok (.istore 5, 2) := by decide +kernel
theorem dX7_baking_152 : decode cX7_baking 152 = .ok (.iload 9, 2) := by decide +kernel
theorem dX7_baking_154 : decode cX7_baking 154 = .ok (.ifCond .eq 8, 3) := by decide +kernel
theorem dX7_baking_157 : decode cX7_baking 157 = .ok (.iload 8, 2) := by decide +kernel
theorem dX7_baking_159 : decode cX7_baking 159 = .ok (.goto 5, 3) := by decide +kernel
theorem dX7_baking_162 : decode cX7_baking 162 = .ok (.iload 6, 2) := by decide +kernel
theorem dX7_baking_164 : decode cX7_baking 164 = .ok (.istore 6, 2) := by decide +kernel
theorem dX7_baking_166 : decode cX7_baking 166 = .ok (.iinc 7 1, 3) := by decide +kernel
theorem dX7_baking_169 : decode cX7_baking 169 = .ok (.goto (-128), 3) := by decide +kernel
theorem dX7_baking_172 : decode cX7_baking 172 = .ok (.iload 5, 2) := by decide +kernel
theorem dX7_baking_174 : decode cX7_baking 174 = .ok (.ifCond .ge 12, 3) := by decide +kernel
theorem dX7_baking_177 : decode cX7_baking 177 = .ok (.aload_n 0, 1) := by decide +kernel
theorem dX7_baking_178 : decode cX7_baking 178 = .ok (.ldc 195, 2) := by decide +kernel
theorem dX7_baking_180 : decode cX7_baking 180 = .ok (.invokevirtual 81, 3) := by decide +kernel
theorem dX7_baking_183 : decode cX7_baking 183 = .ok (.goto 15, 3) := by decide +kernel
theorem dX7_baking_186 : decode cX7_baking 186 = .ok (.iload 4, 2) := by decide +kernel
theorem dX7_baking_188 : decode cX7_baking 188 = .ok (.ifCond .ne 8, 3) := by decide +kernel
theorem dX7_baking_191 : decode cX7_baking 191 = .ok (.iload 6, 2) := by decide +kernel
theorem dX7_baking_193 : decode cX7_baking 193 = .ok (.goto 5, 3) := by decide +kernel
theorem dX7_baking_196 : decode cX7_baking 196 = .ok (.iload 5, 2) := by decide +kernel
theorem dX7_baking_198 : decode cX7_baking 198 = .ok (.ireturn, 1) := by decide +kernel
theorem dX7_eating_0 : decode cX7_eating 0 = .ok (.iload_n 1, 1) := by decide +kernel
theorem dX7_eating_1 : decode cX7_eating 1 = .ok (.iload_n 2, 1) := by decide +kernel
theorem dX7_eating_2 : decode cX7_eating 2 = .ok (.invokestatic 76, 3) := by decide +kernel
theorem dX7_eating_5 : decode cX7_eating 5 = .ok (.ifCond .eq 20, 3) := by decide +kernel
theorem dX7_eating_8 : decode cX7_eating 8 = .ok (.iload_n 3, 1) := by decide +kernel
theorem dX7_eating_9 : decode cX7_eating 9 = .ok (.invokestatic 109, 3) := by decide +kernel
theorem dX7_eating_12 : decode cX7_eating 12 = .ok (.ifCond .eq 13, 3) := by decide +kernel
theorem dX7_eating_15 : decode cX7_eating 15 = .ok (.iload 4, 2) := by decide +kernel
theorem dX7_eating_17 : decode cX7_eating 17 = .ok (.iconst 0, 1) := by decide +kernel
theorem dX7_eating_18 : decode cX7_eating 18 = .ok (.iconst 1, 1) := by decide +kernel
theorem dX7_eating_19 : decode cX7_eating 19 = .ok (.invokestatic 54, 3) := by decide +kernel
theorem dX7_eating_22 : decode cX7_eating 22 = .ok (.ifCond .ne 10, 3) := by decide +kernel
theorem dX7_eating_25 : decode cX7_eating 25 = .ok (.aload_n 0, 1) := by decide +kernel
theorem dX7_eating_26 : decode cX7_eating 26 = .ok (.ldc 80, 2) := by decide +kernel
theorem dX7_eating_28 : decode cX7_eating 28 = .ok (.invokevirtual 81, 3) := by decide +kernel
theorem dX7_eating_31 : decode cX7_eating 31 = .ok (.ireturn, 1) := by decide +kernel
theorem dX7_eating_32 : decode cX7_eating 32 = .ok (.iconst (-1), 1) := by decide +kernel
theorem dX7_eating_33 : decode cX7_eating 33 = .ok (.istore 5, 2) := by decide +kernel
theorem dX7_eating_35 : decode cX7_eating 35 = .ok (.iconst 0, 1) := by decide +kernel
theorem dX7_eating_36 : decode cX7_eating 36 = .ok (.istore 6, 2) := by decide +kernel
theorem dX7_eating_38 : decode cX7_eating 38 = .ok (.iload 6, 2) := by decide +kernel
theorem dX7_eating_40 : decode cX7_eating 40 = .ok (.iconst 1, 1) := by decide +kernel
theorem dX7_eating_41 : decode cX7_eating 41 = .ok (.aload_n 0, 1) := by decide +kernel
theorem dX7_eating_42 : decode cX7_eating 42 = .ok (.getfield 9, 3) := by decide +kernel
theorem dX7_eating_45 : decode cX7_eating 45 = .ok (.iconst 2, 1) := by decide +kernel
theorem dX7_eating_46 : decode cX7_eating 46 = .ok (.iaload, 1) := by decide +kernel
theorem dX7_eating_47 : decode cX7_eating 47 = .ok (.ishl, 1) := by decide +kernel
theorem dX7_eating_48 : decode cX7_eating 48 = .ok (.if_icmp .ge 94, 3) := by decide +kernel
theorem dX7_eating_51 : decode cX7_eating 51 = .ok (.iload 5, 2) := by decide +kernel
theorem dX7_eating_53 : decode cX7_eating 53 = .ok (.ifCond .lt 16, 3) := by decide +kernel
theorem dX7_eating_56 : decode cX7_eating 56 = .ok (.iload 6, 2) := by decide +kernel
theorem dX7_eating_58 : decode cX7_eating 58 = .ok (.invokestatic 199, 3) := by decide +kernel
theorem dX7_eating_61 : decode cX7_eating 61 = .ok (.iload 5, 2) := by decide +kernel
theorem dX7_eating_63 : decode cX7_eating 63 = .ok (.invokestatic 199, 3) := by decide +kernel
theorem dX7_eating_66 : decode cX7_eating 66 = .ok (.if_icmp .ge 70, 3) := by decide +kernel
theorem dX7_eating_69 : decode cX7_eating 69 = .ok (.iconst 0, 1) := by decide +kernel
theorem dX7_eating_70 : decode cX7_eating 70 = .ok (.istore 7, 2) := by decide +kernel
theorem dX7_eating_72 : decode cX7_eating 72 = .ok (.iload 7, 2) := by decide +kernel
theorem dX7_eating_74 : decode cX7_eating 74 = .ok (.aload_n 0, 1) := by decide +kernel
theorem dX7_eating_75 : decode cX7_eating 75 = .ok (.getfield 9, 3) := by decide +kernel
theorem dX7_eating_78 : decode cX7_eating 78 = .ok (.iconst 2, 1) := by decide +kernel
theorem dX7_eating_79 : decode cX7_eating 79 = .ok (.iaload, 1) := by decide +kernel
theorem dX7_eating_80 : decode cX7_eating 80 = .ok (.if_icmp .ge 37, 3) := by decide +kernel
theorem dX7_eating_83 : decode cX7_eating 83 = .ok (.aload_n 0, 1) := by decide +kernel
theorem dX7_eating_84 : decode cX7_eating 84 = .ok (.getfield 43, 3) := by decide +kernel
theorem dX7_eating_87 : decode cX7_eating 87 = .ok (.iload 7, 2) := by decide +kernel
theorem dX7_eating_89 : decode cX7_eating 89 = .ok (.iload 6, 2) := by decide +kernel
theorem dX7_eating_91 : decode cX7_eating 91 = .ok (.iload 7, 2) := by decide +kernel
theorem dX7_eating_93 : decode cX7_eating 93 = .ok (.ishr, 1) := by decide +kernel
theorem dX7_eating_94 : decode cX7_eating 94 = .ok (.iconst 1, 1) := by decide +kernel
theorem dX7_eating_95 : decode cX7_eating 95 = .ok (.iand, 1) := by decide +kernel
theorem dX7_eating_96 : decode cX7_eating 96 = .ok (.iconst 1, 1) := by decide +kernel
theorem dX7_eating_97 : decode cX7_eating 97 = .ok (.if_icmp .ne 7, 3) := by decide +kernel
theorem dX7_eating_100 : decode cX7_eating 100 = .ok (.iconst (-1), 1) := by decide +kernel
theorem dX7_eating_101 : decode cX7_eating 101 = .ok (.goto 9, 3) := by decide +kernel
theorem dX7_eating_104 : decode cX7_eating 104 = .ok (.aload_n 0, 1) := by decide +kernel
theorem dX7_eating_105 : decode cX7_eating 105 = .ok (.iload 7, 2) := by decide +kernel
theorem dX7_eating_107 : decode cX7_eating 107 = .ok (.invokevirtual 93, 3) := by decide +kernel
theorem dX7_eating_110 : decode cX7_eating 110 = .ok (.iastore, 1) := by decide +kernel
theorem dX7_eating_111 : decode cX7_eating 111 = .ok (.iinc 7 1, 3) := by decide +kernel
theorem dX7_eating_114 : decode cX7_eating 114 = .ok (.goto (-42), 3) := by decide +kernel
theorem dX7_eating_117 : decode cX7_eating 117 = .ok (.aload_n 0, 1) := by decide +kernel
theorem dX7_eating_118 : decode cX7_eating 118 = .ok (.iload_n 1, 1) := by decide +kernel
theorem dX7_eating_119 : decode cX7_eating 119 = .ok (.iload_n 2, 1) := by decide +kernel
theorem dX7_eating_120 : decode cX7_eating 120 = .ok (.iload_n 3, 1) := by decide +kernel
theorem dX7_eating_121 : decode cX7_eating 121 = .ok (.invokevirtual 192, 3) := by decide +kernel
theorem dX7_eating_124 : decode cX7_eating 124 = .ok (.ifCond .eq 8, 3) := by decide +kernel
theorem dX7_eating_127 : decode cX7_eating 127 = .ok (.iload 5, 2) := by decide +kernel
theorem dX7_eating_129 : decode cX7_eating 129 = .ok (.goto 5, 3) := by decide +kernel
theorem dX7_eating_132 : decode cX7_eating 132 = .ok (.iload 6, 2) := by decide +kernel
theorem dX7_eating_134 : decode cX7_eating 134 = .ok (.istore 5, 2) := by decide +kernel
theorem dX7_eating_136 : decode cX7_eating 136 = .ok (.iinc 6 1, 3) := by decide +kernel
theorem dX7_eating_139 : decode cX7_eating 139 = .ok (.goto (-101), 3) := by decide +kernel
theorem dX7_eating_142 : decode cX7_eating 142 = .ok (.iload 4, 2) := by decide +kernel
theorem dX7_eating_144 : decode cX7_eating 144 = .ok (.ifCond .ne 11, 3) := by decide +kernel
theorem dX7_eating_147 : decode cX7_eating 147 = .ok (.iload 5, 2) := by decide +kernel
theorem dX7_eating_149 : decode cX7_eating 149 = .ok (.invokestatic 199, 3) := by decide +kernel
theorem dX7_eating_152 : decode cX7_eating 152 = .ok (.goto 5, 3) := by decide +kernel
theorem dX7_eating_155 : decode cX7_eating 155 = .ok (.iload 5, 2) := by decide +kernel
theorem dX7_eating_157 : decode cX7_eating 157 = .ok (.ireturn, 1) := by decide +kernel
theorem dX7_lasts_0 : decode cX7_lasts 0 = .ok (.iload_n 1, 1) := by decide +kernel
theorem dX7_lasts_1 : decode cX7_lasts 1 = .ok (.iload_n 2, 1) := by decide +kernel
theorem dX7_lasts_2 : decode cX7_lasts 2 = .ok (.invokestatic 76, 3) := by decide +kernel
theorem dX7_lasts_5 : decode cX7_lasts 5 = .ok (.ifCond .eq 10, 3) := by decide +kernel
theorem dX7_lasts_8 : decode cX7_lasts 8 = .ok (.iload_n 3, 1) := by decide +kernel
theorem dX7_lasts_9 : decode cX7_lasts 9 = .ok (.invokestatic 109, 3) := by decide +kernel
theorem dX7_lasts_12 : decode cX7_lasts 12 = .ok (.ifCond .ne 10, 3) := by decide +kernel
theorem dX7_lasts_15 : decode cX7_lasts 15 = .ok (.aload_n 0, 1) := by decide +kernel
theorem dX7_lasts_16 : decode cX7_lasts 16 = .ok (.ldc 80, 2) := by decide +kernel
theorem dX7_lasts_18 : decode cX7_lasts 18 = .ok (.invokevirtual 81, 3) := by decide +kernel
theorem dX7_lasts_21 : decode cX7_lasts 21 = .ok (.ireturn, 1) := by decide +kernel
theorem dX7_lasts_22 : decode cX7_lasts 22 = .ok (.aload_n 0, 1) := by decide +kernel
theorem dX7_lasts_23 : decode cX7_lasts 23 = .ok (.invokevirtual 202, 3) := by decide +kernel
theorem dX7_lasts_26 : decode cX7_lasts 26 = .ok (.iconst 0, 1) := by decide +kernel
theorem dX7_lasts_27 : decode cX7_lasts 27 = .ok (.istore 4, 2) := by decide +kernel
theorem dX7_lasts_29 : decode cX7_lasts 29 = .ok (.iload 4, 2) := by decide +kernel
theorem dX7_lasts_31 : decode cX7_lasts 31 = .ok (.bipush 60, 2) := by decide +kernel
theorem dX7_lasts_33 : decode cX7_lasts 33 = .ok (.if_icmp .gt 23, 3) := by decide +kernel
theorem dX7_lasts_36 : decode cX7_lasts 36 = .ok (.aload_n 0, 1) := by decide +kernel
theorem dX7_lasts_37 : decode cX7_lasts 37 = .ok (.iload_n 1, 1) := by decide +kernel
theorem dX7_lasts_38 : decode cX7_lasts 38 = .ok (.iload_n 2, 1) := by decide +kernel
theorem dX7_lasts_39 : decode cX7_lasts 39 = .ok (.iload_n 3, 1) := by decide +kernel
theorem dX7_lasts_40 : decode cX7_lasts 40 = .ok (.invokevirtual 205, 3) := by decide +kernel
theorem dX7_lasts_43 : decode cX7_lasts 43 = .ok (.ifCond .eq 13, 3) := by decide +kernel
theorem dX7_lasts_46 : decode cX7_lasts 46 = .ok (.aload_n 0, 1) := by decide +kernel
theorem dX7_lasts_47 : decode cX7_lasts 47 = .ok (.invokevirtual 176, 3) := by decide +kernel
theorem dX7_lasts_50 : decode cX7_lasts 50 = .ok (.iinc 4 1, 3) := by decide +kernel
theorem dX7_lasts_53 : decode cX7_lasts 53 = .ok (.goto (-24), 3) := by decide +kernel
theorem dX7_lasts_56 : decode cX7_lasts 56 = .ok (.aload_n 0, 1) := by decide +kernel
theorem dX7_lasts_57 : decode cX7_lasts 57 = .ok (.invokevirtual 208, 3) := by decide +kernel
theorem dX7_lasts_60 : decode cX7_lasts 60 = .ok (.iload 4, 2) := by decide +kernel
theorem dX7_lasts_62 : decode cX7_lasts 62 = .ok (.bipush 60, 2) := by decide +kernel
theorem dX7_lasts_64 : decode cX7_lasts 64 = .ok (.if_icmp .le 12, 3) := by decide +kernel
theorem dX7_lasts_67 : decode cX7_lasts 67 = .ok (.aload_n 0, 1) := by decide +kernel
theorem dX7_lasts_68 : decode cX7_lasts 68 = .ok (.ldc 195, 2) := by decide +kernel
theorem dX7_lasts_70 : decode cX7_lasts 70 = .ok (.invokevirtual 81, 3) := by decide +kernel
theorem dX7_lasts_73 : decode cX7_lasts 73 = .ok (.goto 5, 3) := by decide +kernel
theorem dX7_lasts_76 : decode cX7_lasts 76 = .ok (.iload 4, 2) := by decide +kernel
theorem dX7_lasts_78 : decode cX7_lasts 78 = .ok (.ireturn, 1) := by decide +kernel
theorem dX7_then_0 : decode cX7_then 0 = .ok (.aload_n 0, 1) := by decide +kernel
theorem dX7_then_1 : decode cX7_then 1 = .ok (.iload_n 1, 1) := by decide +kernel
theorem dX7_then_2 : decode cX7_then 2 = .ok (.invokevirtual 90, 3) := by decide +kernel
theorem dX7_then_5 : decode cX7_then 5 = .ok (.ifCond .eq 13, 3) := by decide +kernel
theorem dX7_then_8 : decode cX7_then 8 = .ok (.iload_n 2, 1) := by decide +kernel
theorem dX7_then_9 : decode cX7_then 9 = .ok (.iconst 0, 1) := by decide +kernel
theorem dX7_then_10 : decode cX7_then 10 = .ok (.bipush 60, 2) := by decide +kernel
theorem dX7_then_12 : decode cX7_then 12 = .ok (.invokestatic 54, 3) := by decide +kernel
theorem dX7_then_15 : decode cX7_then 15 = .ok (.ifCond .ne 10, 3) := by decide +kernel
theorem dX7_then_18 : decode cX7_then 18 = .ok (.aload_n 0, 1) := by decide +kernel
theorem dX7_then_19 : decode cX7_then 19 = .ok (.ldc 80, 2) := by decide +kernel
theorem dX7_then_21 : decode cX7_then 21 = .ok (.invokevirtual 81, 3) := by decide +kernel
theorem dX7_then_24 : decode cX7_then 24 = .ok (.ireturn, 1) := by decide +kernel
theorem dX7_then_25 : decode cX7_then 25 = .ok (.aload_n 0, 1) := by decide +kernel
theorem dX7_then_26 : decode cX7_then 26 = .ok (.invokevirtual 202, 3) := by decide +kernel
theorem dX7_then_29 : decode cX7_then 29 = .ok (.iconst 0, 1) := by decide +kernel
theorem dX7_then_30 : decode cX7_then 30 = .ok (.istore_n 3, 1) := by decide +kernel
theorem dX7_then_31 : decode cX7_then 31 = .ok (.iload_n 3, 1) := by decide +kernel
theorem dX7_then_32 : decode cX7_then 32 = .ok (.iload_n 2, 1) := by decide +kernel
theorem dX7_then_33 : decode cX7_then 33 = .ok (.if_icmp .ge 13, 3) := by decide +kernel
theorem dX7_then_36 : decode cX7_then 36 = .ok (.aload_n 0, 1) := by decide +kernel
theorem dX7_then_37 : decode cX7_then 37 = .ok (.invokevirtual 176, 3) := by decide +kernel
theorem dX7_then_40 : decode cX7_then 40 = .ok (.iinc 3 1, 3) := by decide +kernel
theorem dX7_then_43 : decode cX7_then 43 = .ok (.goto (-12), 3) := by decide +kernel
theorem dX7_then_46 : decode cX7_then 46 = .ok (.aload_n 0, 1) := by decide +kernel
theorem dX7_then_47 : decode cX7_then 47 = .ok (.iload_n 1, 1) := by decide +kernel
theorem dX7_then_48 : decode cX7_then 48 = .ok (.invokevirtual 93, 3) := by decide +kernel
theorem dX7_then_51 : decode cX7_then 51 = .ok (.istore_n 3, 1) := by decide +kernel
theorem dX7_then_52 : decode cX7_then 52 = .ok (.aload_n 0, 1) := by decide +kernel
theorem dX7_then_53 : decode cX7_then 53 = .ok (.invokevirtual 208, 3) := by decide +kernel
theorem dX7_then_56 : decode cX7_then 56 = .ok (.iload_n 3, 1) := by decide +kernel
theorem dX7_then_57 : decode cX7_then 57 = .ok (.ireturn, 1) := by decide +kernel
theorem dX7_odds_0 : decode cX7_odds 0 = .ok (.iload_n 1, 1) := by decide +kernel
theorem dX7_odds_1 : decode cX7_odds 1 = .ok (.iload_n 2, 1) := by decide +kernel
theorem dX7_odds_2 : decode cX7_odds 2 = .ok (.invokestatic 76, 3) := by decide +kernel
theorem dX7_odds_5 : decode cX7_odds 5 = .ok (.ifCond .eq 20, 3) := by decide +kernel
theorem dX7_odds_8 : decode cX7_odds 8 = .ok (.iload_n 3, 1) := by decide +kernel
theorem dX7_odds_9 : decode cX7_odds 9 = .ok (.invokestatic 109, 3) := by decide +kernel
theorem dX7_odds_12 : decode cX7_odds 12 = .ok (.ifCond .eq 13, 3) := by decide +kernel
theorem dX7_odds_15 : decode cX7_odds 15 = .ok (.iload 4, 2) := by decide +kernel
theorem dX7_odds_17 : decode cX7_odds 17 = .ok (.iconst 0, 1) := by decide +kernel
theorem dX7_odds_18 : decode cX7_odds 18 = .ok (.iconst 1, 1) := by decide +kernel
theorem dX7_odds_19 : decode cX7_odds 19 = .ok (.invokestatic 54, 3) := by decide +kernel
theorem dX7_odds_22 : decode cX7_odds 22 = .ok (.ifCond .ne 10, 3) := by decide +kernel
theorem dX7_odds_25 : decode cX7_odds 25 = .ok (.aload_n 0, 1) := by decide +kernel
theorem dX7_odds_26 : decode cX7_odds 26 = .ok (.ldc 80, 2) := by decide +kernel
theorem dX7_odds_28 : decode cX7_odds 28 = .ok (.invokevirtual 81, 3) := by decide +kernel
theorem dX7_odds_31 : decode cX7_odds 31 = .ok (.ireturn, 1) := by decide +kernel
theorem dX7_odds_32 : decode cX7_odds 32 = .ok (.aload_n 0, 1) := by decide +kernel
theorem dX7_odds_33 : decode cX7_odds 33 = .ok (.invokevirtual 202, 3) := by decide +kernel
theorem dX7_odds_36 : decode cX7_odds 36 = .ok (.iconst 0, 1) := by decide +kernel
theorem dX7_odds_37 : decode cX7_odds 37 = .ok (.istore 5, 2) := by decide +kernel
theorem dX7_odds_39 : decode cX7_odds 39 = .ok (.iconst 0, 1) := by decide +kernel
theorem dX7_odds_40 : decode cX7_odds 40 = .ok (.istore 6, 2) := by decide +kernel
theorem dX7_odds_42 : decode cX7_odds 42 = .ok (.iload 6, 2) := by decide +kernel
theorem dX7_odds_44 : decode cX7_odds 44 = .ok (.bipush 10, 2) := by decide +kernel
theorem dX7_odds_46 : decode cX7_odds 46 = .ok (.if_icmp .ge 45, 3) := by decide +kernel
theorem dX7_odds_49 : decode cX7_odds 49 = .ok (.aload_n 0, 1) := by decide +kernel
theorem dX7_odds_50 : decode cX7_odds 50 = .ok (.getfield 9, 3) := by decide +kernel
theorem dX7_odds_53 : decode cX7_odds 53 = .ok (.iconst 4, 1) := by decide +kernel
theorem dX7_odds_54 : decode cX7_odds 54 = .ok (.iload 6, 2) := by decide +kernel
theorem dX7_odds_56 : decode cX7_odds 56 = .ok (.iastore, 1) := by decide +kernel
theorem dX7_odds_57 : decode cX7_odds 57 = .ok (.aload_n 0, 1) := by decide +kernel
theorem dX7_odds_58 : decode cX7_odds 58 = .ok (.invokevirtual 176, 3) := by decide +kernel
theorem dX7_odds_61 : decode cX7_odds 61 = .ok (.iload 5, 2) := by decide +kernel
theorem dX7_odds_63 : decode cX7_odds 63 = .ok (.aload_n 0, 1) := by decide +kernel
theorem dX7_odds_64 : decode cX7_odds 64 = .ok (.iload_n 1, 1) := by decide +kernel
theorem dX7_odds_65 : decode cX7_odds 65 = .ok (.iload_n 2, 1) := by decide +kernel
theorem dX7_odds_66 : decode cX7_odds 66 = .ok (.iload_n 3, 1) := by decide +kernel
theorem dX7_odds_67 : decode cX7_odds 67 = .ok (.invokevirtual 205, 3) := by decide +kernel
theorem dX7_odds_70 : decode cX7_odds 70 = .ok (.ifCond .eq 7, 3) := by decide +kernel
theorem dX7_odds_73 : decode cX7_odds 73 = .ok (.iconst 1, 1) := by decide +kernel
theorem dX7_odds_74 : decode cX7_odds 74 = .ok (.goto 4, 3) := by decide +kernel
theorem dX7_odds_77 : decode cX7_odds 77 = .ok (.iconst 0, 1) := by decide +kernel
theorem dX7_odds_78 : decode cX7_odds 78 = .ok (.iadd, 1) := by decide +kernel
theorem dX7_odds_79 : decode cX7_odds 79 = .ok (.istore 5, 2) := by decide +kernel
theorem dX7_odds_81 : decode cX7_odds 81 = .ok (.aload_n 0, 1) := by decide +kernel
theorem dX7_odds_82 : decode cX7_odds 82 = .ok (.invokevirtual 208, 3) := by decide +kernel
theorem dX7_odds_85 : decode cX7_odds 85 = .ok (.iinc 6 1, 3) := by decide +kernel
theorem dX7_odds_88 : decode cX7_odds 88 = .ok (.goto (-46), 3) := by decide +kernel
theorem dX7_odds_91 : decode cX7_odds 91 = .ok (.bipush 10, 2) := by decide +kernel
theorem dX7_odds_93 : decode cX7_odds 93 = .ok (.istore 6, 2) := by decide +kernel
theorem dX7_odds_95 : decode cX7_odds 95 = .ok (.bipush 10, 2) := by decide +kernel
theorem dX7_odds_97 : decode cX7_odds 97 = .ok (.istore 7, 2) := by decide +kernel
theorem dX7_odds_99 : decode cX7_odds 99 = .ok (.iload 7, 2) := by decide +kernel
theorem dX7_odds_101 : decode cX7_odds 101 = .ok (.iconst 1, 1) := by decide +kernel
theorem dX7_odds_102 : decode cX7_odds 102 = .ok (.if_icmp .le 39, 3) := by decide +kernel
theorem dX7_odds_105 : decode cX7_odds 105 = .ok (.iload 5, 2) := by decide +kernel
theorem dX7_odds_107 : decode cX7_odds 107 = .ok (.iload 7, 2) := by decide +kernel
theorem dX7_odds_109 : decode cX7_odds 109 = .ok (.irem, 1) := by decide +kernel
theorem dX7_odds_110 : decode cX7_odds 110 = .ok (.ifCond .ne 25, 3) := by decide +kernel
theorem dX7_odds_113 : decode cX7_odds 113 = .ok (.iload 6, 2) := by decide +kernel
theorem dX7_odds_115 : decode cX7_odds 115 = .ok (.iload 7, 2) := by decide +kernel
theorem dX7_odds_117 : decode cX7_odds 117 = .ok (.irem, 1) := by decide +kernel
theorem dX7_odds_118 : decode cX7_odds 118 = .ok (.ifCond .ne 17, 3) := by decide +kernel
theorem dX7_odds_121 : decode cX7_odds 121 = .ok (.iload 5, 2) := by decide +kernel
theorem dX7_odds_123 : decode cX7_odds 123 = .ok (.iload 7, 2) := by decide +kernel
theorem dX7_odds_125 : decode cX7_odds 125 = .ok (.idiv, 1) := by decide +kernel
theorem dX7_odds_126 : decode cX7_odds 126 = .ok (.istore 5, 2) := by decide +kernel
theorem dX7_odds_128 : decode cX7_odds 128 = .ok (.iload 6, 2) := by decide +kernel
theorem dX7_odds_130 : decode cX7_odds 130 = .ok (.iload 7, 2) := by decide +kernel
theorem dX7_odds_132 : decode cX7_odds 132 = .ok (.idiv, 1) := by decide +kernel
theorem dX7_odds_133 : decode cX7_odds 133 = .ok (.istore 6, 2) := by decide +kernel
theorem dX7_odds_135 : decode cX7_odds 135 = .ok (.iinc 7 (-1), 3) := by decide +kernel
theorem dX7_odds_138 : decode cX7_odds 138 = .ok (.goto (-39), 3) := by decide +kernel
theorem dX7_odds_141 : decode cX7_odds 141 = .ok (.iload 4, 2) := by decide +kernel
theorem dX7_odds_143 : decode cX7_odds 143 = .ok (.ifCond .ne 8, 3) := by decide +kernel
theorem dX7_odds_146 : decode cX7_odds 146 = .ok (.iload 5, 2) := by decide +kernel
theorem dX7_odds_148 : decode cX7_odds 148 = .ok (.goto 5, 3) := by decide +kernel
theorem dX7_odds_151 : decode cX7_odds 151 = .ok (.iload 6, 2) := by decide +kernel
theorem dX7_odds_153 : decode cX7_odds 153 = .ok (.ireturn, 1) := by decide +kernel
theorem dX7_rightOf_0 : decode cX7_rightOf 0 = .ok (.iconst 0, 1) := by decide +kernel
theorem dX7_rightOf_1 : decode cX7_rightOf 1 = .ok (.istore_n 2, 1) := by decide +kernel
theorem dX7_rightOf_2 : decode cX7_rightOf 2 = .ok (.iload_n 2, 1) := by decide +kernel
theorem dX7_rightOf_3 : decode cX7_rightOf 3 = .ok (.aload_n 0, 1) := by decide +kernel
theorem dX7_rightOf_4 : decode cX7_rightOf 4 = .ok (.getfield 25, 3) := by decide +kernel
theorem dX7_rightOf_7 : decode cX7_rightOf 7 = .ok (.iload_n 1, 1) := by decide +kernel
theorem dX7_rightOf_8 : decode cX7_rightOf 8 = .ok (.iaload, 1) := by decide +kernel
theorem dX7_rightOf_9 : decode cX7_rightOf 9 = .ok (.if_icmp .ge 38, 3) := by decide +kernel
theorem dX7_rightOf_12 : decode cX7_rightOf 12 = .ok (.iload_n 2, 1) := by decide +kernel
theorem dX7_rightOf_13 : decode cX7_rightOf 13 = .ok (.aload_n 0, 1) := by decide +kernel
theorem dX7_rightOf_14 : decode cX7_rightOf 14 = .ok (.getfield 9, 3) := by decide +kernel
theorem dX7_rightOf_17 : decode cX7_rightOf 17 = .ok (.iconst 2, 1) := by decide +kernel
theorem dX7_rightOf_18 : decode cX7_rightOf 18 = .ok (.iaload, 1) := by decide +kernel
theorem dX7_rightOf_19 : decode cX7_rightOf 19 = .ok (.if_icmp .ge 28, 3) := by decide +kernel
theorem dX7_rightOf_22 : decode cX7_rightOf 22 = .ok (.aload_n 0, 1) := by decide +kernel
theorem dX7_rightOf_23 : decode cX7_rightOf 23 = .ok (.getfield 28, 3) := by decide +kernel
theorem dX7_rightOf_26 : decode cX7_rightOf 26 = .ok (.bipush 24, 2) := by decide +kernel
theorem dX7_rightOf_28 : decode cX7_rightOf 28 = .ok (.iload_n 1, 1) := by decide +kernel
theorem dX7_rightOf_29 : decode cX7_rightOf 29 = .ok (.imul, 1) := by decide +kernel
theorem dX7_rightOf_30 : decode cX7_rightOf 30 = .ok (.iload_n 2, 1) := by decide +kernel
theorem dX7_rightOf_31 : decode cX7_rightOf 31 = .ok (.iadd, 1) := by decide +kernel
theorem dX7_rightOf_32 : decode cX7_rightOf 32 = .ok (.iaload, 1) := by decide +kernel
theorem dX7_rightOf_33 : decode cX7_rightOf 33 = .ok (.aload_n 0, 1) := by decide +kernel
theorem dX7_rightOf_34 : decode cX7_rightOf 34 = .ok (.iload_n 2, 1) := by decide +kernel
theorem dX7_rightOf_35 : decode cX7_rightOf 35 = .ok (.invokevirtual 93, 3) := by decide +kernel
theorem dX7_rightOf_38 : decode cX7_rightOf 38 = .ok (.if_icmp .ne 9, 3) := by decide +kernel
theorem dX7_rightOf_41 : decode cX7_rightOf 41 = .ok (.iinc 2 1, 3) := by decide +kernel
theorem dX7_rightOf_44 : decode cX7_rightOf 44 = .ok (.goto (-42), 3) := by decide +kernel
theorem dX7_rightOf_47 : decode cX7_rightOf 47 = .ok (.iload_n 2, 1) := by decide +kernel
theorem dX7_rightOf_48 : decode cX7_rightOf 48 = .ok (.ireturn, 1) := by decide +kernel
theorem dX7_fits_0 : decode cX7_fits 0 = .ok (.aload_n 0, 1) := by decide +kernel
theorem dX7_fits_1 : decode cX7_fits 1 = .ok (.iload_n 1, 1) := by decide +kernel
theorem dX7_fits_2 : decode cX7_fits 2 = .ok (.invokevirtual 211, 3) := by decide +kernel
theorem dX7_fits_5 : decode cX7_fits 5 = .ok (.istore_n 2, 1) := by decide +kernel
theorem dX7_fits_6 : decode cX7_fits 6 = .ok (.iload_n 2, 1) := by decide +kernel
theorem dX7_fits_7 : decode cX7_fits 7 = .ok (.ifCond .eq 9, 3) := by decide +kernel
theorem dX7_fits_10 : decode cX7_fits 10 = .ok (.aload_n 0, 1) := by decide +kernel
theorem dX7_fits_11 : decode cX7_fits 11 = .ok (.iload_n 2, 1) := by decide +kernel
theorem dX7_fits_12 : decode cX7_fits 12 = .ok (.invokevirtual 81, 3) := by decide +kernel
theorem dX7_fits_15 : decode cX7_fits 15 = .ok (.ireturn, 1) := by decide +kernel
theorem dX7_fits_16 : decode cX7_fits 16 = .ok (.aload_n 0, 1) := by decide +kernel
theorem dX7_fits_17 : decode cX7_fits 17 = .ok (.invokevirtual 202, 3) := by decide +kernel
theorem dX7_fits_20 : decode cX7_fits 20 = .ok (.iconst 0, 1) := by decide +kernel
theorem dX7_fits_21 : decode cX7_fits 21 = .ok (.istore_n 3, 1) := by decide +kernel
theorem dX7_fits_22 : decode cX7_fits 22 = .ok (.iload_n 3, 1) := by decide +kernel
theorem dX7_fits_23 : decode cX7_fits 23 = .ok (.bipush 60, 2) := by decide +kernel
theorem dX7_fits_25 : decode cX7_fits 25 = .ok (.if_icmp .gt 27, 3) := by decide +kernel
theorem dX7_fits_28 : decode cX7_fits 28 = .ok (.aload_n 0, 1) := by decide +kernel
theorem dX7_fits_29 : decode cX7_fits 29 = .ok (.iload_n 1, 1) := by decide +kernel
theorem dX7_fits_30 : decode cX7_fits 30 = .ok (.invokevirtual 214, 3) := by decide +kernel
theorem dX7_fits_33 : decode cX7_fits 33 = .ok (.aload_n 0, 1) := by decide +kernel
theorem dX7_fits_34 : decode cX7_fits 34 = .ok (.getfield 25, 3) := by decide +kernel
theorem dX7_fits_37 : decode cX7_fits 37 = .ok (.iload_n 1, 1) := by decide +kernel
theorem dX7_fits_38 : decode cX7_fits 38 = .ok (.iaload, 1) := by decide +kernel
theorem dX7_fits_39 : decode cX7_fits 39 = .ok (.if_icmp .ge 13, 3) := by decide +kernel
theorem dX7_fits_42 : decode cX7_fits 42 = .ok (.aload_n 0, 1) := by decide +kernel
theorem dX7_fits_43 : decode cX7_fits 43 = .ok (.invokevirtual 176, 3) := by decide +kernel
theorem dX7_fits_46 : decode cX7_fits 46 = .ok (.iinc 3 1, 3) := by decide +kernel
theorem dX7_fits_49 : decode cX7_fits 49 = .ok (.goto (-27), 3) := by decide +kernel
theorem dX7_fits_52 : decode cX7_fits 52 = .ok (.aload_n 0, 1) := by decide +kernel
theorem dX7_fits_53 : decode cX7_fits 53 = .ok (.invokevirtual 208, 3) := by decide +kernel
theorem dX7_fits_56 : decode cX7_fits 56 = .ok (.iload_n 3, 1) := by decide +kernel
theorem dX7_fits_57 : decode cX7_fits 57 = .ok (.bipush 60, 2) := by decide +kernel
theorem dX7_fits_59 : decode cX7_fits 59 = .ok (.if_icmp .le 12, 3) := by decide +kernel
theorem dX7_fits_62 : decode cX7_fits 62 = .ok (.aload_n 0, 1) := by decide +kernel
theorem dX7_fits_63 : decode cX7_fits 63 = .ok (.ldc 195, 2) := by decide +kernel
theorem dX7_fits_65 : decode cX7_fits 65 = .ok (.invokevirtual 81, 3) := by decide +kernel
theorem dX7_fits_68 : decode cX7_fits 68 = .ok (.goto 4, 3) := by decide +kernel
theorem dX7_fits_71 : decode cX7_fits 71 = .ok (.iload_n 3, 1) := by decide +kernel
theorem dX7_fits_72 : decode cX7_fits 72 = .ok (.ireturn, 1) := by decide +kernel
theorem dX7_begins_0 : decode cX7_begins 0 = .ok (.aload_n 0, 1) := by decide +kernel
theorem dX7_begins_1 : decode cX7_begins 1 = .ok (.getfield 217, 3) := by decide +kernel
theorem dX7_begins_4 : decode cX7_begins 4 = .ok (.bipush 30, 2) := by decide +kernel
theorem dX7_begins_6 : decode cX7_begins 6 = .ok (.if_icmp .ge 23, 3) := by decide +kernel
theorem dX7_begins_9 : decode cX7_begins 9 = .ok (.aload_n 0, 1) := by decide +kernel
theorem dX7_begins_10 : decode cX7_begins 10 = .ok (.getfield 46, 3) := by decide +kernel
theorem dX7_begins_13 : decode cX7_begins 13 = .ok (.aload_n 0, 1) := by decide +kernel
theorem dX7_begins_14 : decode cX7_begins 14 = .ok (.getfield 217, 3) := by decide +kernel
theorem dX7_begins_17 : decode cX7_begins 17 = .ok (.iload_n 1, 1) := by decide +kernel
theorem dX7_begins_18 : decode cX7_begins 18 = .ok (.iastore, 1) := by decide +kernel
theorem dX7_begins_19 : decode cX7_begins 19 = .ok (.aload_n 0, 1) := by decide +kernel
theorem dX7_begins_20 : decode cX7_begins 20 = .ok (.dup, 1) := by decide +kernel
theorem dX7_begins_21 : decode cX7_begins 21 = .ok (.getfield 217, 3) := by decide +kernel
theorem dX7_begins_24 : decode cX7_begins 24 = .ok (.iconst 1, 1) := by decide +kernel
theorem dX7_begins_25 : decode cX7_begins 25 = .ok (.iadd, 1) := by decide +kernel
theorem dX7_begins_26 : decode cX7_begins 26 = .ok (.putfield 217, 3) := by decide +kernel
theorem dX7_begins_29 : decode cX7_begins 29 = .ok (.return_, 1) := by decide +kernel
theorem dX7_plainCrusts_0 : decode cX7_plainCrusts 0 = .ok (.aload_n 0, 1) := by decide +kernel
theorem dX7_plainCrusts_1 : decode cX7_plainCrusts 1 = .ok (.bipush 10, 2) := by decide +kernel
theorem dX7_plainCrusts_3 : decode cX7_plainCrusts 3 = .ok (.invokevirtual 220, 3) := by decide +kernel
theorem dX7_plainCrusts_6 : decode cX7_plainCrusts 6 = .ok (.iload_n 2, 1) := by decide +kernel
theorem dX7_plainCrusts_7 : decode cX7_plainCrusts 7 = .ok (.iload_n 1, 1) := by decide +kernel
theorem dX7_plainCrusts_8 : decode cX7_plainCrusts 8 = .ok (.iadd, 1) := by decide +kernel
theorem dX7_plainCrusts_9 : decode cX7_plainCrusts 9 = .ok (.ireturn, 1) := by decide +kernel
theorem dX7_ryeCrusts_0 : decode cX7_ryeCrusts 0 = .ok (.aload_n 0, 1) := by decide +kernel
theorem dX7_ryeCrusts_1 : decode cX7_ryeCrusts 1 = .ok (.bipush 20, 2) := by decide +kernel
theorem dX7_ryeCrusts_3 : decode cX7_ryeCrusts 3 = .ok (.invokevirtual 220, 3) := by decide +kernel
theorem dX7_ryeCrusts_6 : decode cX7_ryeCrusts 6 = .ok (.aload_n 0, 1) := by decide +kernel
theorem dX7_ryeCrusts_7 : decode cX7_ryeCrusts 7 = .ok (.iload_n 1, 1) := by decide +kernel
theorem dX7_ryeCrusts_8 : decode cX7_ryeCrusts 8 = .ok (.iload_n 2, 1) := by decide +kernel
theorem dX7_ryeCrusts_9 : decode cX7_ryeCrusts 9 = .ok (.invokevirtual 223, 3) := by decide +kernel
theorem dX7_ryeCrusts_12 : decode cX7_ryeCrusts 12 = .ok (.iconst 4, 1) := by decide +kernel
theorem dX7_ryeCrusts_13 : decode cX7_ryeCrusts 13 = .ok (.isub, 1) := by decide +kernel
theorem dX7_ryeCrusts_14 : decode cX7_ryeCrusts 14 = .ok (.ireturn, 1) := by decide +kernel
theorem dX7_crusts_0 : decode cX7_crusts 0 = .ok (.aload_n 0, 1) := by decide +kernel
theorem dX7_crusts_1 : decode cX7_crusts 1 = .ok (.iload_n 1, 1) := by decide +kernel
theorem dX7_crusts_2 : decode cX7_crusts 2 = .ok (.iconst 0, 1) := by decide +kernel
theorem dX7_crusts_3 : decode cX7_crusts 3 = .ok (.invokevirtual 62, 3) := by decide +kernel
theorem dX7_crusts_6 : decode cX7_crusts 6 = .ok (.lookupswitch 65 #[(1, 34), (4, 41), (6, 56)], 34) := by decide +kernel
theorem dX7_crusts_40 : decode cX7_crusts 40 = .ok (.aload_n 0, 1) := by decide +kernel
theorem dX7_crusts_41 : decode cX7_crusts 41 = .ok (.iload_n 1, 1) := by decide +kernel
theorem dX7_crusts_42 : decode cX7_crusts 42 = .ok (.iload_n 2, 1) := by decide +kernel
theorem dX7_crusts_43 : decode cX7_crusts 43 = .ok (.invokevirtual 226, 3) := by decide +kernel
theorem dX7_crusts_46 : decode cX7_crusts 46 = .ok (.ireturn, 1) := by decide +kernel
theorem dX7_crusts_47 : decode cX7_crusts 47 = .ok (.aload_n 0, 1) := by decide +kernel
theorem dX7_crusts_48 : decode cX7_crusts 48 = .ok (.bipush 50, 2) := by decide +kernel
theorem dX7_crusts_50 : decode cX7_crusts 50 = .ok (.invokevirtual 220, 3) := by decide +kernel
theorem dX7_crusts_53 : decode cX7_crusts 53 = .ok (.aload_n 0, 1) := by decide +kernel
theorem dX7_crusts_54 : decode cX7_crusts 54 = .ok (.iload_n 1, 1) := by decide +kernel
theorem dX7_crusts_55 : decode cX7_crusts 55 = .ok (.iload_n 2, 1) := by decide +kernel
theorem dX7_crusts_56 : decode cX7_crusts 56 = .ok (.invokevirtual 226, 3) := by decide +kernel
theorem dX7_crusts_59 : decode cX7_crusts 59 = .ok (.iconst 3, 1) := by decide +kernel
theorem dX7_crusts_60 : decode cX7_crusts 60 = .ok (.imul, 1) := by decide +kernel
theorem dX7_crusts_61 : decode cX7_crusts 61 = .ok (.ireturn, 1) := by decide +kernel
theorem dX7_crusts_62 : decode cX7_crusts 62 = .ok (.aload_n 0, 1) := by decide +kernel
theorem dX7_crusts_63 : decode cX7_crusts 63 = .ok (.bipush 70, 2) := by decide +kernel
theorem dX7_crusts_65 : decode cX7_crusts 65 = .ok (.invokevirtual 220, 3) := by decide +kernel
theorem dX7_crusts_68 : decode cX7_crusts 68 = .ok (.bipush 9, 2) := by decide +kernel
theorem dX7_crusts_70 : decode cX7_crusts 70 = .ok (.ireturn, 1) := by decide +kernel
theorem dX7_crusts_71 : decode cX7_crusts 71 = .ok (.aload_n 0, 1) := by decide +kernel
theorem dX7_crusts_72 : decode cX7_crusts 72 = .ok (.iload_n 1, 1) := by decide +kernel
theorem dX7_crusts_73 : decode cX7_crusts 73 = .ok (.iload_n 2, 1) := by decide +kernel
theorem dX7_crusts_74 : decode cX7_crusts 74 = .ok (.invokevirtual 223, 3) := by decide +kernel
theorem dX7_crusts_77 : decode cX7_crusts 77 = .ok (.ireturn, 1) := by decide +kernel
theorem dX7_plainSteams_0 : decode cX7_plainSteams 0 = .ok (.aload_n 0, 1) := by decide +kernel
theorem dX7_plainSteams_1 : decode cX7_plainSteams 1 = .ok (.bipush 11, 2) := by decide +kernel
theorem dX7_plainSteams_3 : decode cX7_plainSteams 3 = .ok (.invokevirtual 220, 3) := by decide +kernel
theorem dX7_plainSteams_6 : decode cX7_plainSteams 6 = .ok (.aload_n 0, 1) := by decide +kernel
theorem dX7_plainSteams_7 : decode cX7_plainSteams 7 = .ok (.iload_n 1, 1) := by decide +kernel
theorem dX7_plainSteams_8 : decode cX7_plainSteams 8 = .ok (.iload_n 2, 1) := by decide +kernel
theorem dX7_plainSteams_9 : decode cX7_plainSteams 9 = .ok (.invokevirtual 229, 3) := by decide +kernel
theorem dX7_plainSteams_12 : decode cX7_plainSteams 12 = .ok (.iconst 2, 1) := by decide +kernel
theorem dX7_plainSteams_13 : decode cX7_plainSteams 13 = .ok (.imul, 1) := by decide +kernel
theorem dX7_plainSteams_14 : decode cX7_plainSteams 14 = .ok (.ireturn, 1) := by decide +kernel
theorem dX7_briocheSteams_0 : decode cX7_briocheSteams 0 = .ok (.aload_n 0, 1) := by decide +kernel
theorem dX7_briocheSteams_1 : decode cX7_briocheSteams 1 = .ok (.bipush 30, 2) := by decide +kernel
theorem dX7_briocheSteams_3 : decode cX7_briocheSteams 3 = .ok (.invokevirtual 220, 3) := by decide +kernel
theorem dX7_briocheSteams_6 : decode cX7_briocheSteams 6 = .ok (.aload_n 0, 1) := by decide +kernel
theorem dX7_briocheSteams_7 : decode cX7_briocheSteams 7 = .ok (.iload_n 1, 1) := by decide +kernel
theorem dX7_briocheSteams_8 : decode cX7_briocheSteams 8 = .ok (.iload_n 2, 1) := by decide +kernel
theorem dX7_briocheSteams_9 : decode cX7_briocheSteams 9 = .ok (.invokevirtual 232, 3) := by decide +kernel
theorem dX7_briocheSteams_12 : decode cX7_briocheSteams 12 = .ok (.ineg, 1) := by decide +kernel
theorem dX7_briocheSteams_13 : decode cX7_briocheSteams 13 = .ok (.ireturn, 1) := by decide +kernel
theorem dX7_steams_0 : decode cX7_steams 0 = .ok (.aload_n 0, 1) := by decide +kernel
theorem dX7_steams_1 : decode cX7_steams 1 = .ok (.iload_n 1, 1) := by decide +kernel
theorem dX7_steams_2 : decode cX7_steams 2 = .ok (.iconst 0, 1) := by decide +kernel
theorem dX7_steams_3 : decode cX7_steams 3 = .ok (.invokevirtual 62, 3) := by decide +kernel
theorem dX7_steams_6 : decode cX7_steams 6 = .ok (.tableswitch 76 2 6 #[34, 76, 76, 41, 56], 34) := by decide +kernel
theorem dX7_steams_40 : decode cX7_steams 40 = .ok (.aload_n 0, 1) := by decide +kernel
theorem dX7_steams_41 : decode cX7_steams 41 = .ok (.iload_n 1, 1) := by decide +kernel
theorem dX7_steams_42 : decode cX7_steams 42 = .ok (.iload_n 2, 1) := by decide +kernel
theorem dX7_steams_43 : decode cX7_steams 43 = .ok (.invokevirtual 235, 3) := by decide +kernel
theorem dX7_steams_46 : decode cX7_steams 46 = .ok (.ireturn, 1) := by decide +kernel
theorem dX7_steams_47 : decode cX7_steams 47 = .ok (.aload_n 0, 1) := by decide +kernel
theorem dX7_steams_48 : decode cX7_steams 48 = .ok (.bipush 60, 2) := by decide +kernel
theorem dX7_steams_50 : decode cX7_steams 50 = .ok (.invokevirtual 220, 3) := by decide +kernel
theorem dX7_steams_53 : decode cX7_steams 53 = .ok (.aload_n 0, 1) := by decide +kernel
theorem dX7_steams_54 : decode cX7_steams 54 = .ok (.iload_n 1, 1) := by decide +kernel
theorem dX7_steams_55 : decode cX7_steams 55 = .ok (.iload_n 2, 1) := by decide +kernel
theorem dX7_steams_56 : decode cX7_steams 56 = .ok (.iconst 1, 1) := by decide +kernel
theorem dX7_steams_57 : decode cX7_steams 57 = .ok (.iadd, 1) := by decide +kernel
theorem dX7_steams_58 : decode cX7_steams 58 = .ok (.invokevirtual 235, 3) := by decide +kernel
theorem dX7_steams_61 : decode cX7_steams 61 = .ok (.ireturn, 1) := by decide +kernel
theorem dX7_steams_62 : decode cX7_steams 62 = .ok (.aload_n 0, 1) := by decide +kernel
theorem dX7_steams_63 : decode cX7_steams 63 = .ok (.bipush 71, 2) := by decide +kernel
theorem dX7_steams_65 : decode cX7_steams 65 = .ok (.invokevirtual 220, 3) := by decide +kernel
theorem dX7_steams_68 : decode cX7_steams 68 = .ok (.aload_n 0, 1) := by decide +kernel
theorem dX7_steams_69 : decode cX7_steams 69 = .ok (.iload_n 1, 1) := by decide +kernel
theorem dX7_steams_70 : decode cX7_steams 70 = .ok (.iload_n 2, 1) := by decide +kernel
theorem dX7_steams_71 : decode cX7_steams 71 = .ok (.invokevirtual 232, 3) := by decide +kernel
theorem dX7_steams_74 : decode cX7_steams 74 = .ok (.aload_n 0, 1) := by decide +kernel
theorem dX7_steams_75 : decode cX7_steams 75 = .ok (.iload_n 1, 1) := by decide +kernel
theorem dX7_steams_76 : decode cX7_steams 76 = .ok (.iconst 1, 1) := by decide +kernel
theorem dX7_steams_77 : decode cX7_steams 77 = .ok (.invokevirtual 62, 3) := by decide +kernel
theorem dX7_steams_80 : decode cX7_steams 80 = .ok (.iadd, 1) := by decide +kernel
theorem dX7_steams_81 : decode cX7_steams 81 = .ok (.ireturn, 1) := by decide +kernel
theorem dX7_steams_82 : decode cX7_steams 82 = .ok (.aload_n 0, 1) := by decide +kernel
theorem dX7_steams_83 : decode cX7_steams 83 = .ok (.iload_n 1, 1) := by decide +kernel
theorem dX7_steams_84 : decode cX7_steams 84 = .ok (.iload_n 2, 1) := by decide +kernel
theorem dX7_steams_85 : decode cX7_steams 85 = .ok (.invokevirtual 232, 3) := by decide +kernel
theorem dX7_steams_88 : decode cX7_steams 88 = .ok (.ireturn, 1) := by decide +kernel
theorem dX7_plainCrumbles_0 : decode cX7_plainCrumbles 0 = .ok (.aload_n 0, 1) := by decide +kernel
theorem dX7_plainCrumbles_1 : decode cX7_plainCrumbles 1 = .ok (.bipush 12, 2) := by decide +kernel
theorem dX7_plainCrumbles_3 : decode cX7_plainCrumbles 3 = .ok (.invokevirtual 220, 3) := by decide +kernel
theorem dX7_plainCrumbles_6 : decode cX7_plainCrumbles 6 = .ok (.aload_n 0, 1) := by decide +kernel
theorem dX7_plainCrumbles_7 : decode cX7_plainCrumbles 7 = .ok (.iload_n 1, 1) := by decide +kernel
theorem dX7_plainCrumbles_8 : decode cX7_plainCrumbles 8 = .ok (.iload_n 2, 1) := by decide +kernel
theorem dX7_plainCrumbles_9 : decode cX7_plainCrumbles 9 = .ok (.invokevirtual 238, 3) := by decide +kernel
theorem dX7_plainCrumbles_12 : decode cX7_plainCrumbles 12 = .ok (.aload_n 0, 1) := by decide +kernel
theorem dX7_plainCrumbles_13 : decode cX7_plainCrumbles 13 = .ok (.iload_n 1, 1) := by decide +kernel
theorem dX7_plainCrumbles_14 : decode cX7_plainCrumbles 14 = .ok (.iconst 1, 1) := by decide +kernel
theorem dX7_plainCrumbles_15 : decode cX7_plainCrumbles 15 = .ok (.invokevirtual 62, 3) := by decide +kernel
theorem dX7_plainCrumbles_18 : decode cX7_plainCrumbles 18 = .ok (.isub, 1) := by decide +kernel
theorem dX7_plainCrumbles_19 : decode cX7_plainCrumbles 19 = .ok (.ireturn, 1) := by decide +kernel
theorem dX7_crumbles_0 : decode cX7_crumbles 0 = .ok (.aload_n 0, 1) := by decide +kernel
theorem dX7_crumbles_1 : decode cX7_crumbles 1 = .ok (.iload_n 1, 1) := by decide +kernel
theorem dX7_crumbles_2 : decode cX7_crumbles 2 = .ok (.iconst 0, 1) := by decide +kernel
theorem dX7_crumbles_3 : decode cX7_crumbles 3 = .ok (.invokevirtual 62, 3) := by decide +kernel
theorem dX7_crumbles_6 : decode cX7_crumbles 6 = .ok (.lookupswitch 56 #[(3, 26), (4, 41)], 26) := by decide +kernel
theorem dX7_crumbles_32 : decode cX7_crumbles 32 = .ok (.aload_n 0, 1) := by decide +kernel
theorem dX7_crumbles_33 : decode cX7_crumbles 33 = .ok (.bipush 40, 2) := by decide +kernel
theorem dX7_crumbles_35 : decode cX7_crumbles 35 = .ok (.invokevirtual 220, 3) := by decide +kernel
theorem dX7_crumbles_38 : decode cX7_crumbles 38 = .ok (.aload_n 0, 1) := by decide +kernel
theorem dX7_crumbles_39 : decode cX7_crumbles 39 = .ok (.iload_n 1, 1) := by decide +kernel
theorem dX7_crumbles_40 : decode cX7_crumbles 40 = .ok (.iload_n 2, 1) := by decide +kernel
theorem dX7_crumbles_41 : decode cX7_crumbles 41 = .ok (.iconst 2, 1) := by decide +kernel
theorem dX7_crumbles_42 : decode cX7_crumbles 42 = .ok (.idiv, 1) := by decide +kernel
theorem dX7_crumbles_43 : decode cX7_crumbles 43 = .ok (.invokevirtual 241, 3) := by decide +kernel
theorem dX7_crumbles_46 : decode cX7_crumbles 46 = .ok (.ireturn, 1) := by decide +kernel
theorem dX7_crumbles_47 : decode cX7_crumbles 47 = .ok (.aload_n 0, 1) := by decide +kernel
theorem dX7_crumbles_48 : decode cX7_crumbles 48 = .ok (.bipush 51, 2) := by decide +kernel
theorem dX7_crumbles_50 : decode cX7_crumbles 50 = .ok (.invokevirtual 220, 3) := by decide +kernel
theorem dX7_crumbles_53 : decode cX7_crumbles 53 = .ok (.aload_n 0, 1) := by decide +kernel
theorem dX7_crumbles_54 : decode cX7_crumbles 54 = .ok (.iload_n 1, 1) := by decide +kernel
theorem dX7_crumbles_55 : decode cX7_crumbles 55 = .ok (.iload_n 2, 1) := by decide +kernel
theorem dX7_crumbles_56 : decode cX7_crumbles 56 = .ok (.invokevirtual 241, 3) := by decide +kernel
theorem dX7_crumbles_59 : decode cX7_crumbles 59 = .ok (.iload_n 1, 1) := by decide +kernel
theorem dX7_crumbles_60 : decode cX7_crumbles 60 = .ok (.ixor, 1) := by decide +kernel
theorem dX7_crumbles_61 : decode cX7_crumbles 61 = .ok (.ireturn, 1) := by decide +kernel
theorem dX7_crumbles_62 : decode cX7_crumbles 62 = .ok (.aload_n 0, 1) := by decide +kernel
theorem dX7_crumbles_63 : decode cX7_crumbles 63 = .ok (.iload_n 1, 1) := by decide +kernel
theorem dX7_crumbles_64 : decode cX7_crumbles 64 = .ok (.iload_n 2, 1) := by decide +kernel
theorem dX7_crumbles_65 : decode cX7_crumbles 65 = .ok (.invokevirtual 241, 3) := by decide +kernel
theorem dX7_crumbles_68 : decode cX7_crumbles 68 = .ok (.ireturn, 1) := by decide +kernel
theorem dX7_plainParts_0 : decode cX7_plainParts 0 = .ok (.aload_n 0, 1) := by decide +kernel
theorem dX7_plainParts_1 : decode cX7_plainParts 1 = .ok (.bipush 13, 2) := by decide +kernel
theorem dX7_plainParts_3 : decode cX7_plainParts 3 = .ok (.invokevirtual 220, 3) := by decide +kernel
theorem dX7_plainParts_6 : decode cX7_plainParts 6 = .ok (.aload_n 0, 1) := by decide +kernel
theorem dX7_plainParts_7 : decode cX7_plainParts 7 = .ok (.iload_n 1, 1) := by decide +kernel
theorem dX7_plainParts_8 : decode cX7_plainParts 8 = .ok (.iconst 1, 1) := by decide +kernel
theorem dX7_plainParts_9 : decode cX7_plainParts 9 = .ok (.invokevirtual 62, 3) := by decide +kernel
theorem dX7_plainParts_12 : decode cX7_plainParts 12 = .ok (.iload_n 1, 1) := by decide +kernel
theorem dX7_plainParts_13 : decode cX7_plainParts 13 = .ok (.isub, 1) := by decide +kernel
theorem dX7_plainParts_14 : decode cX7_plainParts 14 = .ok (.istore_n 3, 1) := by decide +kernel
theorem dX7_plainParts_15 : decode cX7_plainParts 15 = .ok (.aload_n 0, 1) := by decide +kernel
theorem dX7_plainParts_16 : decode cX7_plainParts 16 = .ok (.iload_n 3, 1) := by decide +kernel
theorem dX7_plainParts_17 : decode cX7_plainParts 17 = .ok (.ifCond .ne 7, 3) := by decide +kernel
theorem dX7_plainParts_20 : decode cX7_plainParts 20 = .ok (.iconst 1, 1) := by decide +kernel
theorem dX7_plainParts_21 : decode cX7_plainParts 21 = .ok (.goto 4, 3) := by decide +kernel
theorem dX7_plainParts_24 : decode cX7_plainParts 24 = .ok (.iconst 0, 1) := by decide +kernel
theorem dX7_plainParts_25 : decode cX7_plainParts 25 = .ok (.putfield 244, 3) := by decide +kernel
theorem dX7_plainParts_28 : decode cX7_plainParts 28 = .ok (.aload_n 0, 1) := by decide +kernel
theorem dX7_plainParts_29 : decode cX7_plainParts 29 = .ok (.getfield 244, 3) := by decide +kernel
theorem dX7_plainParts_32 : decode cX7_plainParts 32 = .ok (.ifCond .eq 7, 3) := by decide +kernel
theorem dX7_plainParts_35 : decode cX7_plainParts 35 = .ok (.iconst 0, 1) := by decide +kernel
theorem dX7_plainParts_36 : decode cX7_plainParts 36 = .ok (.goto 6, 3) := by decide +kernel
theorem dX7_plainParts_39 : decode cX7_plainParts 39 = .ok (.iload_n 2, 1) := by decide +kernel
theorem dX7_plainParts_40 : decode cX7_plainParts 40 = .ok (.iload_n 3, 1) := by decide +kernel
theorem dX7_plainParts_41 : decode cX7_plainParts 41 = .ok (.idiv, 1) := by decide +kernel
theorem dX7_plainParts_42 : decode cX7_plainParts 42 = .ok (.ireturn, 1) := by decide +kernel
theorem dX7_partsBy_0 : decode cX7_partsBy 0 = .ok (.aload_n 0, 1) := by decide +kernel
theorem dX7_partsBy_1 : decode cX7_partsBy 1 = .ok (.iload_n 1, 1) := by decide +kernel
theorem dX7_partsBy_2 : decode cX7_partsBy 2 = .ok (.iconst 0, 1) := by decide +kernel
theorem dX7_partsBy_3 : decode cX7_partsBy 3 = .ok (.invokevirtual 62, 3) := by decide +kernel
theorem dX7_partsBy_6 : decode cX7_partsBy 6 = .ok (.iconst 1, 1) := by decide +kernel
theorem dX7_partsBy_7 : decode cX7_partsBy 7 = .ok (.if_icmp .eq 13, 3) := by decide +kernel
theorem dX7_partsBy_10 : decode cX7_partsBy 10 = .ok (.aload_n 0, 1) := by decide +kernel
theorem dX7_partsBy_11 : decode cX7_partsBy 11 = .ok (.iload_n 1, 1) := by decide +kernel
theorem dX7_partsBy_12 : decode cX7_partsBy 12 = .ok (.iconst 0, 1) := by decide +kernel
theorem dX7_partsBy_13 : decode cX7_partsBy 13 = .ok (.invokevirtual 62, 3) := by decide +kernel
theorem dX7_partsBy_16 : decode cX7_partsBy 16 = .ok (.iconst 4, 1) := by decide +kernel
theorem dX7_partsBy_17 : decode cX7_partsBy 17 = .ok (.if_icmp .ne 36, 3) := by decide +kernel
theorem dX7_partsBy_20 : decode cX7_partsBy 20 = .ok (.aload_n 0, 1) := by decide +kernel
theorem dX7_partsBy_21 : decode cX7_partsBy 21 = .ok (.bipush 21, 2) := by decide +kernel
theorem dX7_partsBy_23 : decode cX7_partsBy 23 = .ok (.invokevirtual 220, 3) := by decide +kernel
theorem dX7_partsBy_26 : decode cX7_partsBy 26 = .ok (.aload_n 0, 1) := by decide +kernel
theorem dX7_partsBy_27 : decode cX7_partsBy 27 = .ok (.iload_n 1, 1) := by decide +kernel
theorem dX7_partsBy_28 : decode cX7_partsBy 28 = .ok (.iload_n 2, 1) := by decide +kernel
theorem dX7_partsBy_29 : decode cX7_partsBy 29 = .ok (.invokevirtual 247, 3) := by decide +kernel
theorem dX7_partsBy_32 : decode cX7_partsBy 32 = .ok (.istore_n 3, 1) := by decide +kernel
theorem dX7_partsBy_33 : decode cX7_partsBy 33 = .ok (.aload_n 0, 1) := by decide +kernel
theorem dX7_partsBy_34 : decode cX7_partsBy 34 = .ok (.getfield 244, 3) := by decide +kernel
theorem dX7_partsBy_37 : decode cX7_partsBy 37 = .ok (.ifCond .eq 7, 3) := by decide +kernel
theorem dX7_partsBy_40 : decode cX7_partsBy 40 = .ok (.iconst 0, 1) := by decide +kernel
theorem dX7_partsBy_41 : decode cX7_partsBy 41 = .ok (.goto 11, 3) := by decide +kernel
theorem dX7_partsBy_44 : decode cX7_partsBy 44 = .ok (.iload_n 3, 1) := by decide +kernel
theorem dX7_partsBy_45 : decode cX7_partsBy 45 = .ok (.aload_n 0, 1) := by decide +kernel
theorem dX7_partsBy_46 : decode cX7_partsBy 46 = .ok (.iload_n 1, 1) := by decide +kernel
theorem dX7_partsBy_47 : decode cX7_partsBy 47 = .ok (.iconst 1, 1) := by decide +kernel
theorem dX7_partsBy_48 : decode cX7_partsBy 48 = .ok (.invokevirtual 238, 3) := by decide +kernel
theorem dX7_partsBy_51 : decode cX7_partsBy 51 = .ok (.iadd, 1) := by decide +kernel
theorem dX7_partsBy_52 : decode cX7_partsBy 52 = .ok (.ireturn, 1) := by decide +kernel
theorem dX7_partsBy_53 : decode cX7_partsBy 53 = .ok (.aload_n 0, 1) := by decide +kernel
theorem dX7_partsBy_54 : decode cX7_partsBy 54 = .ok (.iload_n 1, 1) := by decide +kernel
theorem dX7_partsBy_55 : decode cX7_partsBy 55 = .ok (.iload_n 2, 1) := by decide +kernel
theorem dX7_partsBy_56 : decode cX7_partsBy 56 = .ok (.invokevirtual 247, 3) := by decide +kernel
theorem dX7_partsBy_59 : decode cX7_partsBy 59 = .ok (.ireturn, 1) := by decide +kernel
theorem dX7_voice_0 : decode cX7_voice 0 = .ok (.aload_n 0, 1) := by decide +kernel
theorem dX7_voice_1 : decode cX7_voice 1 = .ok (.iload_n 1, 1) := by decide +kernel
theorem dX7_voice_2 : decode cX7_voice 2 = .ok (.invokevirtual 90, 3) := by decide +kernel
theorem dX7_voice_5 : decode cX7_voice 5 = .ok (.ifCond .eq 12, 3) := by decide +kernel
theorem dX7_voice_8 : decode cX7_voice 8 = .ok (.iload_n 2, 1) := by decide +kernel
theorem dX7_voice_9 : decode cX7_voice 9 = .ok (.iconst 0, 1) := by decide +kernel
theorem dX7_voice_10 : decode cX7_voice 10 = .ok (.iconst 3, 1) := by decide +kernel
theorem dX7_voice_11 : decode cX7_voice 11 = .ok (.invokestatic 54, 3) := by decide +kernel
theorem dX7_voice_14 : decode cX7_voice 14 = .ok (.ifCond .ne 10, 3) := by decide +kernel
theorem dX7_voice_17 : decode cX7_voice 17 = .ok (.aload_n 0, 1) := by decide +kernel
theorem dX7_voice_18 : decode cX7_voice 18 = .ok (.ldc 80, 2) := by decide +kernel
theorem dX7_voice_20 : decode cX7_voice 20 = .ok (.invokevirtual 81, 3) := by decide +kernel
theorem dX7_voice_23 : decode cX7_voice 23 = .ok (.ireturn, 1) := by decide +kernel
theorem dX7_voice_24 : decode cX7_voice 24 = .ok (.aload_n 0, 1) := by decide +kernel
theorem dX7_voice_25 : decode cX7_voice 25 = .ok (.iconst 0, 1) := by decide +kernel
theorem dX7_voice_26 : decode cX7_voice 26 = .ok (.putfield 217, 3) := by decide +kernel
theorem dX7_voice_29 : decode cX7_voice 29 = .ok (.aload_n 0, 1) := by decide +kernel
theorem dX7_voice_30 : decode cX7_voice 30 = .ok (.iconst 0, 1) := by decide +kernel
theorem dX7_voice_31 : decode cX7_voice 31 = .ok (.putfield 244, 3) := by decide +kernel
theorem dX7_voice_34 : decode cX7_voice 34 = .ok (.iload_n 2, 1) := by decide +kernel
theorem dX7_voice_35 : decode cX7_voice 35 = .ok (.ifCond .ne 12, 3) := by decide +kernel
theorem dX7_voice_38 : decode cX7_voice 38 = .ok (.aload_n 0, 1) := by decide +kernel
theorem dX7_voice_39 : decode cX7_voice 39 = .ok (.iload_n 1, 1) := by decide +kernel
theorem dX7_voice_40 : decode cX7_voice 40 = .ok (.iload_n 3, 1) := by decide +kernel
theorem dX7_voice_41 : decode cX7_voice 41 = .ok (.invokevirtual 229, 3) := by decide +kernel
theorem dX7_voice_44 : decode cX7_voice 44 = .ok (.goto 37, 3) := by decide +kernel
theorem dX7_voice_47 : decode cX7_voice 47 = .ok (.iload_n 2, 1) := by decide +kernel
theorem dX7_voice_48 : decode cX7_voice 48 = .ok (.iconst 1, 1) := by decide +kernel
theorem dX7_voice_49 : decode cX7_voice 49 = .ok (.if_icmp .ne 12, 3) := by decide +kernel
theorem dX7_voice_52 : decode cX7_voice 52 = .ok (.aload_n 0, 1) := by decide +kernel
theorem dX7_voice_53 : decode cX7_voice 53 = .ok (.iload_n 1, 1) := by decide +kernel
theorem dX7_voice_54 : decode cX7_voice 54 = .ok (.iload_n 3, 1) := by decide +kernel
theorem dX7_voice_55 : decode cX7_voice 55 = .ok (.invokevirtual 238, 3) := by decide +kernel
theorem dX7_voice_58 : decode cX7_voice 58 = .ok (.goto 23, 3) := by decide +kernel
theorem dX7_voice_61 : decode cX7_voice 61 = .ok (.iload_n 2, 1) := by decide +kernel
theorem dX7_voice_62 : decode cX7_voice 62 = .ok (.iconst 2, 1) := by decide +kernel
theorem dX7_voice_63 : decode cX7_voice 63 = .ok (.if_icmp .ne 12, 3) := by decide +kernel
theorem dX7_voice_66 : decode cX7_voice 66 = .ok (.aload_n 0, 1) := by decide +kernel
theorem dX7_voice_67 : decode cX7_voice 67 = .ok (.iload_n 1, 1) := by decide +kernel
theorem dX7_voice_68 : decode cX7_voice 68 = .ok (.iload_n 3, 1) := by decide +kernel
theorem dX7_voice_69 : decode cX7_voice 69 = .ok (.invokevirtual 250, 3) := by decide +kernel
theorem dX7_voice_72 : decode cX7_voice 72 = .ok (.goto 9, 3) := by decide +kernel
theorem dX7_voice_75 : decode cX7_voice 75 = .ok (.aload_n 0, 1) := by decide +kernel
theorem dX7_voice_76 : decode cX7_voice 76 = .ok (.iload_n 1, 1) := by decide +kernel
theorem dX7_voice_77 : decode cX7_voice 77 = .ok (.iload_n 3, 1) := by decide +kernel
theorem dX7_voice_78 : decode cX7_voice 78 = .ok (.invokevirtual 253, 3) := by decide +kernel
theorem dX7_voice_81 : decode cX7_voice 81 = .ok (.istore 4, 2) := by decide +kernel
theorem dX7_voice_83 : decode cX7_voice 83 = .ok (.aload_n 0, 1) := by decide +kernel
theorem dX7_voice_84 : decode cX7_voice 84 = .ok (.getfield 244, 3) := by decide +kernel
theorem dX7_voice_87 : decode cX7_voice 87 = .ok (.ifCond .eq 13, 3) := by decide +kernel
theorem dX7_voice_90 : decode cX7_voice 90 = .ok (.aload_n 0, 1) := by decide +kernel
theorem dX7_voice_91 : decode cX7_voice 91 = .ok (.ldc_w 256, 3) := by decide +kernel
theorem dX7_voice_94 : decode cX7_voice 94 = .ok (.invokevirtual 81, 3) := by decide +kernel
theorem dX7_voice_97 : decode cX7_voice 97 = .ok (.goto 5, 3) := by decide +kernel
theorem dX7_voice_100 : decode cX7_voice 100 = .ok (.iload 4, 2) := by decide +kernel
theorem dX7_voice_102 : decode cX7_voice 102 = .ok (.ireturn, 1) := by decide +kernel
theorem dX7_body_0 : decode cX7_body 0 = .ok (.iload_n 1, 1) := by decide +kernel
theorem dX7_body_1 : decode cX7_body 1 = .ok (.iconst 0, 1) := by decide +kernel
theorem dX7_body_2 : decode cX7_body 2 = .ok (.aload_n 0, 1) := by decide +kernel
theorem dX7_body_3 : decode cX7_body 3 = .ok (.getfield 217, 3) := by decide +kernel
theorem dX7_body_6 : decode cX7_body 6 = .ok (.iconst 1, 1) := by decide +kernel
theorem dX7_body_7 : decode cX7_body 7 = .ok (.isub, 1) := by decide +kernel
theorem dX7_body_8 : decode cX7_body 8 = .ok (.invokestatic 54, 3) := by decide +kernel
theorem dX7_body_11 : decode cX7_body 11 = .ok (.ifCond .eq 12, 3) := by decide +kernel
theorem dX7_body_14 : decode cX7_body 14 = .ok (.aload_n 0, 1) := by decide +kernel
theorem dX7_body_15 : decode cX7_body 15 = .ok (.getfield 46, 3) := by decide +kernel
theorem dX7_body_18 : decode cX7_body 18 = .ok (.iload_n 1, 1) := by decide +kernel
theorem dX7_body_19 : decode cX7_body 19 = .ok (.iaload, 1) := by decide +kernel
theorem dX7_body_20 : decode cX7_body 20 = .ok (.goto 9, 3) := by decide +kernel
theorem dX7_body_23 : decode cX7_body 23 = .ok (.aload_n 0, 1) := by decide +kernel
theorem dX7_body_24 : decode cX7_body 24 = .ok (.ldc 195, 2) := by decide +kernel
theorem dX7_body_26 : decode cX7_body 26 = .ok (.invokevirtual 81, 3) := by decide +kernel
theorem dX7_body_29 : decode cX7_body 29 = .ok (.ireturn, 1) := by decide +kernel
theorem dX7_isSheet_0 : decode cX7_isSheet 0 = .ok (.iload_n 0, 1) := by decide +kernel
theorem dX7_isSheet_1 : decode cX7_isSheet 1 = .ok (.iconst 0, 1) := by decide +kernel
theorem dX7_isSheet_2 : decode cX7_isSheet 2 = .ok (.iconst 3, 1) := by decide +kernel
theorem dX7_isSheet_3 : decode cX7_isSheet 3 = .ok (.invokestatic 54, 3) := by decide +kernel
theorem dX7_isSheet_6 : decode cX7_isSheet 6 = .ok (.ireturn, 1) := by decide +kernel
theorem dX7_sheet_0 : decode cX7_sheet 0 = .ok (.iload_n 1, 1) := by decide +kernel
theorem dX7_sheet_1 : decode cX7_sheet 1 = .ok (.invokestatic 257, 3) := by decide +kernel
theorem dX7_sheet_4 : decode cX7_sheet 4 = .ok (.ifCond .eq 25, 3) := by decide +kernel
theorem dX7_sheet_7 : decode cX7_sheet 7 = .ok (.iload_n 2, 1) := by decide +kernel
theorem dX7_sheet_8 : decode cX7_sheet 8 = .ok (.ifCond .eq 28, 3) := by decide +kernel
theorem dX7_sheet_11 : decode cX7_sheet 11 = .ok (.iload_n 2, 1) := by decide +kernel
theorem dX7_sheet_12 : decode cX7_sheet 12 = .ok (.bipush 8, 2) := by decide +kernel
theorem dX7_sheet_14 : decode cX7_sheet 14 = .ok (.if_icmp .eq 22, 3) := by decide +kernel
theorem dX7_sheet_17 : decode cX7_sheet 17 = .ok (.iload_n 2, 1) := by decide +kernel
theorem dX7_sheet_18 : decode cX7_sheet 18 = .ok (.bipush 16, 2) := by decide +kernel
theorem dX7_sheet_20 : decode cX7_sheet 20 = .ok (.if_icmp .eq 16, 3) := by decide +kernel
theorem dX7_sheet_23 : decode cX7_sheet 23 = .ok (.iload_n 2, 1) := by decide +kernel
theorem dX7_sheet_24 : decode cX7_sheet 24 = .ok (.bipush 32, 2) := by decide +kernel
theorem dX7_sheet_26 : decode cX7_sheet 26 = .ok (.if_icmp .eq 10, 3) := by decide +kernel
theorem dX7_sheet_29 : decode cX7_sheet 29 = .ok (.aload_n 0, 1) := by decide +kernel
theorem dX7_sheet_30 : decode cX7_sheet 30 = .ok (.ldc 80, 2) := by decide +kernel
theorem dX7_sheet_32 : decode cX7_sheet 32 = .ok (.invokevirtual 81, 3) := by decide +kernel
theorem dX7_sheet_35 : decode cX7_sheet 35 = .ok (.ireturn, 1) := by decide +kernel
theorem dX7_sheet_36 : decode cX7_sheet 36 = .ok (.iload_n 2, 1) := by decide +kernel
theorem dX7_sheet_37 : decode cX7_sheet 37 = .ok (.ifCond .le 14, 3) := by decide +kernel
theorem dX7_sheet_40 : decode cX7_sheet 40 = .ok (.iload_n 3, 1) := by decide +kernel
theorem dX7_sheet_41 : decode cX7_sheet 41 = .ok (.ifCond .ge 10, 3) := by decide +kernel
theorem dX7_sheet_44 : decode cX7_sheet 44 = .ok (.aload_n 0, 1) := by decide +kernel
theorem dX7_sheet_45 : decode cX7_sheet 45 = .ok (.ldc 103, 2) := by decide +kernel
theorem dX7_sheet_47 : decode cX7_sheet 47 = .ok (.invokevirtual 81, 3) := by decide +kernel
theorem dX7_sheet_50 : decode cX7_sheet 50 = .ok (.ireturn, 1) := by decide +kernel
theorem dX7_sheet_51 : decode cX7_sheet 51 = .ok (.iload_n 2, 1) := by decide +kernel
theorem dX7_sheet_52 : decode cX7_sheet 52 = .ok (.ifCond .le 16, 3) := by decide +kernel
theorem dX7_sheet_55 : decode cX7_sheet 55 = .ok (.iload_n 3, 1) := by decide +kernel
theorem dX7_sheet_56 : decode cX7_sheet 56 = .ok (.bipush 24, 2) := by decide +kernel
theorem dX7_sheet_58 : decode cX7_sheet 58 = .ok (.if_icmp .le 10, 3) := by decide +kernel
theorem dX7_sheet_61 : decode cX7_sheet 61 = .ok (.aload_n 0, 1) := by decide +kernel
theorem dX7_sheet_62 : decode cX7_sheet 62 = .ok (.ldc 80, 2) := by decide +kernel
theorem dX7_sheet_64 : decode cX7_sheet 64 = .ok (.invokevirtual 81, 3) := by decide +kernel
theorem dX7_sheet_67 : decode cX7_sheet 67 = .ok (.ireturn, 1) := by decide +kernel
theorem dX7_sheet_68 : decode cX7_sheet 68 = .ok (.aload_n 0, 1) := by decide +kernel
theorem dX7_sheet_69 : decode cX7_sheet 69 = .ok (.getfield 22, 3) := by decide +kernel
theorem dX7_sheet_72 : decode cX7_sheet 72 = .ok (.iload_n 1, 1) := by decide +kernel
theorem dX7_sheet_73 : decode cX7_sheet 73 = .ok (.iload_n 2, 1) := by decide +kernel
theorem dX7_sheet_74 : decode cX7_sheet 74 = .ok (.iastore, 1) := by decide +kernel
theorem dX7_sheet_75 : decode cX7_sheet 75 = .ok (.aload_n 0, 1) := by decide +kernel
theorem dX7_sheet_76 : decode cX7_sheet 76 = .ok (.getfield 25, 3) := by decide +kernel
theorem dX7_sheet_79 : decode cX7_sheet 79 = .ok (.iload_n 1, 1) := by decide +kernel
theorem dX7_sheet_80 : decode cX7_sheet 80 = .ok (.iload_n 2, 1) := by decide +kernel
theorem dX7_sheet_81 : decode cX7_sheet 81 = .ok (.ifCond .ne 7, 3) := by decide +kernel
theorem dX7_sheet_84 : decode cX7_sheet 84 = .ok (.iconst 0, 1) := by decide +kernel
theorem dX7_sheet_85 : decode cX7_sheet 85 = .ok (.goto 4, 3) := by decide +kernel
theorem dX7_sheet_88 : decode cX7_sheet 88 = .ok (.iload_n 3, 1) := by decide +kernel
theorem dX7_sheet_89 : decode cX7_sheet 89 = .ok (.iastore, 1) := by decide +kernel
theorem dX7_sheet_90 : decode cX7_sheet 90 = .ok (.iconst 0, 1) := by decide +kernel
theorem dX7_sheet_91 : decode cX7_sheet 91 = .ok (.istore 4, 2) := by decide +kernel
theorem dX7_sheet_93 : decode cX7_sheet 93 = .ok (.iload 4, 2) := by decide +kernel
theorem dX7_sheet_95 : decode cX7_sheet 95 = .ok (.bipush 24, 2) := by decide +kernel
theorem dX7_sheet_97 : decode cX7_sheet 97 = .ok (.if_icmp .ge 22, 3) := by decide +kernel
theorem dX7_sheet_100 : decode cX7_sheet 100 = .ok (.aload_n 0, 1) := by decide +kernel
theorem dX7_sheet_101 : decode cX7_sheet 101 = .ok (.getfield 28, 3) := by decide +kernel
theorem dX7_sheet_104 : decode cX7_sheet 104 = .ok (.bipush 24, 2) := by decide +kernel
theorem dX7_sheet_106 : decode cX7_sheet 106 = .ok (.iload_n 1, 1) := by decide +kernel
theorem dX7_sheet_107 : decode cX7_sheet 107 = .ok (.imul, 1) := by decide +kernel
theorem dX7_sheet_108 : decode cX7_sheet 108 = .ok (.iload 4, 2) := by decide +kernel
theorem dX7_sheet_110 : decode cX7_sheet 110 = .ok (.iadd, 1) := by decide +kernel
theorem dX7_sheet_111 : decode cX7_sheet 111 = .ok (.iconst 0, 1) := by decide +kernel
theorem dX7_sheet_112 : decode cX7_sheet 112 = .ok (.iastore, 1) := by decide +kernel
theorem dX7_sheet_113 : decode cX7_sheet 113 = .ok (.iinc 4 1, 3) := by decide +kernel
theorem dX7_sheet_116 : decode cX7_sheet 116 = .ok (.goto (-23), 3) := by decide +kernel
theorem dX7_sheet_119 : decode cX7_sheet 119 = .ok (.iconst 1, 1) := by decide +kernel
theorem dX7_sheet_120 : decode cX7_sheet 120 = .ok (.ireturn, 1) := by decide +kernel
theorem dX7_notThere_0 : decode cX7_notThere 0 = .ok (.iload_n 1, 1) := by decide +kernel
theorem dX7_notThere_1 : decode cX7_notThere 1 = .ok (.invokestatic 257, 3) := by decide +kernel
theorem dX7_notThere_4 : decode cX7_notThere 4 = .ok (.ifCond .ne 8, 3) := by decide +kernel
theorem dX7_notThere_7 : decode cX7_notThere 7 = .ok (.ldc 80, 2) := by decide +kernel
theorem dX7_notThere_9 : decode cX7_notThere 9 = .ok (.goto 18, 3) := by decide +kernel
theorem dX7_notThere_12 : decode cX7_notThere 12 = .ok (.aload_n 0, 1) := by decide +kernel
theorem dX7_notThere_13 : decode cX7_notThere 13 = .ok (.getfield 22, 3) := by decide +kernel
theorem dX7_notThere_16 : decode cX7_notThere 16 = .ok (.iload_n 1, 1) := by decide +kernel
theorem dX7_notThere_17 : decode cX7_notThere 17 = .ok (.iaload, 1) := by decide +kernel
theorem dX7_notThere_18 : decode cX7_notThere 18 = .ok (.ifCond .ne 8, 3) := by decide +kernel
theorem dX7_notThere_21 : decode cX7_notThere 21 = .ok (.ldc 195, 2) := by decide +kernel
theorem dX7_notThere_23 : decode cX7_notThere 23 = .ok (.goto 4, 3) := by decide +kernel
theorem dX7_notThere_26 : decode cX7_notThere 26 = .ok (.iconst 0, 1) := by decide +kernel
theorem dX7_notThere_27 : decode cX7_notThere 27 = .ok (.ireturn, 1) := by decide +kernel
theorem dX7_put_0 : decode cX7_put 0 = .ok (.aload_n 0, 1) := by decide +kernel
theorem dX7_put_1 : decode cX7_put 1 = .ok (.iload_n 1, 1) := by decide +kernel
theorem dX7_put_2 : decode cX7_put 2 = .ok (.invokevirtual 211, 3) := by decide +kernel
theorem dX7_put_5 : decode cX7_put 5 = .ok (.istore 4, 2) := by decide +kernel
theorem dX7_put_7 : decode cX7_put 7 = .ok (.iload 4, 2) := by decide +kernel
theorem dX7_put_9 : decode cX7_put 9 = .ok (.ifCond .ne 24, 3) := by decide +kernel
theorem dX7_put_12 : decode cX7_put 12 = .ok (.iload_n 2, 1) := by decide +kernel
theorem dX7_put_13 : decode cX7_put 13 = .ok (.iconst 0, 1) := by decide +kernel
theorem dX7_put_14 : decode cX7_put 14 = .ok (.aload_n 0, 1) := by decide +kernel
theorem dX7_put_15 : decode cX7_put 15 = .ok (.getfield 25, 3) := by decide +kernel
theorem dX7_put_18 : decode cX7_put 18 = .ok (.iload_n 1, 1) := by decide +kernel
theorem dX7_put_19 : decode cX7_put 19 = .ok (.iaload, 1) := by decide +kernel
theorem dX7_put_20 : decode cX7_put 20 = .ok (.iconst 1, 1) := by decide +kernel
theorem dX7_put_21 : decode cX7_put 21 = .ok (.isub, 1) := by decide +kernel
theorem dX7_put_22 : decode cX7_put 22 = .ok (.invokestatic 54, 3) := by decide +kernel
theorem dX7_put_25 : decode cX7_put 25 = .ok (.ifCond .ne 8, 3) := by decide +kernel
theorem dX7_put_28 : decode cX7_put 28 = .ok (.ldc 80, 2) := by decide +kernel
theorem dX7_put_30 : decode cX7_put 30 = .ok (.goto 5, 3) := by decide +kernel
theorem dX7_put_33 : decode cX7_put 33 = .ok (.iload 4, 2) := by decide +kernel
theorem dX7_put_35 : decode cX7_put 35 = .ok (.istore 4, 2) := by decide +kernel
theorem dX7_put_37 : decode cX7_put 37 = .ok (.iload 4, 2) := by decide +kernel
theorem dX7_put_39 : decode cX7_put 39 = .ok (.ifCond .eq 10, 3) := by decide +kernel
theorem dX7_put_42 : decode cX7_put 42 = .ok (.aload_n 0, 1) := by decide +kernel
theorem dX7_put_43 : decode cX7_put 43 = .ok (.iload 4, 2) := by decide +kernel
theorem dX7_put_45 : decode cX7_put 45 = .ok (.invokevirtual 81, 3) := by decide +kernel
theorem dX7_put_48 : decode cX7_put 48 = .ok (.ireturn, 1) := by decide +kernel
theorem dX7_put_49 : decode cX7_put 49 = .ok (.aload_n 0, 1) := by decide +kernel
theorem dX7_put_50 : decode cX7_put 50 = .ok (.getfield 28, 3) := by decide +kernel
theorem dX7_put_53 : decode cX7_put 53 = .ok (.bipush 24, 2) := by decide +kernel
theorem dX7_put_55 : decode cX7_put 55 = .ok (.iload_n 1, 1) := by decide +kernel
theorem dX7_put_56 : decode cX7_put 56 = .ok (.imul, 1) := by decide +kernel
theorem dX7_put_57 : decode cX7_put 57 = .ok (.iload_n 2, 1) := by decide +kernel
theorem dX7_put_58 : decode cX7_put 58 = .ok (.iadd, 1) := by decide +kernel
theorem dX7_put_59 : decode cX7_put 59 = .ok (.aload_n 0, 1) := by decide +kernel
theorem dX7_put_60 : decode cX7_put 60 = .ok (.getfield 22, 3) := by decide +kernel
theorem dX7_put_63 : decode cX7_put 63 = .ok (.iload_n 1, 1) := by decide +kernel
theorem dX7_put_64 : decode cX7_put 64 = .ok (.iaload, 1) := by decide +kernel
theorem dX7_put_65 : decode cX7_put 65 = .ok (.bipush 8, 2) := by decide +kernel
theorem dX7_put_67 : decode cX7_put 67 = .ok (.if_icmp .ne 8, 3) := by decide +kernel
theorem dX7_put_70 : decode cX7_put 70 = .ok (.iload_n 3, 1) := by decide +kernel
theorem dX7_put_71 : decode cX7_put 71 = .ok (.i2b, 1) := by decide +kernel
theorem dX7_put_72 : decode cX7_put 72 = .ok (.goto 20, 3) := by decide +kernel
theorem dX7_put_75 : decode cX7_put 75 = .ok (.aload_n 0, 1) := by decide +kernel
theorem dX7_put_76 : decode cX7_put 76 = .ok (.getfield 22, 3) := by decide +kernel
theorem dX7_put_79 : decode cX7_put 79 = .ok (.iload_n 1, 1) := by decide +kernel
theorem dX7_put_80 : decode cX7_put 80 = .ok (.iaload, 1) := by decide +kernel
theorem dX7_put_81 : decode cX7_put 81 = .ok (.bipush 16, 2) := by decide +kernel
theorem dX7_put_83 : decode cX7_put 83 = .ok (.if_icmp .ne 8, 3) := by decide +kernel
theorem dX7_put_86 : decode cX7_put 86 = .ok (.iload_n 3, 1) := by decide +kernel
theorem dX7_put_87 : decode cX7_put 87 = .ok (.i2s, 1) := by decide +kernel
theorem dX7_put_88 : decode cX7_put 88 = .ok (.goto 4, 3) := by decide +kernel
theorem dX7_put_91 : decode cX7_put 91 = .ok (.iload_n 3, 1) := by decide +kernel
theorem dX7_put_92 : decode cX7_put 92 = .ok (.iastore, 1) := by decide +kernel
theorem dX7_put_93 : decode cX7_put 93 = .ok (.iconst 1, 1) := by decide +kernel
theorem dX7_put_94 : decode cX7_put 94 = .ok (.ireturn, 1) := by decide +kernel
theorem dX7_notMoved_0 : decode cX7_notMoved 0 = .ok (.iload_n 1, 1) := by decide +kernel
theorem dX7_notMoved_1 : decode cX7_notMoved 1 = .ok (.invokestatic 257, 3) := by decide +kernel
theorem dX7_notMoved_4 : decode cX7_notMoved 4 = .ok (.ifCond .eq 10, 3) := by decide +kernel
theorem dX7_notMoved_7 : decode cX7_notMoved 7 = .ok (.iload_n 3, 1) := by decide +kernel
theorem dX7_notMoved_8 : decode cX7_notMoved 8 = .ok (.invokestatic 257, 3) := by decide +kernel
theorem dX7_notMoved_11 : decode cX7_notMoved 11 = .ok (.ifCond .ne 6, 3) := by decide +kernel
theorem dX7_notMoved_14 : decode cX7_notMoved 14 = .ok (.ldc 80, 2) := by decide +kernel
theorem dX7_notMoved_16 : decode cX7_notMoved 16 = .ok (.ireturn, 1) := by decide +kernel
theorem dX7_notMoved_17 : decode cX7_notMoved 17 = .ok (.aload_n 0, 1) := by decide +kernel
theorem dX7_notMoved_18 : decode cX7_notMoved 18 = .ok (.getfield 22, 3) := by decide +kernel
theorem dX7_notMoved_21 : decode cX7_notMoved 21 = .ok (.iload_n 1, 1) := by decide +kernel
theorem dX7_notMoved_22 : decode cX7_notMoved 22 = .ok (.iaload, 1) := by decide +kernel
theorem dX7_notMoved_23 : decode cX7_notMoved 23 = .ok (.ifCond .eq 12, 3) := by decide +kernel
theorem dX7_notMoved_26 : decode cX7_notMoved 26 = .ok (.aload_n 0, 1) := by decide +kernel
theorem dX7_notMoved_27 : decode cX7_notMoved 27 = .ok (.getfield 22, 3) := by decide +kernel
theorem dX7_notMoved_30 : decode cX7_notMoved 30 = .ok (.iload_n 3, 1) := by decide +kernel
theorem dX7_notMoved_31 : decode cX7_notMoved 31 = .ok (.iaload, 1) := by decide +kernel
theorem dX7_notMoved_32 : decode cX7_notMoved 32 = .ok (.ifCond .ne 6, 3) := by decide +kernel
theorem dX7_notMoved_35 : decode cX7_notMoved 35 = .ok (.ldc 195, 2) := by decide +kernel
theorem dX7_notMoved_37 : decode cX7_notMoved 37 = .ok (.ireturn, 1) := by decide +kernel
theorem dX7_notMoved_38 : decode cX7_notMoved 38 = .ok (.aload_n 0, 1) := by decide +kernel
theorem dX7_notMoved_39 : decode cX7_notMoved 39 = .ok (.getfield 22, 3) := by decide +kernel
theorem dX7_notMoved_42 : decode cX7_notMoved 42 = .ok (.iload_n 1, 1) := by decide +kernel
theorem dX7_notMoved_43 : decode cX7_notMoved 43 = .ok (.iaload, 1) := by decide +kernel
theorem dX7_notMoved_44 : decode cX7_notMoved 44 = .ok (.aload_n 0, 1) := by decide +kernel
theorem dX7_notMoved_45 : decode cX7_notMoved 45 = .ok (.getfield 22, 3) := by decide +kernel
theorem dX7_notMoved_48 : decode cX7_notMoved 48 = .ok (.iload_n 3, 1) := by decide +kernel
theorem dX7_notMoved_49 : decode cX7_notMoved 49 = .ok (.iaload, 1) := by decide +kernel
theorem dX7_notMoved_50 : decode cX7_notMoved 50 = .ok (.if_icmp .eq 6, 3) := by decide +kernel
theorem dX7_notMoved_53 : decode cX7_notMoved 53 = .ok (.ldc 102, 2) := by decide +kernel
theorem dX7_notMoved_55 : decode cX7_notMoved 55 = .ok (.ireturn, 1) := by decide +kernel
theorem dX7_notMoved_56 : decode cX7_notMoved 56 = .ok (.iload 5, 2) := by decide +kernel
theorem dX7_notMoved_58 : decode cX7_notMoved 58 = .ok (.ifCond .lt 43, 3) := by decide +kernel
theorem dX7_notMoved_61 : decode cX7_notMoved 61 = .ok (.iload_n 2, 1) := by decide +kernel
theorem dX7_notMoved_62 : decode cX7_notMoved 62 = .ok (.ifCond .lt 39, 3) := by decide +kernel
theorem dX7_notMoved_65 : decode cX7_notMoved 65 = .ok (.iload 4, 2) := by decide +kernel
theorem dX7_notMoved_67 : decode cX7_notMoved 67 = .ok (.ifCond .lt 34, 3) := by decide +kernel
theorem dX7_notMoved_70 : decode cX7_notMoved 70 = .ok (.iload 5, 2) := by decide +kernel
theorem dX7_notMoved_72 : decode cX7_notMoved 72 = .ok (.aload_n 0, 1) := by decide +kernel
theorem dX7_notMoved_73 : decode cX7_notMoved 73 = .ok (.getfield 25, 3) := by decide +kernel
theorem dX7_notMoved_76 : decode cX7_notMoved 76 = .ok (.iload_n 1, 1) := by decide +kernel
theorem dX7_notMoved_77 : decode cX7_notMoved 77 = .ok (.iaload, 1) := by decide +kernel
theorem dX7_notMoved_78 : decode cX7_notMoved 78 = .ok (.iload_n 2, 1) := by decide +kernel
theorem dX7_notMoved_79 : decode cX7_notMoved 79 = .ok (.isub, 1) := by decide +kernel
theorem dX7_notMoved_80 : decode cX7_notMoved 80 = .ok (.if_icmp .gt 21, 3) := by decide +kernel
theorem dX7_notMoved_83 : decode cX7_notMoved 83 = .ok (.iload 5, 2) := by decide +kernel
theorem dX7_notMoved_85 : decode cX7_notMoved 85 = .ok (.aload_n 0, 1) := by decide +kernel
theorem dX7_notMoved_86 : decode cX7_notMoved 86 = .ok (.getfield 25, 3) := by decide +kernel
theorem dX7_notMoved_89 : decode cX7_notMoved 89 = .ok (.iload_n 3, 1) := by decide +kernel
theorem dX7_notMoved_90 : decode cX7_notMoved 90 = .ok (.iaload, 1) := by decide +kernel
theorem dX7_notMoved_91 : decode cX7_notMoved 91 = .ok (.iload 4, 2) := by decide +kernel
theorem dX7_notMoved_93 : decode cX7_notMoved 93 = .ok (.isub, 1) := by decide +kernel
theorem dX7_notMoved_94 : decode cX7_notMoved 94 = .ok (.if_icmp .gt 7, 3) := by decide +kernel
theorem dX7_notMoved_97 : decode cX7_notMoved 97 = .ok (.iconst 1, 1) := by decide +kernel
theorem dX7_notMoved_98 : decode cX7_notMoved 98 = .ok (.goto 4, 3) := by decide +kernel
theorem dX7_notMoved_101 : decode cX7_notMoved 101 = .ok (.iconst 0, 1) := by decide +kernel
theorem dX7_notMoved_102 : decode cX7_notMoved 102 = .ok (.istore 6, 2) := by decide +kernel
theorem dX7_notMoved_104 : decode cX7_notMoved 104 = .ok (.iload 6, 2) := by decide +kernel
theorem dX7_notMoved_106 : decode cX7_notMoved 106 = .ok (.ifCond .eq 7, 3) := by decide +kernel
theorem dX7_notMoved_109 : decode cX7_notMoved 109 = .ok (.iconst 0, 1) := by decide +kernel
theorem dX7_notMoved_110 : decode cX7_notMoved 110 = .ok (.goto 5, 3) := by decide +kernel
theorem dX7_notMoved_113 : decode cX7_notMoved 113 = .ok (.ldc 80, 2) := by decide +kernel
theorem dX7_notMoved_115 : decode cX7_notMoved 115 = .ok (.ireturn, 1) := by decide +kernel
theorem dX7_move_0 : decode cX7_move 0 = .ok (.aload_n 0, 1) := by decide +kernel
theorem dX7_move_1 : decode cX7_move 1 = .ok (.iload_n 1, 1) := by decide +kernel
theorem dX7_move_2 : decode cX7_move 2 = .ok (.iload_n 2, 1) := by decide +kernel
theorem dX7_move_3 : decode cX7_move 3 = .ok (.iload_n 3, 1) := by decide +kernel
theorem dX7_move_4 : decode cX7_move 4 = .ok (.iload 4, 2) := by decide +kernel
theorem dX7_move_6 : decode cX7_move 6 = .ok (.iload 5, 2) := by decide +kernel
theorem dX7_move_8 : decode cX7_move 8 = .ok (.invokevirtual 260, 3) := by decide +kernel
theorem dX7_move_11 : decode cX7_move 11 = .ok (.istore 6, 2) := by decide +kernel
theorem dX7_move_13 : decode cX7_move 13 = .ok (.iload 6, 2) := by decide +kernel
theorem dX7_move_15 : decode cX7_move 15 = .ok (.ifCond .eq 10, 3) := by decide +kernel
theorem dX7_move_18 : decode cX7_move 18 = .ok (.aload_n 0, 1) := by decide +kernel
theorem dX7_move_19 : decode cX7_move 19 = .ok (.iload 6, 2) := by decide +kernel
theorem dX7_move_21 : decode cX7_move 21 = .ok (.invokevirtual 81, 3) := by decide +kernel
theorem dX7_move_24 : decode cX7_move 24 = .ok (.ireturn, 1) := by decide +kernel
theorem dX7_move_25 : decode cX7_move 25 = .ok (.iconst 0, 1) := by decide +kernel
theorem dX7_move_26 : decode cX7_move 26 = .ok (.istore 7, 2) := by decide +kernel
theorem dX7_move_28 : decode cX7_move 28 = .ok (.iload 7, 2) := by decide +kernel
theorem dX7_move_30 : decode cX7_move 30 = .ok (.iload 5, 2) := by decide +kernel
theorem dX7_move_32 : decode cX7_move 32 = .ok (.if_icmp .ge 58, 3) := by decide +kernel
theorem dX7_move_35 : decode cX7_move 35 = .ok (.iload_n 2, 1) := by decide +kernel
theorem dX7_move_36 : decode cX7_move 36 = .ok (.iload 4, 2) := by decide +kernel
theorem dX7_move_38 : decode cX7_move 38 = .ok (.if_icmp .ge 13, 3) := by decide +kernel
theorem dX7_move_41 : decode cX7_move 41 = .ok (.iload 5, 2) := by decide +kernel
theorem dX7_move_43 : decode cX7_move 43 = .ok (.iconst 1, 1) := by decide +kernel
theorem dX7_move_44 : decode cX7_move 44 = .ok (.isub, 1) := by decide +kernel
theorem dX7_move_45 : decode cX7_move 45 = .ok (.iload 7, 2) := by decide +kernel
theorem dX7_move_47 : decode cX7_move 47 = .ok (.isub, 1) := by decide +kernel
theorem dX7_move_48 : decode cX7_move 48 = .ok (.goto 5, 3) := by decide +kernel
theorem dX7_move_51 : decode cX7_move 51 = .ok (.iload 7, 2) := by decide +kernel
theorem dX7_move_53 : decode cX7_move 53 = .ok (.istore 8, 2) := by decide +kernel
theorem dX7_move_55 : decode cX7_move 55 = .ok (.aload_n 0, 1) := by decide +kernel
theorem dX7_move_56 : decode cX7_move 56 = .ok (.getfield 28, 3) := by decide +kernel
theorem dX7_move_59 : decode cX7_move 59 = .ok (.bipush 24, 2) := by decide +kernel
theorem dX7_move_61 : decode cX7_move 61 = .ok (.iload_n 3, 1) := by decide +kernel
theorem dX7_move_62 : decode cX7_move 62 = .ok (.imul, 1) := by decide +kernel
theorem dX7_move_63 : decode cX7_move 63 = .ok (.iload 4, 2) := by decide +kernel
theorem dX7_move_65 : decode cX7_move 65 = .ok (.iadd, 1) := by decide +kernel
theorem dX7_move_66 : decode cX7_move 66 = .ok (.iload 8, 2) := by decide +kernel
theorem dX7_move_68 : decode cX7_move 68 = .ok (.iadd, 1) := by decide +kernel
theorem dX7_move_69 : decode cX7_move 69 = .ok (.aload_n 0, 1) := by decide +kernel
theorem dX7_move_70 : decode cX7_move 70 = .ok (.getfield 28, 3) := by decide +kernel
theorem dX7_move_73 : decode cX7_move 73 = .ok (.bipush 24, 2) := by decide +kernel
theorem dX7_move_75 : decode cX7_move 75 = .ok (.iload_n 1, 1) := by decide +kernel
theorem dX7_move_76 : decode cX7_move 76 = .ok (.imul, 1) := by decide +kernel
theorem dX7_move_77 : decode cX7_move 77 = .ok (.iload_n 2, 1) := by decide +kernel
theorem dX7_move_78 : decode cX7_move 78 = .ok (.iadd, 1) := by decide +kernel
theorem dX7_move_79 : decode cX7_move 79 = .ok (.iload 8, 2) := by decide +kernel
theorem dX7_move_81 : decode cX7_move 81 = .ok (.iadd, 1) := by decide +kernel
theorem dX7_move_82 : decode cX7_move 82 = .ok (.iaload, 1) := by decide +kernel
theorem dX7_move_83 : decode cX7_move 83 = .ok (.iastore, 1) := by decide +kernel
theorem dX7_move_84 : decode cX7_move 84 = .ok (.iinc 7 1, 3) := by decide +kernel
theorem dX7_move_87 : decode cX7_move 87 = .ok (.goto (-59), 3) := by decide +kernel
theorem dX7_move_90 : decode cX7_move 90 = .ok (.iload 5, 2) := by decide +kernel
theorem dX7_move_92 : decode cX7_move 92 = .ok (.ireturn, 1) := by decide +kernel
theorem dX7_soaks_0 : decode cX7_soaks 0 = .ok (.aload_n 0, 1) := by decide +kernel
theorem dX7_soaks_1 : decode cX7_soaks 1 = .ok (.iload_n 1, 1) := by decide +kernel
theorem dX7_soaks_2 : decode cX7_soaks 2 = .ok (.invokevirtual 211, 3) := by decide +kernel
theorem dX7_soaks_5 : decode cX7_soaks 5 = .ok (.istore_n 2, 1) := by decide +kernel
theorem dX7_soaks_6 : decode cX7_soaks 6 = .ok (.iload_n 2, 1) := by decide +kernel
theorem dX7_soaks_7 : decode cX7_soaks 7 = .ok (.ifCond .eq 9, 3) := by decide +kernel
theorem dX7_soaks_10 : decode cX7_soaks 10 = .ok (.aload_n 0, 1) := by decide +kernel
theorem dX7_soaks_11 : decode cX7_soaks 11 = .ok (.iload_n 2, 1) := by decide +kernel
theorem dX7_soaks_12 : decode cX7_soaks 12 = .ok (.invokevirtual 81, 3) := by decide +kernel
theorem dX7_soaks_15 : decode cX7_soaks 15 = .ok (.ireturn, 1) := by decide +kernel
theorem dX7_soaks_16 : decode cX7_soaks 16 = .ok (.iconst 0, 1) := by decide +kernel
theorem dX7_soaks_17 : decode cX7_soaks 17 = .ok (.istore_n 3, 1) := by decide +kernel
theorem dX7_soaks_18 : decode cX7_soaks 18 = .ok (.iload_n 3, 1) := by decide +kernel
theorem dX7_soaks_19 : decode cX7_soaks 19 = .ok (.aload_n 0, 1) := by decide +kernel
theorem dX7_soaks_20 : decode cX7_soaks 20 = .ok (.getfield 25, 3) := by decide +kernel
theorem dX7_soaks_23 : decode cX7_soaks 23 = .ok (.iload_n 1, 1) := by decide +kernel
theorem dX7_soaks_24 : decode cX7_soaks 24 = .ok (.iaload, 1) := by decide +kernel
theorem dX7_soaks_25 : decode cX7_soaks 25 = .ok (.if_icmp .ge 56, 3) := by decide +kernel
theorem dX7_soaks_28 : decode cX7_soaks 28 = .ok (.iload_n 3, 1) := by decide +kernel
theorem dX7_soaks_29 : decode cX7_soaks 29 = .ok (.aload_n 0, 1) := by decide +kernel
theorem dX7_soaks_30 : decode cX7_soaks 30 = .ok (.getfield 9, 3) := by decide +kernel
theorem dX7_soaks_33 : decode cX7_soaks 33 = .ok (.iconst 2, 1) := by decide +kernel
theorem dX7_soaks_34 : decode cX7_soaks 34 = .ok (.iaload, 1) := by decide +kernel
theorem dX7_soaks_35 : decode cX7_soaks 35 = .ok (.if_icmp .ge 46, 3) := by decide +kernel
theorem dX7_soaks_38 : decode cX7_soaks 38 = .ok (.aload_n 0, 1) := by decide +kernel
theorem dX7_soaks_39 : decode cX7_soaks 39 = .ok (.getfield 28, 3) := by decide +kernel
theorem dX7_soaks_42 : decode cX7_soaks 42 = .ok (.bipush 24, 2) := by decide +kernel
theorem dX7_soaks_44 : decode cX7_soaks 44 = .ok (.iload_n 1, 1) := by decide +kernel
theorem dX7_soaks_45 : decode cX7_soaks 45 = .ok (.imul, 1) := by decide +kernel
theorem dX7_soaks_46 : decode cX7_soaks 46 = .ok (.iload_n 3, 1) := by decide +kernel
theorem dX7_soaks_47 : decode cX7_soaks 47 = .ok (.iadd, 1) := by decide +kernel
theorem dX7_soaks_48 : decode cX7_soaks 48 = .ok (.iaload, 1) := by decide +kernel
theorem dX7_soaks_49 : decode cX7_soaks 49 = .ok (.iconst 0, 1) := by decide +kernel
theorem dX7_soaks_50 : decode cX7_soaks 50 = .ok (.bipush 9, 2) := by decide +kernel
theorem dX7_soaks_52 : decode cX7_soaks 52 = .ok (.invokestatic 54, 3) := by decide +kernel
theorem dX7_soaks_55 : decode cX7_soaks 55 = .ok (.ifCond .eq 26, 3) := by decide +kernel
theorem dX7_soaks_58 : decode cX7_soaks 58 = .ok (.aload_n 0, 1) := by decide +kernel
theorem dX7_soaks_59 : decode cX7_soaks 59 = .ok (.iload_n 3, 1) := by decide +kernel
theorem dX7_soaks_60 : decode cX7_soaks 60 = .ok (.iconst 5, 1) := by decide +kernel
theorem dX7_soaks_61 : decode cX7_soaks 61 = .ok (.aload_n 0, 1) := by decide +kernel
theorem dX7_soaks_62 : decode cX7_soaks 62 = .ok (.getfield 28, 3) := by decide +kernel
theorem dX7_soaks_65 : decode cX7_soaks 65 = .ok (.bipush 24, 2) := by decide +kernel
theorem dX7_soaks_67 : decode cX7_soaks 67 = .ok (.iload_n 1, 1) := by decide +kernel
theorem dX7_soaks_68 : decode cX7_soaks 68 = .ok (.imul, 1) := by decide +kernel
theorem dX7_soaks_69 : decode cX7_soaks 69 = .ok (.iload_n 3, 1) := by decide +kernel
theorem dX7_soaks_70 : decode cX7_soaks 70 = .ok (.iadd, 1) := by decide +kernel
theorem dX7_soaks_71 : decode cX7_soaks 71 = .ok (.iaload, 1) := by decide +kernel
theorem dX7_soaks_72 : decode cX7_soaks 72 = .ok (.invokevirtual 86, 3) := by decide +kernel
theorem dX7_soaks_75 : decode cX7_soaks 75 = .ok (.iinc 3 1, 3) := by decide +kernel
theorem dX7_soaks_78 : decode cX7_soaks 78 = .ok (.goto (-60), 3) := by decide +kernel
theorem dX7_soaks_81 : decode cX7_soaks 81 = .ok (.iload_n 3, 1) := by decide +kernel
theorem dX7_soaks_82 : decode cX7_soaks 82 = .ok (.ireturn, 1) := by decide +kernel
theorem dX7_judge_0 : decode cX7_judge 0 = .ok (.aload_n 0, 1) := by decide +kernel
theorem dX7_judge_1 : decode cX7_judge 1 = .ok (.iload_n 1, 1) := by decide +kernel
theorem dX7_judge_2 : decode cX7_judge 2 = .ok (.invokevirtual 211, 3) := by decide +kernel
theorem dX7_judge_5 : decode cX7_judge 5 = .ok (.istore_n 2, 1) := by decide +kernel
theorem dX7_judge_6 : decode cX7_judge 6 = .ok (.iload_n 2, 1) := by decide +kernel
theorem dX7_judge_7 : decode cX7_judge 7 = .ok (.ifCond .eq 11, 3) := by decide +kernel
theorem dX7_judge_10 : decode cX7_judge 10 = .ok (.aload_n 0, 1) := by decide +kernel
theorem dX7_judge_11 : decode cX7_judge 11 = .ok (.iload_n 2, 1) := by decide +kernel
theorem dX7_judge_12 : decode cX7_judge 12 = .ok (.invokevirtual 81, 3) := by decide +kernel
theorem dX7_judge_15 : decode cX7_judge 15 = .ok (.goto 8, 3) := by decide +kernel
theorem dX7_judge_18 : decode cX7_judge 18 = .ok (.aload_n 0, 1) := by decide +kernel
theorem dX7_judge_19 : decode cX7_judge 19 = .ok (.iload_n 1, 1) := by decide +kernel
theorem dX7_judge_20 : decode cX7_judge 20 = .ok (.invokevirtual 214, 3) := by decide +kernel
theorem dX7_judge_23 : decode cX7_judge 23 = .ok (.ireturn, 1) := by decide +kernel
theorem dX7_image_0 : decode cX7_image 0 = .ok (.aload_n 0, 1) := by decide +kernel
theorem dX7_image_1 : decode cX7_image 1 = .ok (.getfield 9, 3) := by decide +kernel
theorem dX7_image_4 : decode cX7_image 4 = .ok (.aload_n 0, 1) := by decide +kernel
theorem dX7_image_5 : decode cX7_image 5 = .ok (.getfield 13, 3) := by decide +kernel
theorem dX7_image_8 : decode cX7_image 8 = .ok (.invokestatic 50, 3) := by decide +kernel
theorem dX7_image_11 : decode cX7_image 11 = .ok (.aload_n 0, 1) := by decide +kernel
theorem dX7_image_12 : decode cX7_image 12 = .ok (.dup, 1) := by decide +kernel
theorem dX7_image_13 : decode cX7_image 13 = .ok (.getfield 264, 3) := by decide +kernel
theorem dX7_image_16 : decode cX7_image 16 = .ok (.iconst 1, 1) := by decide +kernel
theorem dX7_image_17 : decode cX7_image 17 = .ok (.iadd, 1) := by decide +kernel
theorem dX7_image_18 : decode cX7_image 18 = .ok (.putfield 264, 3) := by decide +kernel
theorem dX7_image_21 : decode cX7_image 21 = .ok (.aload_n 0, 1) := by decide +kernel
theorem dX7_image_22 : decode cX7_image 22 = .ok (.getfield 264, 3) := by decide +kernel
theorem dX7_image_25 : decode cX7_image 25 = .ok (.ireturn, 1) := by decide +kernel
theorem dX7_restore_0 : decode cX7_restore 0 = .ok (.aload_n 0, 1) := by decide +kernel
theorem dX7_restore_1 : decode cX7_restore 1 = .ok (.getfield 264, 3) := by decide +kernel
theorem dX7_restore_4 : decode cX7_restore 4 = .ok (.ifCond .ne 10, 3) := by decide +kernel
theorem dX7_restore_7 : decode cX7_restore 7 = .ok (.aload_n 0, 1) := by decide +kernel
theorem dX7_restore_8 : decode cX7_restore 8 = .ok (.ldc 195, 2) := by decide +kernel
theorem dX7_restore_10 : decode cX7_restore 10 = .ok (.invokevirtual 81, 3) := by decide +kernel
theorem dX7_restore_13 : decode cX7_restore 13 = .ok (.ireturn, 1) := by decide +kernel
theorem dX7_restore_14 : decode cX7_restore 14 = .ok (.aload_n 0, 1) := by decide +kernel
theorem dX7_restore_15 : decode cX7_restore 15 = .ok (.getfield 13, 3) := by decide +kernel
theorem dX7_restore_18 : decode cX7_restore 18 = .ok (.aload_n 0, 1) := by decide +kernel
theorem dX7_restore_19 : decode cX7_restore 19 = .ok (.getfield 9, 3) := by decide +kernel
theorem dX7_restore_22 : decode cX7_restore 22 = .ok (.invokestatic 50, 3) := by decide +kernel
theorem dX7_restore_25 : decode cX7_restore 25 = .ok (.aload_n 0, 1) := by decide +kernel
theorem dX7_restore_26 : decode cX7_restore 26 = .ok (.getfield 9, 3) := by decide +kernel
theorem dX7_restore_29 : decode cX7_restore 29 = .ok (.iconst 0, 1) := by decide +kernel
theorem dX7_restore_30 : decode cX7_restore 30 = .ok (.iaload, 1) := by decide +kernel
theorem dX7_restore_31 : decode cX7_restore 31 = .ok (.ireturn, 1) := by decide +kernel
theorem dX7_tell_0 : decode cX7_tell 0 = .ok (.aload_n 0, 1) := by decide +kernel
theorem dX7_tell_1 : decode cX7_tell 1 = .ok (.getfield 9, 3) := by decide +kernel
theorem dX7_tell_4 : decode cX7_tell 4 = .ok (.bipush 8, 2) := by decide +kernel
theorem dX7_tell_6 : decode cX7_tell 6 = .ok (.iaload, 1) := by decide +kernel
theorem dX7_tell_7 : decode cX7_tell 7 = .ok (.bipush 24, 2) := by decide +kernel
theorem dX7_tell_9 : decode cX7_tell 9 = .ok (.if_icmp .ne 10, 3) := by decide +kernel
theorem dX7_tell_12 : decode cX7_tell 12 = .ok (.aload_n 0, 1) := by decide +kernel
theorem dX7_tell_13 : decode cX7_tell 13 = .ok (.ldc 85, 2) := by decide +kernel
theorem dX7_tell_15 : decode cX7_tell 15 = .ok (.invokevirtual 81, 3) := by decide +kernel
theorem dX7_tell_18 : decode cX7_tell 18 = .ok (.ireturn, 1) := by decide +kernel
theorem dX7_tell_19 : decode cX7_tell 19 = .ok (.aload_n 0, 1) := by decide +kernel
theorem dX7_tell_20 : decode cX7_tell 20 = .ok (.getfield 9, 3) := by decide +kernel
theorem dX7_tell_23 : decode cX7_tell 23 = .ok (.sipush 132, 3) := by decide +kernel
theorem dX7_tell_26 : decode cX7_tell 26 = .ok (.aload_n 0, 1) := by decide +kernel
theorem dX7_tell_27 : decode cX7_tell 27 = .ok (.getfield 9, 3) := by decide +kernel
theorem dX7_tell_30 : decode cX7_tell 30 = .ok (.bipush 8, 2) := by decide +kernel
theorem dX7_tell_32 : decode cX7_tell 32 = .ok (.iaload, 1) := by decide +kernel
theorem dX7_tell_33 : decode cX7_tell 33 = .ok (.iadd, 1) := by decide +kernel
theorem dX7_tell_34 : decode cX7_tell 34 = .ok (.iload_n 1, 1) := by decide +kernel
theorem dX7_tell_35 : decode cX7_tell 35 = .ok (.iastore, 1) := by decide +kernel
theorem dX7_tell_36 : decode cX7_tell 36 = .ok (.aload_n 0, 1) := by decide +kernel
theorem dX7_tell_37 : decode cX7_tell 37 = .ok (.getfield 9, 3) := by decide +kernel
theorem dX7_tell_40 : decode cX7_tell 40 = .ok (.bipush 8, 2) := by decide +kernel
theorem dX7_tell_42 : decode cX7_tell 42 = .ok (.dup2, 1) := by decide +kernel
theorem dX7_tell_43 : decode cX7_tell 43 = .ok (.iaload, 1) := by decide +kernel
theorem dX7_tell_44 : decode cX7_tell 44 = .ok (.iconst 1, 1) := by decide +kernel
theorem dX7_tell_45 : decode cX7_tell 45 = .ok (.iadd, 1) := by decide +kernel
theorem dX7_tell_46 : decode cX7_tell 46 = .ok (.iastore, 1) := by decide +kernel
theorem dX7_tell_47 : decode cX7_tell 47 = .ok (.aload_n 0, 1) := by decide +kernel
theorem dX7_tell_48 : decode cX7_tell 48 = .ok (.getfield 9, 3) := by decide +kernel
theorem dX7_tell_51 : decode cX7_tell 51 = .ok (.bipush 8, 2) := by decide +kernel
theorem dX7_tell_53 : decode cX7_tell 53 = .ok (.iaload, 1) := by decide +kernel
theorem dX7_tell_54 : decode cX7_tell 54 = .ok (.ireturn, 1) := by decide +kernel
theorem dX7_check_0 : decode cX7_check 0 = .ok (.aload_n 0, 1) := by decide +kernel
theorem dX7_check_1 : decode cX7_check 1 = .ok (.getfield 9, 3) := by decide +kernel
theorem dX7_check_4 : decode cX7_check 4 = .ok (.bipush 8, 2) := by decide +kernel
theorem dX7_check_6 : decode cX7_check 6 = .ok (.iaload, 1) := by decide +kernel
theorem dX7_check_7 : decode cX7_check 7 = .ok (.istore_n 1, 1) := by decide +kernel
theorem dX7_check_8 : decode cX7_check 8 = .ok (.aload_n 0, 1) := by decide +kernel
theorem dX7_check_9 : decode cX7_check 9 = .ok (.getfield 9, 3) := by decide +kernel
theorem dX7_check_12 : decode cX7_check 12 = .ok (.bipush 8, 2) := by decide +kernel
theorem dX7_check_14 : decode cX7_check 14 = .ok (.iconst 0, 1) := by decide +kernel
theorem dX7_check_15 : decode cX7_check 15 = .ok (.iastore, 1) := by decide +kernel
theorem dX7_check_16 : decode cX7_check 16 = .ok (.iconst 0, 1) := by decide +kernel
theorem dX7_check_17 : decode cX7_check 17 = .ok (.istore_n 2, 1) := by decide +kernel
theorem dX7_check_18 : decode cX7_check 18 = .ok (.iload_n 2, 1) := by decide +kernel
theorem dX7_check_19 : decode cX7_check 19 = .ok (.iload_n 1, 1) := by decide +kernel
theorem dX7_check_20 : decode cX7_check 20 = .ok (.if_icmp .ge 40, 3) := by decide +kernel
theorem dX7_check_23 : decode cX7_check 23 = .ok (.aload_n 0, 1) := by decide +kernel
theorem dX7_check_24 : decode cX7_check 24 = .ok (.iload_n 2, 1) := by decide +kernel
theorem dX7_check_25 : decode cX7_check 25 = .ok (.invokevirtual 90, 3) := by decide +kernel
theorem dX7_check_28 : decode cX7_check 28 = .ok (.ifCond .eq 22, 3) := by decide +kernel
theorem dX7_check_31 : decode cX7_check 31 = .ok (.aload_n 0, 1) := by decide +kernel
theorem dX7_check_32 : decode cX7_check 32 = .ok (.getfield 9, 3) := by decide +kernel
theorem dX7_check_35 : decode cX7_check 35 = .ok (.sipush 132, 3) := by decide +kernel
theorem dX7_check_38 : decode cX7_check 38 = .ok (.iload_n 2, 1) := by decide +kernel
theorem dX7_check_39 : decode cX7_check 39 = .ok (.iadd, 1) := by decide +kernel
theorem dX7_check_40 : decode cX7_check 40 = .ok (.iaload, 1) := by decide +kernel
theorem dX7_check_41 : decode cX7_check 41 = .ok (.aload_n 0, 1) := by decide +kernel
theorem dX7_check_42 : decode cX7_check 42 = .ok (.iload_n 2, 1) := by decide +kernel
theorem dX7_check_43 : decode cX7_check 43 = .ok (.iconst 4, 1) := by decide +kernel
theorem dX7_check_44 : decode cX7_check 44 = .ok (.invokevirtual 62, 3) := by decide +kernel
theorem dX7_check_47 : decode cX7_check 47 = .ok (.if_icmp .eq 7, 3) := by decide +kernel
theorem dX7_check_50 : decode cX7_check 50 = .ok (.iconst 1, 1) := by decide +kernel
theorem dX7_check_51 : decode cX7_check 51 = .ok (.iload_n 2, 1) := by decide +kernel
theorem dX7_check_52 : decode cX7_check 52 = .ok (.iadd, 1) := by decide +kernel
theorem dX7_check_53 : decode cX7_check 53 = .ok (.ireturn, 1) := by decide +kernel
theorem dX7_check_54 : decode cX7_check 54 = .ok (.iinc 2 1, 3) := by decide +kernel
theorem dX7_check_57 : decode cX7_check 57 = .ok (.goto (-39), 3) := by decide +kernel
theorem dX7_check_60 : decode cX7_check 60 = .ok (.iconst 0, 1) := by decide +kernel
theorem dX7_check_61 : decode cX7_check 61 = .ok (.ireturn, 1) := by decide +kernel
theorem dX7_count_0 : decode cX7_count 0 = .ok (.iload_n 1, 1) := by decide +kernel
theorem dX7_count_1 : decode cX7_count 1 = .ok (.tableswitch 126 0 9 #[55, 62, 69, 76, 83, 90, 98, 106, 114, 119], 55) := by decide +kernel
theorem dX7_count_56 : decode cX7_count 56 = .ok (.aload_n 0, 1) := by decide +kernel
theorem dX7_count_57 : decode cX7_count 57 = .ok (.getfield 9, 3) := by decide +kernel
theorem dX7_count_60 : decode cX7_count 60 = .ok (.iconst 2, 1) := by decide +kernel
theorem dX7_count_61 : decode cX7_count 61 = .ok (.iaload, 1) := by decide +kernel
theorem dX7_count_62 : decode cX7_count 62 = .ok (.ireturn, 1) := by decide +kernel
theorem dX7_count_63 : decode cX7_count 63 = .ok (.aload_n 0, 1) := by decide +kernel
theorem dX7_count_64 : decode cX7_count 64 = .ok (.getfield 9, 3) := by decide +kernel
theorem dX7_count_67 : decode cX7_count 67 = .ok (.iconst 0, 1) := by decide +kernel
theorem dX7_count_68 : decode cX7_count 68 = .ok (.iaload, 1) := by decide +kernel
theorem dX7_count_69 : decode cX7_count 69 = .ok (.ireturn, 1) := by decide +kernel
theorem dX7_count_70 : decode cX7_count 70 = .ok (.aload_n 0, 1) := by decide +kernel
theorem dX7_count_71 : decode cX7_count 71 = .ok (.getfield 9, 3) := by decide +kernel
theorem dX7_count_74 : decode cX7_count 74 = .ok (.iconst 4, 1) := by decide +kernel
theorem dX7_count_75 : decode cX7_count 75 = .ok (.iaload, 1) := by decide +kernel
theorem dX7_count_76 : decode cX7_count 76 = .ok (.ireturn, 1) := by decide +kernel
theorem dX7_count_77 : decode cX7_count 77 = .ok (.aload_n 0, 1) := by decide +kernel
theorem dX7_count_78 : decode cX7_count 78 = .ok (.getfield 9, 3) := by decide +kernel
theorem dX7_count_81 : decode cX7_count 81 = .ok (.iconst 3, 1) := by decide +kernel
theorem dX7_count_82 : decode cX7_count 82 = .ok (.iaload, 1) := by decide +kernel
theorem dX7_count_83 : decode cX7_count 83 = .ok (.ireturn, 1) := by decide +kernel
theorem dX7_count_84 : decode cX7_count 84 = .ok (.aload_n 0, 1) := by decide +kernel
theorem dX7_count_85 : decode cX7_count 85 = .ok (.getfield 9, 3) := by decide +kernel
theorem dX7_count_88 : decode cX7_count 88 = .ok (.iconst 5, 1) := by decide +kernel
theorem dX7_count_89 : decode cX7_count 89 = .ok (.iaload, 1) := by decide +kernel
theorem dX7_count_90 : decode cX7_count 90 = .ok (.ireturn, 1) := by decide +kernel
theorem dX7_count_91 : decode cX7_count 91 = .ok (.aload_n 0, 1) := by decide +kernel
theorem dX7_count_92 : decode cX7_count 92 = .ok (.getfield 9, 3) := by decide +kernel
theorem dX7_count_95 : decode cX7_count 95 = .ok (.bipush 6, 2) := by decide +kernel
theorem dX7_count_97 : decode cX7_count 97 = .ok (.iaload, 1) := by decide +kernel
theorem dX7_count_98 : decode cX7_count 98 = .ok (.ireturn, 1) := by decide +kernel
theorem dX7_count_99 : decode cX7_count 99 = .ok (.aload_n 0, 1) := by decide +kernel
theorem dX7_count_100 : decode cX7_count 100 = .ok (.getfield 9, 3) := by decide +kernel
theorem dX7_count_103 : decode cX7_count 103 = .ok (.bipush 7, 2) := by decide +kernel
theorem dX7_count_105 : decode cX7_count 105 = .ok (.iaload, 1) := by decide +kernel
theorem dX7_count_106 : decode cX7_count 106 = .ok (.ireturn, 1) := by decide +kernel
theorem dX7_count_107 : decode cX7_count 107 = .ok (.aload_n 0, 1) := by decide +kernel
theorem dX7_count_108 : decode cX7_count 108 = .ok (.getfield 9, 3) := by decide +kernel
theorem dX7_count_111 : decode cX7_count 111 = .ok (.bipush 8, 2) := by decide +kernel
theorem dX7_count_113 : decode cX7_count 113 = .ok (.iaload, 1) := by decide +kernel
theorem dX7_count_114 : decode cX7_count 114 = .ok (.ireturn, 1) := by decide +kernel
theorem dX7_count_115 : decode cX7_count 115 = .ok (.aload_n 0, 1) := by decide +kernel
theorem dX7_count_116 : decode cX7_count 116 = .ok (.getfield 217, 3) := by decide +kernel
theorem dX7_count_119 : decode cX7_count 119 = .ok (.ireturn, 1) := by decide +kernel
theorem dX7_count_120 : decode cX7_count 120 = .ok (.aload_n 0, 1) := by decide +kernel
theorem dX7_count_121 : decode cX7_count 121 = .ok (.getfield 9, 3) := by decide +kernel
theorem dX7_count_124 : decode cX7_count 124 = .ok (.iconst 1, 1) := by decide +kernel
theorem dX7_count_125 : decode cX7_count 125 = .ok (.iaload, 1) := by decide +kernel
theorem dX7_count_126 : decode cX7_count 126 = .ok (.ireturn, 1) := by decide +kernel
theorem dX7_count_127 : decode cX7_count 127 = .ok (.aload_n 0, 1) := by decide +kernel
theorem dX7_count_128 : decode cX7_count 128 = .ok (.ldc 80, 2) := by decide +kernel
theorem dX7_count_130 : decode cX7_count 130 = .ok (.invokevirtual 81, 3) := by decide +kernel
theorem dX7_count_133 : decode cX7_count 133 = .ok (.ireturn, 1) := by decide +kernel
theorem dX7_told_0 : decode cX7_told 0 = .ok (.iload_n 1, 1) := by decide +kernel
theorem dX7_told_1 : decode cX7_told 1 = .ok (.iconst 1, 1) := by decide +kernel
theorem dX7_told_2 : decode cX7_told 2 = .ok (.bipush 6, 2) := by decide +kernel
theorem dX7_told_4 : decode cX7_told 4 = .ok (.invokestatic 54, 3) := by decide +kernel
theorem dX7_told_7 : decode cX7_told 7 = .ok (.ifCond .eq 12, 3) := by decide +kernel
theorem dX7_told_10 : decode cX7_told 10 = .ok (.aload_n 0, 1) := by decide +kernel
theorem dX7_told_11 : decode cX7_told 11 = .ok (.getfield 19, 3) := by decide +kernel
theorem dX7_told_14 : decode cX7_told 14 = .ok (.iload_n 1, 1) := by decide +kernel
theorem dX7_told_15 : decode cX7_told 15 = .ok (.iaload, 1) := by decide +kernel
theorem dX7_told_16 : decode cX7_told 16 = .ok (.goto 9, 3) := by decide +kernel
theorem dX7_told_19 : decode cX7_told 19 = .ok (.aload_n 0, 1) := by decide +kernel
theorem dX7_told_20 : decode cX7_told 20 = .ok (.ldc 80, 2) := by decide +kernel
theorem dX7_told_22 : decode cX7_told 22 = .ok (.invokevirtual 81, 3) := by decide +kernel
theorem dX7_told_25 : decode cX7_told 25 = .ok (.ireturn, 1) := by decide +kernel
end
section
theorem dL_law_0 : decode cL_law 0 = .ok (.new 7, 3) := by decide +kernel
theorem dL_law_3 : decode cL_law 3 = .ok (.dup, 1) := by decide +kernel
theorem dL_law_4 : decode cL_law 4 = .ok (.invokespecial 9, 3) := by decide +kernel
theorem dL_law_7 : decode cL_law 7 = .ok (.astore_n 1, 1) := by decide +kernel
theorem dL_law_8 : decode cL_law 8 = .ok (.new 10, 3) := by decide +kernel
theorem dL_law_11 : decode cL_law 11 = .ok (.dup, 1) := by decide +kernel
theorem dL_law_12 : decode cL_law 12 = .ok (.invokespecial 12, 3) := by decide +kernel
theorem dL_law_15 : decode cL_law 15 = .ok (.astore_n 2, 1) := by decide +kernel
theorem dL_law_16 : decode cL_law 16 = .ok (.iconst 0, 1) := by decide +kernel
theorem dL_law_17 : decode cL_law 17 = .ok (.istore_n 3, 1) := by decide +kernel
theorem dL_law_18 : decode cL_law 18 = .ok (.iload_n 3, 1) := by decide +kernel
theorem dL_law_19 : decode cL_law 19 = .ok (.aload_n 0, 1) := by decide +kernel
theorem dL_law_20 : decode cL_law 20 = .ok (.arraylength, 1) := by decide +kernel
theorem dL_law_21 : decode cL_law 21 = .ok (.bipush 6, 2) := by decide +kernel
theorem dL_law_23 : decode cL_law 23 = .ok (.isub, 1) := by decide +kernel
theorem dL_law_24 : decode cL_law 24 = .ok (.if_icmp .gt 1389, 3) := by decide +kernel
theorem dL_law_27 : decode cL_law 27 = .ok (.aload_n 0, 1) := by decide +kernel
theorem dL_law_28 : decode cL_law 28 = .ok (.iload_n 3, 1) := by decide +kernel
theorem dL_law_29 : decode cL_law 29 = .ok (.iaload, 1) := by decide +kernel
theorem dL_law_30 : decode cL_law 30 = .ok (.bipush 63, 2) := by decide +kernel
theorem dL_law_32 : decode cL_law 32 = .ok (.iand, 1) := by decide +kernel
theorem dL_law_33 : decode cL_law 33 = .ok (.tableswitch 1374 0 36 #[163, 206, 239, 272, 305, 338, 361, 384, 417, 450, 513, 536, 559, 612, 635, 658, 681, 714, 747, 800, 853, 896, 929, 982, 1005, 1048, 1071, 1114, 1157, 1220, 1243, 1266, 1279, 1292, 1315, 1328, 1351], 163) := by decide +kernel
theorem dL_law_196 : decode cL_law 196 = .ok (.aload_n 1, 1) := by decide +kernel
theorem dL_law_197 : decode cL_law 197 = .ok (.aload_n 0, 1) := by decide +kernel
theorem dL_law_198 : decode cL_law 198 = .ok (.iload_n 3, 1) := by decide +kernel
theorem dL_law_199 : decode cL_law 199 = .ok (.iconst 1, 1) := by decide +kernel
theorem dL_law_200 : decode cL_law 200 = .ok (.iadd, 1) := by decide +kernel
theorem dL_law_201 : decode cL_law 201 = .ok (.iaload, 1) := by decide +kernel
theorem dL_law_202 : decode cL_law 202 = .ok (.aload_n 0, 1) := by decide +kernel
theorem dL_law_203 : decode cL_law 203 = .ok (.iload_n 3, 1) := by decide +kernel
theorem dL_law_204 : decode cL_law 204 = .ok (.iconst 2, 1) := by decide +kernel
theorem dL_law_205 : decode cL_law 205 = .ok (.iadd, 1) := by decide +kernel
theorem dL_law_206 : decode cL_law 206 = .ok (.iaload, 1) := by decide +kernel
theorem dL_law_207 : decode cL_law 207 = .ok (.aload_n 0, 1) := by decide +kernel
theorem dL_law_208 : decode cL_law 208 = .ok (.iload_n 3, 1) := by decide +kernel
theorem dL_law_209 : decode cL_law 209 = .ok (.iconst 3, 1) := by decide +kernel
theorem dL_law_210 : decode cL_law 210 = .ok (.iadd, 1) := by decide +kernel
theorem dL_law_211 : decode cL_law 211 = .ok (.iaload, 1) := by decide +kernel
theorem dL_law_212 : decode cL_law 212 = .ok (.invokevirtual 13, 3) := by decide +kernel
theorem dL_law_215 : decode cL_law 215 = .ok (.aload_n 2, 1) := by decide +kernel
theorem dL_law_216 : decode cL_law 216 = .ok (.aload_n 0, 1) := by decide +kernel
theorem dL_law_217 : decode cL_law 217 = .ok (.iload_n 3, 1) := by decide +kernel
theorem dL_law_218 : decode cL_law 218 = .ok (.iconst 1, 1) := by decide +kernel
theorem dL_law_219 : decode cL_law 219 = .ok (.iadd, 1) := by decide +kernel
theorem dL_law_220 : decode cL_law 220 = .ok (.iaload, 1) := by decide +kernel
theorem dL_law_221 : decode cL_law 221 = .ok (.aload_n 0, 1) := by decide +kernel
theorem dL_law_222 : decode cL_law 222 = .ok (.iload_n 3, 1) := by decide +kernel
theorem dL_law_223 : decode cL_law 223 = .ok (.iconst 2, 1) := by decide +kernel
theorem dL_law_224 : decode cL_law 224 = .ok (.iadd, 1) := by decide +kernel
theorem dL_law_225 : decode cL_law 225 = .ok (.iaload, 1) := by decide +kernel
theorem dL_law_226 : decode cL_law 226 = .ok (.aload_n 0, 1) := by decide +kernel
theorem dL_law_227 : decode cL_law 227 = .ok (.iload_n 3, 1) := by decide +kernel
theorem dL_law_228 : decode cL_law 228 = .ok (.iconst 3, 1) := by decide +kernel
theorem dL_law_229 : decode cL_law 229 = .ok (.iadd, 1) := by decide +kernel
theorem dL_law_230 : decode cL_law 230 = .ok (.iaload, 1) := by decide +kernel
theorem dL_law_231 : decode cL_law 231 = .ok (.invokevirtual 17, 3) := by decide +kernel
theorem dL_law_234 : decode cL_law 234 = .ok (.if_icmp .eq 1173, 3) := by decide +kernel
theorem dL_law_237 : decode cL_law 237 = .ok (.iconst 0, 1) := by decide +kernel
theorem dL_law_238 : decode cL_law 238 = .ok (.ireturn, 1) := by decide +kernel
theorem dL_law_239 : decode cL_law 239 = .ok (.aload_n 1, 1) := by decide +kernel
theorem dL_law_240 : decode cL_law 240 = .ok (.aload_n 0, 1) := by decide +kernel
theorem dL_law_241 : decode cL_law 241 = .ok (.iload_n 3, 1) := by decide +kernel
theorem dL_law_242 : decode cL_law 242 = .ok (.iconst 1, 1) := by decide +kernel
theorem dL_law_243 : decode cL_law 243 = .ok (.iadd, 1) := by decide +kernel
theorem dL_law_244 : decode cL_law 244 = .ok (.iaload, 1) := by decide +kernel
theorem dL_law_245 : decode cL_law 245 = .ok (.aload_n 0, 1) := by decide +kernel
theorem dL_law_246 : decode cL_law 246 = .ok (.iload_n 3, 1) := by decide +kernel
theorem dL_law_247 : decode cL_law 247 = .ok (.iconst 2, 1) := by decide +kernel
theorem dL_law_248 : decode cL_law 248 = .ok (.iadd, 1) := by decide +kernel
theorem dL_law_249 : decode cL_law 249 = .ok (.iaload, 1) := by decide +kernel
theorem dL_law_250 : decode cL_law 250 = .ok (.invokevirtual 18, 3) := by decide +kernel
theorem dL_law_253 : decode cL_law 253 = .ok (.aload_n 2, 1) := by decide +kernel
theorem dL_law_254 : decode cL_law 254 = .ok (.aload_n 0, 1) := by decide +kernel
theorem dL_law_255 : decode cL_law 255 = .ok (.iload_n 3, 1) := by decide +kernel
theorem dL_law_256 : decode cL_law 256 = .ok (.iconst 1, 1) := by decide +kernel
theorem dL_law_257 : decode cL_law 257 = .ok (.iadd, 1) := by decide +kernel
theorem dL_law_258 : decode cL_law 258 = .ok (.iaload, 1) := by decide +kernel
theorem dL_law_259 : decode cL_law 259 = .ok (.aload_n 0, 1) := by decide +kernel
theorem dL_law_260 : decode cL_law 260 = .ok (.iload_n 3, 1) := by decide +kernel
theorem dL_law_261 : decode cL_law 261 = .ok (.iconst 2, 1) := by decide +kernel
theorem dL_law_262 : decode cL_law 262 = .ok (.iadd, 1) := by decide +kernel
theorem dL_law_263 : decode cL_law 263 = .ok (.iaload, 1) := by decide +kernel
theorem dL_law_264 : decode cL_law 264 = .ok (.invokevirtual 22, 3) := by decide +kernel
theorem dL_law_267 : decode cL_law 267 = .ok (.if_icmp .eq 1140, 3) := by decide +kernel
theorem dL_law_270 : decode cL_law 270 = .ok (.iconst 0, 1) := by decide +kernel
theorem dL_law_271 : decode cL_law 271 = .ok (.ireturn, 1) := by decide +kernel
theorem dL_law_272 : decode cL_law 272 = .ok (.aload_n 1, 1) := by decide +kernel
theorem dL_law_273 : decode cL_law 273 = .ok (.aload_n 0, 1) := by decide +kernel
theorem dL_law_274 : decode cL_law 274 = .ok (.iload_n 3, 1) := by decide +kernel
theorem dL_law_275 : decode cL_law 275 = .ok (.iconst 1, 1) := by decide +kernel
theorem dL_law_276 : decode cL_law 276 = .ok (.iadd, 1) := by decide +kernel
theorem dL_law_277 : decode cL_law 277 = .ok (.iaload, 1) := by decide +kernel
theorem dL_law_278 : decode cL_law 278 = .ok (.aload_n 0, 1) := by decide +kernel
theorem dL_law_279 : decode cL_law 279 = .ok (.iload_n 3, 1) := by decide +kernel
theorem dL_law_280 : decode cL_law 280 = .ok (.iconst 2, 1) := by decide +kernel
theorem dL_law_281 : decode cL_law 281 = .ok (.iadd, 1) := by decide +kernel
theorem dL_law_282 : decode cL_law 282 = .ok (.iaload, 1) := by decide +kernel
theorem dL_law_283 : decode cL_law 283 = .ok (.invokevirtual 23, 3) := by decide +kernel
theorem dL_law_286 : decode cL_law 286 = .ok (.aload_n 2, 1) := by decide +kernel
theorem dL_law_287 : decode cL_law 287 = .ok (.aload_n 0, 1) := by decide +kernel
theorem dL_law_288 : decode cL_law 288 = .ok (.iload_n 3, 1) := by decide +kernel
theorem dL_law_289 : decode cL_law 289 = .ok (.iconst 1, 1) := by decide +kernel
theorem dL_law_290 : decode cL_law 290 = .ok (.iadd, 1) := by decide +kernel
theorem dL_law_291 : decode cL_law 291 = .ok (.iaload, 1) := by decide +kernel
theorem dL_law_292 : decode cL_law 292 = .ok (.aload_n 0, 1) := by decide +kernel
theorem dL_law_293 : decode cL_law 293 = .ok (.iload_n 3, 1) := by decide +kernel
theorem dL_law_294 : decode cL_law 294 = .ok (.iconst 2, 1) := by decide +kernel
theorem dL_law_295 : decode cL_law 295 = .ok (.iadd, 1) := by decide +kernel
theorem dL_law_296 : decode cL_law 296 = .ok (.iaload, 1) := by decide +kernel
theorem dL_law_297 : decode cL_law 297 = .ok (.invokevirtual 26, 3) := by decide +kernel
theorem dL_law_300 : decode cL_law 300 = .ok (.if_icmp .eq 1107, 3) := by decide +kernel
theorem dL_law_303 : decode cL_law 303 = .ok (.iconst 0, 1) := by decide +kernel
theorem dL_law_304 : decode cL_law 304 = .ok (.ireturn, 1) := by decide +kernel
theorem dL_law_305 : decode cL_law 305 = .ok (.aload_n 1, 1) := by decide +kernel
theorem dL_law_306 : decode cL_law 306 = .ok (.aload_n 0, 1) := by decide +kernel
theorem dL_law_307 : decode cL_law 307 = .ok (.iload_n 3, 1) := by decide +kernel
theorem dL_law_308 : decode cL_law 308 = .ok (.iconst 1, 1) := by decide +kernel
theorem dL_law_309 : decode cL_law 309 = .ok (.iadd, 1) := by decide +kernel
theorem dL_law_310 : decode cL_law 310 = .ok (.iaload, 1) := by decide +kernel
theorem dL_law_311 : decode cL_law 311 = .ok (.aload_n 0, 1) := by decide +kernel
theorem dL_law_312 : decode cL_law 312 = .ok (.iload_n 3, 1) := by decide +kernel
theorem dL_law_313 : decode cL_law 313 = .ok (.iconst 2, 1) := by decide +kernel
theorem dL_law_314 : decode cL_law 314 = .ok (.iadd, 1) := by decide +kernel
theorem dL_law_315 : decode cL_law 315 = .ok (.iaload, 1) := by decide +kernel
theorem dL_law_316 : decode cL_law 316 = .ok (.invokevirtual 27, 3) := by decide +kernel
theorem dL_law_319 : decode cL_law 319 = .ok (.aload_n 2, 1) := by decide +kernel
theorem dL_law_320 : decode cL_law 320 = .ok (.aload_n 0, 1) := by decide +kernel
theorem dL_law_321 : decode cL_law 321 = .ok (.iload_n 3, 1) := by decide +kernel
theorem dL_law_322 : decode cL_law 322 = .ok (.iconst 1, 1) := by decide +kernel
theorem dL_law_323 : decode cL_law 323 = .ok (.iadd, 1) := by decide +kernel
theorem dL_law_324 : decode cL_law 324 = .ok (.iaload, 1) := by decide +kernel
theorem dL_law_325 : decode cL_law 325 = .ok (.aload_n 0, 1) := by decide +kernel
theorem dL_law_326 : decode cL_law 326 = .ok (.iload_n 3, 1) := by decide +kernel
theorem dL_law_327 : decode cL_law 327 = .ok (.iconst 2, 1) := by decide +kernel
theorem dL_law_328 : decode cL_law 328 = .ok (.iadd, 1) := by decide +kernel
theorem dL_law_329 : decode cL_law 329 = .ok (.iaload, 1) := by decide +kernel
theorem dL_law_330 : decode cL_law 330 = .ok (.invokevirtual 30, 3) := by decide +kernel
theorem dL_law_333 : decode cL_law 333 = .ok (.if_icmp .eq 1074, 3) := by decide +kernel
theorem dL_law_336 : decode cL_law 336 = .ok (.iconst 0, 1) := by decide +kernel
theorem dL_law_337 : decode cL_law 337 = .ok (.ireturn, 1) := by decide +kernel
theorem dL_law_338 : decode cL_law 338 = .ok (.aload_n 1, 1) := by decide +kernel
theorem dL_law_339 : decode cL_law 339 = .ok (.aload_n 0, 1) := by decide +kernel
theorem dL_law_340 : decode cL_law 340 = .ok (.iload_n 3, 1) := by decide +kernel
theorem dL_law_341 : decode cL_law 341 = .ok (.iconst 1, 1) := by decide +kernel
theorem dL_law_342 : decode cL_law 342 = .ok (.iadd, 1) := by decide +kernel
theorem dL_law_343 : decode cL_law 343 = .ok (.iaload, 1) := by decide +kernel
theorem dL_law_344 : decode cL_law 344 = .ok (.aload_n 0, 1) := by decide +kernel
theorem dL_law_345 : decode cL_law 345 = .ok (.iload_n 3, 1) := by decide +kernel
theorem dL_law_346 : decode cL_law 346 = .ok (.iconst 2, 1) := by decide +kernel
theorem dL_law_347 : decode cL_law 347 = .ok (.iadd, 1) := by decide +kernel
theorem dL_law_348 : decode cL_law 348 = .ok (.iaload, 1) := by decide +kernel
theorem dL_law_349 : decode cL_law 349 = .ok (.invokevirtual 31, 3) := by decide +kernel
theorem dL_law_352 : decode cL_law 352 = .ok (.aload_n 2, 1) := by decide +kernel
theorem dL_law_353 : decode cL_law 353 = .ok (.aload_n 0, 1) := by decide +kernel
theorem dL_law_354 : decode cL_law 354 = .ok (.iload_n 3, 1) := by decide +kernel
theorem dL_law_355 : decode cL_law 355 = .ok (.iconst 1, 1) := by decide +kernel
theorem dL_law_356 : decode cL_law 356 = .ok (.iadd, 1) := by decide +kernel
theorem dL_law_357 : decode cL_law 357 = .ok (.iaload, 1) := by decide +kernel
theorem dL_law_358 : decode cL_law 358 = .ok (.aload_n 0, 1) := by decide +kernel
theorem dL_law_359 : decode cL_law 359 = .ok (.iload_n 3, 1) := by decide +kernel
theorem dL_law_360 : decode cL_law 360 = .ok (.iconst 2, 1) := by decide +kernel
theorem dL_law_361 : decode cL_law 361 = .ok (.iadd, 1) := by decide +kernel
theorem dL_law_362 : decode cL_law 362 = .ok (.iaload, 1) := by decide +kernel
theorem dL_law_363 : decode cL_law 363 = .ok (.invokevirtual 34, 3) := by decide +kernel
theorem dL_law_366 : decode cL_law 366 = .ok (.if_icmp .eq 1041, 3) := by decide +kernel
theorem dL_law_369 : decode cL_law 369 = .ok (.iconst 0, 1) := by decide +kernel
theorem dL_law_370 : decode cL_law 370 = .ok (.ireturn, 1) := by decide +kernel
theorem dL_law_371 : decode cL_law 371 = .ok (.aload_n 1, 1) := by decide +kernel
theorem dL_law_372 : decode cL_law 372 = .ok (.aload_n 0, 1) := by decide +kernel
theorem dL_law_373 : decode cL_law 373 = .ok (.iload_n 3, 1) := by decide +kernel
theorem dL_law_374 : decode cL_law 374 = .ok (.iconst 1, 1) := by decide +kernel
theorem dL_law_375 : decode cL_law 375 = .ok (.iadd, 1) := by decide +kernel
theorem dL_law_376 : decode cL_law 376 = .ok (.iaload, 1) := by decide +kernel
theorem dL_law_377 : decode cL_law 377 = .ok (.invokevirtual 35, 3) := by decide +kernel
theorem dL_law_380 : decode cL_law 380 = .ok (.aload_n 2, 1) := by decide +kernel
theorem dL_law_381 : decode cL_law 381 = .ok (.aload_n 0, 1) := by decide +kernel
theorem dL_law_382 : decode cL_law 382 = .ok (.iload_n 3, 1) := by decide +kernel
theorem dL_law_383 : decode cL_law 383 = .ok (.iconst 1, 1) := by decide +kernel
theorem dL_law_384 : decode cL_law 384 = .ok (.iadd, 1) := by decide +kernel
theorem dL_law_385 : decode cL_law 385 = .ok (.iaload, 1) := by decide +kernel
theorem dL_law_386 : decode cL_law 386 = .ok (.invokevirtual 39, 3) := by decide +kernel
theorem dL_law_389 : decode cL_law 389 = .ok (.if_icmp .eq 1018, 3) := by decide +kernel
theorem dL_law_392 : decode cL_law 392 = .ok (.iconst 0, 1) := by decide +kernel
theorem dL_law_393 : decode cL_law 393 = .ok (.ireturn, 1) := by decide +kernel
theorem dL_law_394 : decode cL_law 394 = .ok (.aload_n 1, 1) := by decide +kernel
theorem dL_law_395 : decode cL_law 395 = .ok (.aload_n 0, 1) := by decide +kernel
theorem dL_law_396 : decode cL_law 396 = .ok (.iload_n 3, 1) := by decide +kernel
theorem dL_law_397 : decode cL_law 397 = .ok (.iconst 1, 1) := by decide +kernel
theorem dL_law_398 : decode cL_law 398 = .ok (.iadd, 1) := by decide +kernel
theorem dL_law_399 : decode cL_law 399 = .ok (.iaload, 1) := by decide +kernel
theorem dL_law_400 : decode cL_law 400 = .ok (.invokevirtual 40, 3) := by decide +kernel
theorem dL_law_403 : decode cL_law 403 = .ok (.aload_n 2, 1) := by decide +kernel
theorem dL_law_404 : decode cL_law 404 = .ok (.aload_n 0, 1) := by decide +kernel
theorem dL_law_405 : decode cL_law 405 = .ok (.iload_n 3, 1) := by decide +kernel
theorem dL_law_406 : decode cL_law 406 = .ok (.iconst 1, 1) := by decide +kernel
theorem dL_law_407 : decode cL_law 407 = .ok (.iadd, 1) := by decide +kernel
theorem dL_law_408 : decode cL_law 408 = .ok (.iaload, 1) := by decide +kernel
theorem dL_law_409 : decode cL_law 409 = .ok (.invokevirtual 43, 3) := by decide +kernel
theorem dL_law_412 : decode cL_law 412 = .ok (.if_icmp .eq 995, 3) := by decide +kernel
theorem dL_law_415 : decode cL_law 415 = .ok (.iconst 0, 1) := by decide +kernel
theorem dL_law_416 : decode cL_law 416 = .ok (.ireturn, 1) := by decide +kernel
theorem dL_law_417 : decode cL_law 417 = .ok (.aload_n 1, 1) := by decide +kernel
theorem dL_law_418 : decode cL_law 418 = .ok (.aload_n 0, 1) := by decide +kernel
theorem dL_law_419 : decode cL_law 419 = .ok (.iload_n 3, 1) := by decide +kernel
theorem dL_law_420 : decode cL_law 420 = .ok (.iconst 1, 1) := by decide +kernel
theorem dL_law_421 : decode cL_law 421 = .ok (.iadd, 1) := by decide +kernel
theorem dL_law_422 : decode cL_law 422 = .ok (.iaload, 1) := by decide +kernel
theorem dL_law_423 : decode cL_law 423 = .ok (.aload_n 0, 1) := by decide +kernel
theorem dL_law_424 : decode cL_law 424 = .ok (.iload_n 3, 1) := by decide +kernel
theorem dL_law_425 : decode cL_law 425 = .ok (.iconst 2, 1) := by decide +kernel
theorem dL_law_426 : decode cL_law 426 = .ok (.iadd, 1) := by decide +kernel
theorem dL_law_427 : decode cL_law 427 = .ok (.iaload, 1) := by decide +kernel
theorem dL_law_428 : decode cL_law 428 = .ok (.invokevirtual 44, 3) := by decide +kernel
theorem dL_law_431 : decode cL_law 431 = .ok (.aload_n 2, 1) := by decide +kernel
theorem dL_law_432 : decode cL_law 432 = .ok (.aload_n 0, 1) := by decide +kernel
theorem dL_law_433 : decode cL_law 433 = .ok (.iload_n 3, 1) := by decide +kernel
theorem dL_law_434 : decode cL_law 434 = .ok (.iconst 1, 1) := by decide +kernel
theorem dL_law_435 : decode cL_law 435 = .ok (.iadd, 1) := by decide +kernel
theorem dL_law_436 : decode cL_law 436 = .ok (.iaload, 1) := by decide +kernel
theorem dL_law_437 : decode cL_law 437 = .ok (.aload_n 0, 1) := by decide +kernel
theorem dL_law_438 : decode cL_law 438 = .ok (.iload_n 3, 1) := by decide +kernel
theorem dL_law_439 : decode cL_law 439 = .ok (.iconst 2, 1) := by decide +kernel
theorem dL_law_440 : decode cL_law 440 = .ok (.iadd, 1) := by decide +kernel
theorem dL_law_441 : decode cL_law 441 = .ok (.iaload, 1) := by decide +kernel
theorem dL_law_442 : decode cL_law 442 = .ok (.invokevirtual 47, 3) := by decide +kernel
theorem dL_law_445 : decode cL_law 445 = .ok (.if_icmp .eq 962, 3) := by decide +kernel
theorem dL_law_448 : decode cL_law 448 = .ok (.iconst 0, 1) := by decide +kernel
theorem dL_law_449 : decode cL_law 449 = .ok (.ireturn, 1) := by decide +kernel
theorem dL_law_450 : decode cL_law 450 = .ok (.aload_n 1, 1) := by decide +kernel
theorem dL_law_451 : decode cL_law 451 = .ok (.aload_n 0, 1) := by decide +kernel
theorem dL_law_452 : decode cL_law 452 = .ok (.iload_n 3, 1) := by decide +kernel
theorem dL_law_453 : decode cL_law 453 = .ok (.iconst 1, 1) := by decide +kernel
theorem dL_law_454 : decode cL_law 454 = .ok (.iadd, 1) := by decide +kernel
theorem dL_law_455 : decode cL_law 455 = .ok (.iaload, 1) := by decide +kernel
theorem dL_law_456 : decode cL_law 456 = .ok (.aload_n 0, 1) := by decide +kernel
theorem dL_law_457 : decode cL_law 457 = .ok (.iload_n 3, 1) := by decide +kernel
theorem dL_law_458 : decode cL_law 458 = .ok (.iconst 2, 1) := by decide +kernel
theorem dL_law_459 : decode cL_law 459 = .ok (.iadd, 1) := by decide +kernel
theorem dL_law_460 : decode cL_law 460 = .ok (.iaload, 1) := by decide +kernel
theorem dL_law_461 : decode cL_law 461 = .ok (.invokevirtual 48, 3) := by decide +kernel
theorem dL_law_464 : decode cL_law 464 = .ok (.aload_n 2, 1) := by decide +kernel
theorem dL_law_465 : decode cL_law 465 = .ok (.aload_n 0, 1) := by decide +kernel
theorem dL_law_466 : decode cL_law 466 = .ok (.iload_n 3, 1) := by decide +kernel
theorem dL_law_467 : decode cL_law 467 = .ok (.iconst 1, 1) := by decide +kernel
theorem dL_law_468 : decode cL_law 468 = .ok (.iadd, 1) := by decide +kernel
theorem dL_law_469 : decode cL_law 469 = .ok (.iaload, 1) := by decide +kernel
theorem dL_law_470 : decode cL_law 470 = .ok (.aload_n 0, 1) := by decide +kernel
theorem dL_law_471 : decode cL_law 471 = .ok (.iload_n 3, 1) := by decide +kernel
theorem dL_law_472 : decode cL_law 472 = .ok (.iconst 2, 1) := by decide +kernel
theorem dL_law_473 : decode cL_law 473 = .ok (.iadd, 1) := by decide +kernel
theorem dL_law_474 : decode cL_law 474 = .ok (.iaload, 1) := by decide +kernel
theorem dL_law_475 : decode cL_law 475 = .ok (.invokevirtual 51, 3) := by decide +kernel
theorem dL_law_478 : decode cL_law 478 = .ok (.if_icmp .eq 929, 3) := by decide +kernel
theorem dL_law_481 : decode cL_law 481 = .ok (.iconst 0, 1) := by decide +kernel
theorem dL_law_482 : decode cL_law 482 = .ok (.ireturn, 1) := by decide +kernel
theorem dL_law_483 : decode cL_law 483 = .ok (.aload_n 1, 1) := by decide +kernel
theorem dL_law_484 : decode cL_law 484 = .ok (.aload_n 0, 1) := by decide +kernel
theorem dL_law_485 : decode cL_law 485 = .ok (.iload_n 3, 1) := by decide +kernel
theorem dL_law_486 : decode cL_law 486 = .ok (.iconst 1, 1) := by decide +kernel
theorem dL_law_487 : decode cL_law 487 = .ok (.iadd, 1) := by decide +kernel
theorem dL_law_488 : decode cL_law 488 = .ok (.iaload, 1) := by decide +kernel
theorem dL_law_489 : decode cL_law 489 = .ok (.i2l, 1) := by decide +kernel
theorem dL_law_490 : decode cL_law 490 = .ok (.bipush 32, 2) := by decide +kernel
theorem dL_law_492 : decode cL_law 492 = .ok (.lshl, 1) := by decide +kernel
theorem dL_law_493 : decode cL_law 493 = .ok (.aload_n 0, 1) := by decide +kernel
theorem dL_law_494 : decode cL_law 494 = .ok (.iload_n 3, 1) := by decide +kernel
theorem dL_law_495 : decode cL_law 495 = .ok (.iconst 2, 1) := by decide +kernel
theorem dL_law_496 : decode cL_law 496 = .ok (.iadd, 1) := by decide +kernel
theorem dL_law_497 : decode cL_law 497 = .ok (.iaload, 1) := by decide +kernel
theorem dL_law_498 : decode cL_law 498 = .ok (.i2l, 1) := by decide +kernel
theorem dL_law_499 : decode cL_law 499 = .ok (.ldc2_w 52, 3) := by decide +kernel
theorem dL_law_502 : decode cL_law 502 = .ok (.land, 1) := by decide +kernel
theorem dL_law_503 : decode cL_law 503 = .ok (.lor, 1) := by decide +kernel
theorem dL_law_504 : decode cL_law 504 = .ok (.aload_n 0, 1) := by decide +kernel
theorem dL_law_505 : decode cL_law 505 = .ok (.iload_n 3, 1) := by decide +kernel
theorem dL_law_506 : decode cL_law 506 = .ok (.iconst 3, 1) := by decide +kernel
theorem dL_law_507 : decode cL_law 507 = .ok (.iadd, 1) := by decide +kernel
theorem dL_law_508 : decode cL_law 508 = .ok (.iaload, 1) := by decide +kernel
theorem dL_law_509 : decode cL_law 509 = .ok (.invokevirtual 54, 3) := by decide +kernel
theorem dL_law_512 : decode cL_law 512 = .ok (.aload_n 2, 1) := by decide +kernel
theorem dL_law_513 : decode cL_law 513 = .ok (.aload_n 0, 1) := by decide +kernel
theorem dL_law_514 : decode cL_law 514 = .ok (.iload_n 3, 1) := by decide +kernel
theorem dL_law_515 : decode cL_law 515 = .ok (.iconst 1, 1) := by decide +kernel
theorem dL_law_516 : decode cL_law 516 = .ok (.iadd, 1) := by decide +kernel
theorem dL_law_517 : decode cL_law 517 = .ok (.iaload, 1) := by decide +kernel
theorem dL_law_518 : decode cL_law 518 = .ok (.i2l, 1) := by decide +kernel
theorem dL_law_519 : decode cL_law 519 = .ok (.bipush 32, 2) := by decide +kernel
theorem dL_law_521 : decode cL_law 521 = .ok (.lshl, 1) := by decide +kernel
theorem dL_law_522 : decode cL_law 522 = .ok (.aload_n 0, 1) := by decide +kernel
theorem dL_law_523 : decode cL_law 523 = .ok (.iload_n 3, 1) := by decide +kernel
theorem dL_law_524 : decode cL_law 524 = .ok (.iconst 2, 1) := by decide +kernel
theorem dL_law_525 : decode cL_law 525 = .ok (.iadd, 1) := by decide +kernel
theorem dL_law_526 : decode cL_law 526 = .ok (.iaload, 1) := by decide +kernel
theorem dL_law_527 : decode cL_law 527 = .ok (.i2l, 1) := by decide +kernel
theorem dL_law_528 : decode cL_law 528 = .ok (.ldc2_w 52, 3) := by decide +kernel
theorem dL_law_531 : decode cL_law 531 = .ok (.land, 1) := by decide +kernel
theorem dL_law_532 : decode cL_law 532 = .ok (.lor, 1) := by decide +kernel
theorem dL_law_533 : decode cL_law 533 = .ok (.aload_n 0, 1) := by decide +kernel
theorem dL_law_534 : decode cL_law 534 = .ok (.iload_n 3, 1) := by decide +kernel
theorem dL_law_535 : decode cL_law 535 = .ok (.iconst 3, 1) := by decide +kernel
theorem dL_law_536 : decode cL_law 536 = .ok (.iadd, 1) := by decide +kernel
theorem dL_law_537 : decode cL_law 537 = .ok (.iaload, 1) := by decide +kernel
theorem dL_law_538 : decode cL_law 538 = .ok (.invokevirtual 58, 3) := by decide +kernel
theorem dL_law_541 : decode cL_law 541 = .ok (.if_icmp .eq 866, 3) := by decide +kernel
theorem dL_law_544 : decode cL_law 544 = .ok (.iconst 0, 1) := by decide +kernel
theorem dL_law_545 : decode cL_law 545 = .ok (.ireturn, 1) := by decide +kernel
theorem dL_law_546 : decode cL_law 546 = .ok (.aload_n 1, 1) := by decide +kernel
theorem dL_law_547 : decode cL_law 547 = .ok (.aload_n 0, 1) := by decide +kernel
theorem dL_law_548 : decode cL_law 548 = .ok (.iload_n 3, 1) := by decide +kernel
theorem dL_law_549 : decode cL_law 549 = .ok (.iconst 1, 1) := by decide +kernel
theorem dL_law_550 : decode cL_law 550 = .ok (.iadd, 1) := by decide +kernel
theorem dL_law_551 : decode cL_law 551 = .ok (.iaload, 1) := by decide +kernel
theorem dL_law_552 : decode cL_law 552 = .ok (.invokevirtual 59, 3) := by decide +kernel
theorem dL_law_555 : decode cL_law 555 = .ok (.aload_n 2, 1) := by decide +kernel
theorem dL_law_556 : decode cL_law 556 = .ok (.aload_n 0, 1) := by decide +kernel
theorem dL_law_557 : decode cL_law 557 = .ok (.iload_n 3, 1) := by decide +kernel
theorem dL_law_558 : decode cL_law 558 = .ok (.iconst 1, 1) := by decide +kernel
theorem dL_law_559 : decode cL_law 559 = .ok (.iadd, 1) := by decide +kernel
theorem dL_law_560 : decode cL_law 560 = .ok (.iaload, 1) := by decide +kernel
theorem dL_law_561 : decode cL_law 561 = .ok (.invokevirtual 62, 3) := by decide +kernel
theorem dL_law_564 : decode cL_law 564 = .ok (.if_icmp .eq 843, 3) := by decide +kernel
theorem dL_law_567 : decode cL_law 567 = .ok (.iconst 0, 1) := by decide +kernel
theorem dL_law_568 : decode cL_law 568 = .ok (.ireturn, 1) := by decide +kernel
theorem dL_law_569 : decode cL_law 569 = .ok (.aload_n 1, 1) := by decide +kernel
theorem dL_law_570 : decode cL_law 570 = .ok (.aload_n 0, 1) := by decide +kernel
theorem dL_law_571 : decode cL_law 571 = .ok (.iload_n 3, 1) := by decide +kernel
theorem dL_law_572 : decode cL_law 572 = .ok (.iconst 1, 1) := by decide +kernel
theorem dL_law_573 : decode cL_law 573 = .ok (.iadd, 1) := by decide +kernel
theorem dL_law_574 : decode cL_law 574 = .ok (.iaload, 1) := by decide +kernel
theorem dL_law_575 : decode cL_law 575 = .ok (.invokevirtual 63, 3) := by decide +kernel
theorem dL_law_578 : decode cL_law 578 = .ok (.aload_n 2, 1) := by decide +kernel
theorem dL_law_579 : decode cL_law 579 = .ok (.aload_n 0, 1) := by decide +kernel
theorem dL_law_580 : decode cL_law 580 = .ok (.iload_n 3, 1) := by decide +kernel
theorem dL_law_581 : decode cL_law 581 = .ok (.iconst 1, 1) := by decide +kernel
theorem dL_law_582 : decode cL_law 582 = .ok (.iadd, 1) := by decide +kernel
theorem dL_law_583 : decode cL_law 583 = .ok (.iaload, 1) := by decide +kernel
theorem dL_law_584 : decode cL_law 584 = .ok (.invokevirtual 66, 3) := by decide +kernel
theorem dL_law_587 : decode cL_law 587 = .ok (.if_icmp .eq 820, 3) := by decide +kernel
theorem dL_law_590 : decode cL_law 590 = .ok (.iconst 0, 1) := by decide +kernel
theorem dL_law_591 : decode cL_law 591 = .ok (.ireturn, 1) := by decide +kernel
theorem dL_law_592 : decode cL_law 592 = .ok (.aload_n 1, 1) := by decide +kernel
theorem dL_law_593 : decode cL_law 593 = .ok (.aload_n 0, 1) := by decide +kernel
theorem dL_law_594 : decode cL_law 594 = .ok (.iload_n 3, 1) := by decide +kernel
theorem dL_law_595 : decode cL_law 595 = .ok (.iconst 1, 1) := by decide +kernel
theorem dL_law_596 : decode cL_law 596 = .ok (.iadd, 1) := by decide +kernel
theorem dL_law_597 : decode cL_law 597 = .ok (.iaload, 1) := by decide +kernel
theorem dL_law_598 : decode cL_law 598 = .ok (.aload_n 0, 1) := by decide +kernel
theorem dL_law_599 : decode cL_law 599 = .ok (.iload_n 3, 1) := by decide +kernel
theorem dL_law_600 : decode cL_law 600 = .ok (.iconst 2, 1) := by decide +kernel
theorem dL_law_601 : decode cL_law 601 = .ok (.iadd, 1) := by decide +kernel
theorem dL_law_602 : decode cL_law 602 = .ok (.iaload, 1) := by decide +kernel
theorem dL_law_603 : decode cL_law 603 = .ok (.aload_n 0, 1) := by decide +kernel
theorem dL_law_604 : decode cL_law 604 = .ok (.iload_n 3, 1) := by decide +kernel
theorem dL_law_605 : decode cL_law 605 = .ok (.iconst 3, 1) := by decide +kernel
theorem dL_law_606 : decode cL_law 606 = .ok (.iadd, 1) := by decide +kernel
theorem dL_law_607 : decode cL_law 607 = .ok (.iaload, 1) := by decide +kernel
theorem dL_law_608 : decode cL_law 608 = .ok (.aload_n 0, 1) := by decide +kernel
theorem dL_law_609 : decode cL_law 609 = .ok (.iload_n 3, 1) := by decide +kernel
theorem dL_law_610 : decode cL_law 610 = .ok (.iconst 4, 1) := by decide +kernel
theorem dL_law_611 : decode cL_law 611 = .ok (.iadd, 1) := by decide +kernel
theorem dL_law_612 : decode cL_law 612 = .ok (.iaload, 1) := by decide +kernel
theorem dL_law_613 : decode cL_law 613 = .ok (.invokevirtual 67, 3) := by decide +kernel
theorem dL_law_616 : decode cL_law 616 = .ok (.aload_n 2, 1) := by decide +kernel
theorem dL_law_617 : decode cL_law 617 = .ok (.aload_n 0, 1) := by decide +kernel
theorem dL_law_618 : decode cL_law 618 = .ok (.iload_n 3, 1) := by decide +kernel
theorem dL_law_619 : decode cL_law 619 = .ok (.iconst 1, 1) := by decide +kernel
theorem dL_law_620 : decode cL_law 620 = .ok (.iadd, 1) := by decide +kernel
theorem dL_law_621 : decode cL_law 621 = .ok (.iaload, 1) := by decide +kernel
theorem dL_law_622 : decode cL_law 622 = .ok (.aload_n 0, 1) := by decide +kernel
theorem dL_law_623 : decode cL_law 623 = .ok (.iload_n 3, 1) := by decide +kernel
theorem dL_law_624 : decode cL_law 624 = .ok (.iconst 2, 1) := by decide +kernel
theorem dL_law_625 : decode cL_law 625 = .ok (.iadd, 1) := by decide +kernel
theorem dL_law_626 : decode cL_law 626 = .ok (.iaload, 1) := by decide +kernel
theorem dL_law_627 : decode cL_law 627 = .ok (.aload_n 0, 1) := by decide +kernel
theorem dL_law_628 : decode cL_law 628 = .ok (.iload_n 3, 1) := by decide +kernel
theorem dL_law_629 : decode cL_law 629 = .ok (.iconst 3, 1) := by decide +kernel
theorem dL_law_630 : decode cL_law 630 = .ok (.iadd, 1) := by decide +kernel
theorem dL_law_631 : decode cL_law 631 = .ok (.iaload, 1) := by decide +kernel
theorem dL_law_632 : decode cL_law 632 = .ok (.aload_n 0, 1) := by decide +kernel
theorem dL_law_633 : decode cL_law 633 = .ok (.iload_n 3, 1) := by decide +kernel
theorem dL_law_634 : decode cL_law 634 = .ok (.iconst 4, 1) := by decide +kernel
theorem dL_law_635 : decode cL_law 635 = .ok (.iadd, 1) := by decide +kernel
theorem dL_law_636 : decode cL_law 636 = .ok (.iaload, 1) := by decide +kernel
theorem dL_law_637 : decode cL_law 637 = .ok (.invokevirtual 71, 3) := by decide +kernel
theorem dL_law_640 : decode cL_law 640 = .ok (.if_icmp .eq 767, 3) := by decide +kernel
theorem dL_law_643 : decode cL_law 643 = .ok (.iconst 0, 1) := by decide +kernel
theorem dL_law_644 : decode cL_law 644 = .ok (.ireturn, 1) := by decide +kernel
theorem dL_law_645 : decode cL_law 645 = .ok (.aload_n 1, 1) := by decide +kernel
theorem dL_law_646 : decode cL_law 646 = .ok (.aload_n 0, 1) := by decide +kernel
theorem dL_law_647 : decode cL_law 647 = .ok (.iload_n 3, 1) := by decide +kernel
theorem dL_law_648 : decode cL_law 648 = .ok (.iconst 1, 1) := by decide +kernel
theorem dL_law_649 : decode cL_law 649 = .ok (.iadd, 1) := by decide +kernel
theorem dL_law_650 : decode cL_law 650 = .ok (.iaload, 1) := by decide +kernel
theorem dL_law_651 : decode cL_law 651 = .ok (.invokevirtual 72, 3) := by decide +kernel
theorem dL_law_654 : decode cL_law 654 = .ok (.aload_n 2, 1) := by decide +kernel
theorem dL_law_655 : decode cL_law 655 = .ok (.aload_n 0, 1) := by decide +kernel
theorem dL_law_656 : decode cL_law 656 = .ok (.iload_n 3, 1) := by decide +kernel
theorem dL_law_657 : decode cL_law 657 = .ok (.iconst 1, 1) := by decide +kernel
theorem dL_law_658 : decode cL_law 658 = .ok (.iadd, 1) := by decide +kernel
theorem dL_law_659 : decode cL_law 659 = .ok (.iaload, 1) := by decide +kernel
theorem dL_law_660 : decode cL_law 660 = .ok (.invokevirtual 75, 3) := by decide +kernel
theorem dL_law_663 : decode cL_law 663 = .ok (.if_icmp .eq 744, 3) := by decide +kernel
theorem dL_law_666 : decode cL_law 666 = .ok (.iconst 0, 1) := by decide +kernel
theorem dL_law_667 : decode cL_law 667 = .ok (.ireturn, 1) := by decide +kernel
theorem dL_law_668 : decode cL_law 668 = .ok (.aload_n 1, 1) := by decide +kernel
theorem dL_law_669 : decode cL_law 669 = .ok (.aload_n 0, 1) := by decide +kernel
theorem dL_law_670 : decode cL_law 670 = .ok (.iload_n 3, 1) := by decide +kernel
theorem dL_law_671 : decode cL_law 671 = .ok (.iconst 1, 1) := by decide +kernel
theorem dL_law_672 : decode cL_law 672 = .ok (.iadd, 1) := by decide +kernel
theorem dL_law_673 : decode cL_law 673 = .ok (.iaload, 1) := by decide +kernel
theorem dL_law_674 : decode cL_law 674 = .ok (.invokevirtual 76, 3) := by decide +kernel
theorem dL_law_677 : decode cL_law 677 = .ok (.aload_n 2, 1) := by decide +kernel
theorem dL_law_678 : decode cL_law 678 = .ok (.aload_n 0, 1) := by decide +kernel
theorem dL_law_679 : decode cL_law 679 = .ok (.iload_n 3, 1) := by decide +kernel
theorem dL_law_680 : decode cL_law 680 = .ok (.iconst 1, 1) := by decide +kernel
theorem dL_law_681 : decode cL_law 681 = .ok (.iadd, 1) := by decide +kernel
theorem dL_law_682 : decode cL_law 682 = .ok (.iaload, 1) := by decide +kernel
theorem dL_law_683 : decode cL_law 683 = .ok (.invokevirtual 79, 3) := by decide +kernel
theorem dL_law_686 : decode cL_law 686 = .ok (.if_icmp .eq 721, 3) := by decide +kernel
theorem dL_law_689 : decode cL_law 689 = .ok (.iconst 0, 1) := by decide +kernel
theorem dL_law_690 : decode cL_law 690 = .ok (.ireturn, 1) := by decide +kernel
theorem dL_law_691 : decode cL_law 691 = .ok (.aload_n 1, 1) := by decide +kernel
theorem dL_law_692 : decode cL_law 692 = .ok (.aload_n 0, 1) := by decide +kernel
theorem dL_law_693 : decode cL_law 693 = .ok (.iload_n 3, 1) := by decide +kernel
theorem dL_law_694 : decode cL_law 694 = .ok (.iconst 1, 1) := by decide +kernel
theorem dL_law_695 : decode cL_law 695 = .ok (.iadd, 1) := by decide +kernel
theorem dL_law_696 : decode cL_law 696 = .ok (.iaload, 1) := by decide +kernel
theorem dL_law_697 : decode cL_law 697 = .ok (.invokevirtual 80, 3) := by decide +kernel
theorem dL_law_700 : decode cL_law 700 = .ok (.aload_n 2, 1) := by decide +kernel
theorem dL_law_701 : decode cL_law 701 = .ok (.aload_n 0, 1) := by decide +kernel
theorem dL_law_702 : decode cL_law 702 = .ok (.iload_n 3, 1) := by decide +kernel
theorem dL_law_703 : decode cL_law 703 = .ok (.iconst 1, 1) := by decide +kernel
theorem dL_law_704 : decode cL_law 704 = .ok (.iadd, 1) := by decide +kernel
theorem dL_law_705 : decode cL_law 705 = .ok (.iaload, 1) := by decide +kernel
theorem dL_law_706 : decode cL_law 706 = .ok (.invokevirtual 83, 3) := by decide +kernel
theorem dL_law_709 : decode cL_law 709 = .ok (.if_icmp .eq 698, 3) := by decide +kernel
theorem dL_law_712 : decode cL_law 712 = .ok (.iconst 0, 1) := by decide +kernel
theorem dL_law_713 : decode cL_law 713 = .ok (.ireturn, 1) := by decide +kernel
theorem dL_law_714 : decode cL_law 714 = .ok (.aload_n 1, 1) := by decide +kernel
theorem dL_law_715 : decode cL_law 715 = .ok (.aload_n 0, 1) := by decide +kernel
theorem dL_law_716 : decode cL_law 716 = .ok (.iload_n 3, 1) := by decide +kernel
theorem dL_law_717 : decode cL_law 717 = .ok (.iconst 1, 1) := by decide +kernel
theorem dL_law_718 : decode cL_law 718 = .ok (.iadd, 1) := by decide +kernel
theorem dL_law_719 : decode cL_law 719 = .ok (.iaload, 1) := by decide +kernel
theorem dL_law_720 : decode cL_law 720 = .ok (.aload_n 0, 1) := by decide +kernel
theorem dL_law_721 : decode cL_law 721 = .ok (.iload_n 3, 1) := by decide +kernel
theorem dL_law_722 : decode cL_law 722 = .ok (.iconst 2, 1) := by decide +kernel
theorem dL_law_723 : decode cL_law 723 = .ok (.iadd, 1) := by decide +kernel
theorem dL_law_724 : decode cL_law 724 = .ok (.iaload, 1) := by decide +kernel
theorem dL_law_725 : decode cL_law 725 = .ok (.invokevirtual 84, 3) := by decide +kernel
theorem dL_law_728 : decode cL_law 728 = .ok (.aload_n 2, 1) := by decide +kernel
theorem dL_law_729 : decode cL_law 729 = .ok (.aload_n 0, 1) := by decide +kernel
theorem dL_law_730 : decode cL_law 730 = .ok (.iload_n 3, 1) := by decide +kernel
theorem dL_law_731 : decode cL_law 731 = .ok (.iconst 1, 1) := by decide +kernel
theorem dL_law_732 : decode cL_law 732 = .ok (.iadd, 1) := by decide +kernel
theorem dL_law_733 : decode cL_law 733 = .ok (.iaload, 1) := by decide +kernel
theorem dL_law_734 : decode cL_law 734 = .ok (.aload_n 0, 1) := by decide +kernel
theorem dL_law_735 : decode cL_law 735 = .ok (.iload_n 3, 1) := by decide +kernel
theorem dL_law_736 : decode cL_law 736 = .ok (.iconst 2, 1) := by decide +kernel
theorem dL_law_737 : decode cL_law 737 = .ok (.iadd, 1) := by decide +kernel
theorem dL_law_738 : decode cL_law 738 = .ok (.iaload, 1) := by decide +kernel
theorem dL_law_739 : decode cL_law 739 = .ok (.invokevirtual 87, 3) := by decide +kernel
theorem dL_law_742 : decode cL_law 742 = .ok (.if_icmp .eq 665, 3) := by decide +kernel
theorem dL_law_745 : decode cL_law 745 = .ok (.iconst 0, 1) := by decide +kernel
theorem dL_law_746 : decode cL_law 746 = .ok (.ireturn, 1) := by decide +kernel
theorem dL_law_747 : decode cL_law 747 = .ok (.aload_n 1, 1) := by decide +kernel
theorem dL_law_748 : decode cL_law 748 = .ok (.aload_n 0, 1) := by decide +kernel
theorem dL_law_749 : decode cL_law 749 = .ok (.iload_n 3, 1) := by decide +kernel
theorem dL_law_750 : decode cL_law 750 = .ok (.iconst 1, 1) := by decide +kernel
theorem dL_law_751 : decode cL_law 751 = .ok (.iadd, 1) := by decide +kernel
theorem dL_law_752 : decode cL_law 752 = .ok (.iaload, 1) := by decide +kernel
theorem dL_law_753 : decode cL_law 753 = .ok (.aload_n 0, 1) := by decide +kernel
theorem dL_law_754 : decode cL_law 754 = .ok (.iload_n 3, 1) := by decide +kernel
theorem dL_law_755 : decode cL_law 755 = .ok (.iconst 2, 1) := by decide +kernel
theorem dL_law_756 : decode cL_law 756 = .ok (.iadd, 1) := by decide +kernel
theorem dL_law_757 : decode cL_law 757 = .ok (.iaload, 1) := by decide +kernel
theorem dL_law_758 : decode cL_law 758 = .ok (.invokevirtual 88, 3) := by decide +kernel
theorem dL_law_761 : decode cL_law 761 = .ok (.aload_n 2, 1) := by decide +kernel
theorem dL_law_762 : decode cL_law 762 = .ok (.aload_n 0, 1) := by decide +kernel
theorem dL_law_763 : decode cL_law 763 = .ok (.iload_n 3, 1) := by decide +kernel
theorem dL_law_764 : decode cL_law 764 = .ok (.iconst 1, 1) := by decide +kernel
theorem dL_law_765 : decode cL_law 765 = .ok (.iadd, 1) := by decide +kernel
theorem dL_law_766 : decode cL_law 766 = .ok (.iaload, 1) := by decide +kernel
theorem dL_law_767 : decode cL_law 767 = .ok (.aload_n 0, 1) := by decide +kernel
theorem dL_law_768 : decode cL_law 768 = .ok (.iload_n 3, 1) := by decide +kernel
theorem dL_law_769 : decode cL_law 769 = .ok (.iconst 2, 1) := by decide +kernel
theorem dL_law_770 : decode cL_law 770 = .ok (.iadd, 1) := by decide +kernel
theorem dL_law_771 : decode cL_law 771 = .ok (.iaload, 1) := by decide +kernel
theorem dL_law_772 : decode cL_law 772 = .ok (.invokevirtual 91, 3) := by decide +kernel
theorem dL_law_775 : decode cL_law 775 = .ok (.if_icmp .eq 632, 3) := by decide +kernel
theorem dL_law_778 : decode cL_law 778 = .ok (.iconst 0, 1) := by decide +kernel
theorem dL_law_779 : decode cL_law 779 = .ok (.ireturn, 1) := by decide +kernel
theorem dL_law_780 : decode cL_law 780 = .ok (.aload_n 1, 1) := by decide +kernel
theorem dL_law_781 : decode cL_law 781 = .ok (.aload_n 0, 1) := by decide +kernel
theorem dL_law_782 : decode cL_law 782 = .ok (.iload_n 3, 1) := by decide +kernel
theorem dL_law_783 : decode cL_law 783 = .ok (.iconst 1, 1) := by decide +kernel
theorem dL_law_784 : decode cL_law 784 = .ok (.iadd, 1) := by decide +kernel
theorem dL_law_785 : decode cL_law 785 = .ok (.iaload, 1) := by decide +kernel
theorem dL_law_786 : decode cL_law 786 = .ok (.aload_n 0, 1) := by decide +kernel
theorem dL_law_787 : decode cL_law 787 = .ok (.iload_n 3, 1) := by decide +kernel
theorem dL_law_788 : decode cL_law 788 = .ok (.iconst 2, 1) := by decide +kernel
theorem dL_law_789 : decode cL_law 789 = .ok (.iadd, 1) := by decide +kernel
theorem dL_law_790 : decode cL_law 790 = .ok (.iaload, 1) := by decide +kernel
theorem dL_law_791 : decode cL_law 791 = .ok (.aload_n 0, 1) := by decide +kernel
theorem dL_law_792 : decode cL_law 792 = .ok (.iload_n 3, 1) := by decide +kernel
theorem dL_law_793 : decode cL_law 793 = .ok (.iconst 3, 1) := by decide +kernel
theorem dL_law_794 : decode cL_law 794 = .ok (.iadd, 1) := by decide +kernel
theorem dL_law_795 : decode cL_law 795 = .ok (.iaload, 1) := by decide +kernel
theorem dL_law_796 : decode cL_law 796 = .ok (.aload_n 0, 1) := by decide +kernel
theorem dL_law_797 : decode cL_law 797 = .ok (.iload_n 3, 1) := by decide +kernel
theorem dL_law_798 : decode cL_law 798 = .ok (.iconst 4, 1) := by decide +kernel
theorem dL_law_799 : decode cL_law 799 = .ok (.iadd, 1) := by decide +kernel
theorem dL_law_800 : decode cL_law 800 = .ok (.iaload, 1) := by decide +kernel
theorem dL_law_801 : decode cL_law 801 = .ok (.invokevirtual 92, 3) := by decide +kernel
theorem dL_law_804 : decode cL_law 804 = .ok (.aload_n 2, 1) := by decide +kernel
theorem dL_law_805 : decode cL_law 805 = .ok (.aload_n 0, 1) := by decide +kernel
theorem dL_law_806 : decode cL_law 806 = .ok (.iload_n 3, 1) := by decide +kernel
theorem dL_law_807 : decode cL_law 807 = .ok (.iconst 1, 1) := by decide +kernel
theorem dL_law_808 : decode cL_law 808 = .ok (.iadd, 1) := by decide +kernel
theorem dL_law_809 : decode cL_law 809 = .ok (.iaload, 1) := by decide +kernel
theorem dL_law_810 : decode cL_law 810 = .ok (.aload_n 0, 1) := by decide +kernel
theorem dL_law_811 : decode cL_law 811 = .ok (.iload_n 3, 1) := by decide +kernel
theorem dL_law_812 : decode cL_law 812 = .ok (.iconst 2, 1) := by decide +kernel
theorem dL_law_813 : decode cL_law 813 = .ok (.iadd, 1) := by decide +kernel
theorem dL_law_814 : decode cL_law 814 = .ok (.iaload, 1) := by decide +kernel
theorem dL_law_815 : decode cL_law 815 = .ok (.aload_n 0, 1) := by decide +kernel
theorem dL_law_816 : decode cL_law 816 = .ok (.iload_n 3, 1) := by decide +kernel
theorem dL_law_817 : decode cL_law 817 = .ok (.iconst 3, 1) := by decide +kernel
theorem dL_law_818 : decode cL_law 818 = .ok (.iadd, 1) := by decide +kernel
theorem dL_law_819 : decode cL_law 819 = .ok (.iaload, 1) := by decide +kernel
theorem dL_law_820 : decode cL_law 820 = .ok (.aload_n 0, 1) := by decide +kernel
theorem dL_law_821 : decode cL_law 821 = .ok (.iload_n 3, 1) := by decide +kernel
theorem dL_law_822 : decode cL_law 822 = .ok (.iconst 4, 1) := by decide +kernel
theorem dL_law_823 : decode cL_law 823 = .ok (.iadd, 1) := by decide +kernel
theorem dL_law_824 : decode cL_law 824 = .ok (.iaload, 1) := by decide +kernel
theorem dL_law_825 : decode cL_law 825 = .ok (.invokevirtual 95, 3) := by decide +kernel
theorem dL_law_828 : decode cL_law 828 = .ok (.if_icmp .eq 579, 3) := by decide +kernel
theorem dL_law_831 : decode cL_law 831 = .ok (.iconst 0, 1) := by decide +kernel
theorem dL_law_832 : decode cL_law 832 = .ok (.ireturn, 1) := by decide +kernel
theorem dL_law_833 : decode cL_law 833 = .ok (.aload_n 1, 1) := by decide +kernel
theorem dL_law_834 : decode cL_law 834 = .ok (.aload_n 0, 1) := by decide +kernel
theorem dL_law_835 : decode cL_law 835 = .ok (.iload_n 3, 1) := by decide +kernel
theorem dL_law_836 : decode cL_law 836 = .ok (.iconst 1, 1) := by decide +kernel
theorem dL_law_837 : decode cL_law 837 = .ok (.iadd, 1) := by decide +kernel
theorem dL_law_838 : decode cL_law 838 = .ok (.iaload, 1) := by decide +kernel
theorem dL_law_839 : decode cL_law 839 = .ok (.aload_n 0, 1) := by decide +kernel
theorem dL_law_840 : decode cL_law 840 = .ok (.iload_n 3, 1) := by decide +kernel
theorem dL_law_841 : decode cL_law 841 = .ok (.iconst 2, 1) := by decide +kernel
theorem dL_law_842 : decode cL_law 842 = .ok (.iadd, 1) := by decide +kernel
theorem dL_law_843 : decode cL_law 843 = .ok (.iaload, 1) := by decide +kernel
theorem dL_law_844 : decode cL_law 844 = .ok (.aload_n 0, 1) := by decide +kernel
theorem dL_law_845 : decode cL_law 845 = .ok (.iload_n 3, 1) := by decide +kernel
theorem dL_law_846 : decode cL_law 846 = .ok (.iconst 3, 1) := by decide +kernel
theorem dL_law_847 : decode cL_law 847 = .ok (.iadd, 1) := by decide +kernel
theorem dL_law_848 : decode cL_law 848 = .ok (.iaload, 1) := by decide +kernel
theorem dL_law_849 : decode cL_law 849 = .ok (.aload_n 0, 1) := by decide +kernel
theorem dL_law_850 : decode cL_law 850 = .ok (.iload_n 3, 1) := by decide +kernel
theorem dL_law_851 : decode cL_law 851 = .ok (.iconst 4, 1) := by decide +kernel
theorem dL_law_852 : decode cL_law 852 = .ok (.iadd, 1) := by decide +kernel
theorem dL_law_853 : decode cL_law 853 = .ok (.iaload, 1) := by decide +kernel
theorem dL_law_854 : decode cL_law 854 = .ok (.invokevirtual 96, 3) := by decide +kernel
theorem dL_law_857 : decode cL_law 857 = .ok (.aload_n 2, 1) := by decide +kernel
theorem dL_law_858 : decode cL_law 858 = .ok (.aload_n 0, 1) := by decide +kernel
theorem dL_law_859 : decode cL_law 859 = .ok (.iload_n 3, 1) := by decide +kernel
theorem dL_law_860 : decode cL_law 860 = .ok (.iconst 1, 1) := by decide +kernel
theorem dL_law_861 : decode cL_law 861 = .ok (.iadd, 1) := by decide +kernel
theorem dL_law_862 : decode cL_law 862 = .ok (.iaload, 1) := by decide +kernel
theorem dL_law_863 : decode cL_law 863 = .ok (.aload_n 0, 1) := by decide +kernel
theorem dL_law_864 : decode cL_law 864 = .ok (.iload_n 3, 1) := by decide +kernel
theorem dL_law_865 : decode cL_law 865 = .ok (.iconst 2, 1) := by decide +kernel
theorem dL_law_866 : decode cL_law 866 = .ok (.iadd, 1) := by decide +kernel
theorem dL_law_867 : decode cL_law 867 = .ok (.iaload, 1) := by decide +kernel
theorem dL_law_868 : decode cL_law 868 = .ok (.aload_n 0, 1) := by decide +kernel
theorem dL_law_869 : decode cL_law 869 = .ok (.iload_n 3, 1) := by decide +kernel
theorem dL_law_870 : decode cL_law 870 = .ok (.iconst 3, 1) := by decide +kernel
theorem dL_law_871 : decode cL_law 871 = .ok (.iadd, 1) := by decide +kernel
theorem dL_law_872 : decode cL_law 872 = .ok (.iaload, 1) := by decide +kernel
theorem dL_law_873 : decode cL_law 873 = .ok (.aload_n 0, 1) := by decide +kernel
theorem dL_law_874 : decode cL_law 874 = .ok (.iload_n 3, 1) := by decide +kernel
theorem dL_law_875 : decode cL_law 875 = .ok (.iconst 4, 1) := by decide +kernel
theorem dL_law_876 : decode cL_law 876 = .ok (.iadd, 1) := by decide +kernel
theorem dL_law_877 : decode cL_law 877 = .ok (.iaload, 1) := by decide +kernel
theorem dL_law_878 : decode cL_law 878 = .ok (.invokevirtual 99, 3) := by decide +kernel
theorem dL_law_881 : decode cL_law 881 = .ok (.if_icmp .eq 526, 3) := by decide +kernel
theorem dL_law_884 : decode cL_law 884 = .ok (.iconst 0, 1) := by decide +kernel
theorem dL_law_885 : decode cL_law 885 = .ok (.ireturn, 1) := by decide +kernel
theorem dL_law_886 : decode cL_law 886 = .ok (.aload_n 1, 1) := by decide +kernel
theorem dL_law_887 : decode cL_law 887 = .ok (.aload_n 0, 1) := by decide +kernel
theorem dL_law_888 : decode cL_law 888 = .ok (.iload_n 3, 1) := by decide +kernel
theorem dL_law_889 : decode cL_law 889 = .ok (.iconst 1, 1) := by decide +kernel
theorem dL_law_890 : decode cL_law 890 = .ok (.iadd, 1) := by decide +kernel
theorem dL_law_891 : decode cL_law 891 = .ok (.iaload, 1) := by decide +kernel
theorem dL_law_892 : decode cL_law 892 = .ok (.aload_n 0, 1) := by decide +kernel
theorem dL_law_893 : decode cL_law 893 = .ok (.iload_n 3, 1) := by decide +kernel
theorem dL_law_894 : decode cL_law 894 = .ok (.iconst 2, 1) := by decide +kernel
theorem dL_law_895 : decode cL_law 895 = .ok (.iadd, 1) := by decide +kernel
theorem dL_law_896 : decode cL_law 896 = .ok (.iaload, 1) := by decide +kernel
theorem dL_law_897 : decode cL_law 897 = .ok (.aload_n 0, 1) := by decide +kernel
theorem dL_law_898 : decode cL_law 898 = .ok (.iload_n 3, 1) := by decide +kernel
theorem dL_law_899 : decode cL_law 899 = .ok (.iconst 3, 1) := by decide +kernel
theorem dL_law_900 : decode cL_law 900 = .ok (.iadd, 1) := by decide +kernel
theorem dL_law_901 : decode cL_law 901 = .ok (.iaload, 1) := by decide +kernel
theorem dL_law_902 : decode cL_law 902 = .ok (.invokevirtual 100, 3) := by decide +kernel
theorem dL_law_905 : decode cL_law 905 = .ok (.aload_n 2, 1) := by decide +kernel
theorem dL_law_906 : decode cL_law 906 = .ok (.aload_n 0, 1) := by decide +kernel
theorem dL_law_907 : decode cL_law 907 = .ok (.iload_n 3, 1) := by decide +kernel
theorem dL_law_908 : decode cL_law 908 = .ok (.iconst 1, 1) := by decide +kernel
theorem dL_law_909 : decode cL_law 909 = .ok (.iadd, 1) := by decide +kernel
theorem dL_law_910 : decode cL_law 910 = .ok (.iaload, 1) := by decide +kernel
theorem dL_law_911 : decode cL_law 911 = .ok (.aload_n 0, 1) := by decide +kernel
theorem dL_law_912 : decode cL_law 912 = .ok (.iload_n 3, 1) := by decide +kernel
theorem dL_law_913 : decode cL_law 913 = .ok (.iconst 2, 1) := by decide +kernel
theorem dL_law_914 : decode cL_law 914 = .ok (.iadd, 1) := by decide +kernel
theorem dL_law_915 : decode cL_law 915 = .ok (.iaload, 1) := by decide +kernel
theorem dL_law_916 : decode cL_law 916 = .ok (.aload_n 0, 1) := by decide +kernel
theorem dL_law_917 : decode cL_law 917 = .ok (.iload_n 3, 1) := by decide +kernel
theorem dL_law_918 : decode cL_law 918 = .ok (.iconst 3, 1) := by decide +kernel
theorem dL_law_919 : decode cL_law 919 = .ok (.iadd, 1) := by decide +kernel
theorem dL_law_920 : decode cL_law 920 = .ok (.iaload, 1) := by decide +kernel
theorem dL_law_921 : decode cL_law 921 = .ok (.invokevirtual 103, 3) := by decide +kernel
theorem dL_law_924 : decode cL_law 924 = .ok (.if_icmp .eq 483, 3) := by decide +kernel
theorem dL_law_927 : decode cL_law 927 = .ok (.iconst 0, 1) := by decide +kernel
theorem dL_law_928 : decode cL_law 928 = .ok (.ireturn, 1) := by decide +kernel
theorem dL_law_929 : decode cL_law 929 = .ok (.aload_n 1, 1) := by decide +kernel
theorem dL_law_930 : decode cL_law 930 = .ok (.aload_n 0, 1) := by decide +kernel
theorem dL_law_931 : decode cL_law 931 = .ok (.iload_n 3, 1) := by decide +kernel
theorem dL_law_932 : decode cL_law 932 = .ok (.iconst 1, 1) := by decide +kernel
theorem dL_law_933 : decode cL_law 933 = .ok (.iadd, 1) := by decide +kernel
theorem dL_law_934 : decode cL_law 934 = .ok (.iaload, 1) := by decide +kernel
theorem dL_law_935 : decode cL_law 935 = .ok (.aload_n 0, 1) := by decide +kernel
theorem dL_law_936 : decode cL_law 936 = .ok (.iload_n 3, 1) := by decide +kernel
theorem dL_law_937 : decode cL_law 937 = .ok (.iconst 2, 1) := by decide +kernel
theorem dL_law_938 : decode cL_law 938 = .ok (.iadd, 1) := by decide +kernel
theorem dL_law_939 : decode cL_law 939 = .ok (.iaload, 1) := by decide +kernel
theorem dL_law_940 : decode cL_law 940 = .ok (.invokevirtual 104, 3) := by decide +kernel
theorem dL_law_943 : decode cL_law 943 = .ok (.aload_n 2, 1) := by decide +kernel
theorem dL_law_944 : decode cL_law 944 = .ok (.aload_n 0, 1) := by decide +kernel
theorem dL_law_945 : decode cL_law 945 = .ok (.iload_n 3, 1) := by decide +kernel
theorem dL_law_946 : decode cL_law 946 = .ok (.iconst 1, 1) := by decide +kernel
theorem dL_law_947 : decode cL_law 947 = .ok (.iadd, 1) := by decide +kernel
theorem dL_law_948 : decode cL_law 948 = .ok (.iaload, 1) := by decide +kernel
theorem dL_law_949 : decode cL_law 949 = .ok (.aload_n 0, 1) := by decide +kernel
theorem dL_law_950 : decode cL_law 950 = .ok (.iload_n 3, 1) := by decide +kernel
theorem dL_law_951 : decode cL_law 951 = .ok (.iconst 2, 1) := by decide +kernel
theorem dL_law_952 : decode cL_law 952 = .ok (.iadd, 1) := by decide +kernel
theorem dL_law_953 : decode cL_law 953 = .ok (.iaload, 1) := by decide +kernel
theorem dL_law_954 : decode cL_law 954 = .ok (.invokevirtual 107, 3) := by decide +kernel
theorem dL_law_957 : decode cL_law 957 = .ok (.if_icmp .eq 450, 3) := by decide +kernel
theorem dL_law_960 : decode cL_law 960 = .ok (.iconst 0, 1) := by decide +kernel
theorem dL_law_961 : decode cL_law 961 = .ok (.ireturn, 1) := by decide +kernel
theorem dL_law_962 : decode cL_law 962 = .ok (.aload_n 1, 1) := by decide +kernel
theorem dL_law_963 : decode cL_law 963 = .ok (.aload_n 0, 1) := by decide +kernel
theorem dL_law_964 : decode cL_law 964 = .ok (.iload_n 3, 1) := by decide +kernel
theorem dL_law_965 : decode cL_law 965 = .ok (.iconst 1, 1) := by decide +kernel
theorem dL_law_966 : decode cL_law 966 = .ok (.iadd, 1) := by decide +kernel
theorem dL_law_967 : decode cL_law 967 = .ok (.iaload, 1) := by decide +kernel
theorem dL_law_968 : decode cL_law 968 = .ok (.aload_n 0, 1) := by decide +kernel
theorem dL_law_969 : decode cL_law 969 = .ok (.iload_n 3, 1) := by decide +kernel
theorem dL_law_970 : decode cL_law 970 = .ok (.iconst 2, 1) := by decide +kernel
theorem dL_law_971 : decode cL_law 971 = .ok (.iadd, 1) := by decide +kernel
theorem dL_law_972 : decode cL_law 972 = .ok (.iaload, 1) := by decide +kernel
theorem dL_law_973 : decode cL_law 973 = .ok (.aload_n 0, 1) := by decide +kernel
theorem dL_law_974 : decode cL_law 974 = .ok (.iload_n 3, 1) := by decide +kernel
theorem dL_law_975 : decode cL_law 975 = .ok (.iconst 3, 1) := by decide +kernel
theorem dL_law_976 : decode cL_law 976 = .ok (.iadd, 1) := by decide +kernel
theorem dL_law_977 : decode cL_law 977 = .ok (.iaload, 1) := by decide +kernel
theorem dL_law_978 : decode cL_law 978 = .ok (.aload_n 0, 1) := by decide +kernel
theorem dL_law_979 : decode cL_law 979 = .ok (.iload_n 3, 1) := by decide +kernel
theorem dL_law_980 : decode cL_law 980 = .ok (.iconst 4, 1) := by decide +kernel
theorem dL_law_981 : decode cL_law 981 = .ok (.iadd, 1) := by decide +kernel
theorem dL_law_982 : decode cL_law 982 = .ok (.iaload, 1) := by decide +kernel
theorem dL_law_983 : decode cL_law 983 = .ok (.invokevirtual 108, 3) := by decide +kernel
theorem dL_law_986 : decode cL_law 986 = .ok (.aload_n 2, 1) := by decide +kernel
theorem dL_law_987 : decode cL_law 987 = .ok (.aload_n 0, 1) := by decide +kernel
theorem dL_law_988 : decode cL_law 988 = .ok (.iload_n 3, 1) := by decide +kernel
theorem dL_law_989 : decode cL_law 989 = .ok (.iconst 1, 1) := by decide +kernel
theorem dL_law_990 : decode cL_law 990 = .ok (.iadd, 1) := by decide +kernel
theorem dL_law_991 : decode cL_law 991 = .ok (.iaload, 1) := by decide +kernel
theorem dL_law_992 : decode cL_law 992 = .ok (.aload_n 0, 1) := by decide +kernel
theorem dL_law_993 : decode cL_law 993 = .ok (.iload_n 3, 1) := by decide +kernel
theorem dL_law_994 : decode cL_law 994 = .ok (.iconst 2, 1) := by decide +kernel
theorem dL_law_995 : decode cL_law 995 = .ok (.iadd, 1) := by decide +kernel
theorem dL_law_996 : decode cL_law 996 = .ok (.iaload, 1) := by decide +kernel
theorem dL_law_997 : decode cL_law 997 = .ok (.aload_n 0, 1) := by decide +kernel
theorem dL_law_998 : decode cL_law 998 = .ok (.iload_n 3, 1) := by decide +kernel
theorem dL_law_999 : decode cL_law 999 = .ok (.iconst 3, 1) := by decide +kernel
theorem dL_law_1000 : decode cL_law 1000 = .ok (.iadd, 1) := by decide +kernel
theorem dL_law_1001 : decode cL_law 1001 = .ok (.iaload, 1) := by decide +kernel
theorem dL_law_1002 : decode cL_law 1002 = .ok (.aload_n 0, 1) := by decide +kernel
theorem dL_law_1003 : decode cL_law 1003 = .ok (.iload_n 3, 1) := by decide +kernel
theorem dL_law_1004 : decode cL_law 1004 = .ok (.iconst 4, 1) := by decide +kernel
theorem dL_law_1005 : decode cL_law 1005 = .ok (.iadd, 1) := by decide +kernel
theorem dL_law_1006 : decode cL_law 1006 = .ok (.iaload, 1) := by decide +kernel
theorem dL_law_1007 : decode cL_law 1007 = .ok (.invokevirtual 111, 3) := by decide +kernel
theorem dL_law_1010 : decode cL_law 1010 = .ok (.if_icmp .eq 397, 3) := by decide +kernel
theorem dL_law_1013 : decode cL_law 1013 = .ok (.iconst 0, 1) := by decide +kernel
theorem dL_law_1014 : decode cL_law 1014 = .ok (.ireturn, 1) := by decide +kernel
theorem dL_law_1015 : decode cL_law 1015 = .ok (.aload_n 1, 1) := by decide +kernel
theorem dL_law_1016 : decode cL_law 1016 = .ok (.aload_n 0, 1) := by decide +kernel
theorem dL_law_1017 : decode cL_law 1017 = .ok (.iload_n 3, 1) := by decide +kernel
theorem dL_law_1018 : decode cL_law 1018 = .ok (.iconst 1, 1) := by decide +kernel
theorem dL_law_1019 : decode cL_law 1019 = .ok (.iadd, 1) := by decide +kernel
theorem dL_law_1020 : decode cL_law 1020 = .ok (.iaload, 1) := by decide +kernel
theorem dL_law_1021 : decode cL_law 1021 = .ok (.invokevirtual 112, 3) := by decide +kernel
theorem dL_law_1024 : decode cL_law 1024 = .ok (.aload_n 2, 1) := by decide +kernel
theorem dL_law_1025 : decode cL_law 1025 = .ok (.aload_n 0, 1) := by decide +kernel
theorem dL_law_1026 : decode cL_law 1026 = .ok (.iload_n 3, 1) := by decide +kernel
theorem dL_law_1027 : decode cL_law 1027 = .ok (.iconst 1, 1) := by decide +kernel
theorem dL_law_1028 : decode cL_law 1028 = .ok (.iadd, 1) := by decide +kernel
theorem dL_law_1029 : decode cL_law 1029 = .ok (.iaload, 1) := by decide +kernel
theorem dL_law_1030 : decode cL_law 1030 = .ok (.invokevirtual 115, 3) := by decide +kernel
theorem dL_law_1033 : decode cL_law 1033 = .ok (.if_icmp .eq 374, 3) := by decide +kernel
theorem dL_law_1036 : decode cL_law 1036 = .ok (.iconst 0, 1) := by decide +kernel
theorem dL_law_1037 : decode cL_law 1037 = .ok (.ireturn, 1) := by decide +kernel
theorem dL_law_1038 : decode cL_law 1038 = .ok (.aload_n 1, 1) := by decide +kernel
theorem dL_law_1039 : decode cL_law 1039 = .ok (.aload_n 0, 1) := by decide +kernel
theorem dL_law_1040 : decode cL_law 1040 = .ok (.iload_n 3, 1) := by decide +kernel
theorem dL_law_1041 : decode cL_law 1041 = .ok (.iconst 1, 1) := by decide +kernel
theorem dL_law_1042 : decode cL_law 1042 = .ok (.iadd, 1) := by decide +kernel
theorem dL_law_1043 : decode cL_law 1043 = .ok (.iaload, 1) := by decide +kernel
theorem dL_law_1044 : decode cL_law 1044 = .ok (.aload_n 0, 1) := by decide +kernel
theorem dL_law_1045 : decode cL_law 1045 = .ok (.iload_n 3, 1) := by decide +kernel
theorem dL_law_1046 : decode cL_law 1046 = .ok (.iconst 2, 1) := by decide +kernel
theorem dL_law_1047 : decode cL_law 1047 = .ok (.iadd, 1) := by decide +kernel
theorem dL_law_1048 : decode cL_law 1048 = .ok (.iaload, 1) := by decide +kernel
theorem dL_law_1049 : decode cL_law 1049 = .ok (.aload_n 0, 1) := by decide +kernel
theorem dL_law_1050 : decode cL_law 1050 = .ok (.iload_n 3, 1) := by decide +kernel
theorem dL_law_1051 : decode cL_law 1051 = .ok (.iconst 3, 1) := by decide +kernel
theorem dL_law_1052 : decode cL_law 1052 = .ok (.iadd, 1) := by decide +kernel
theorem dL_law_1053 : decode cL_law 1053 = .ok (.iaload, 1) := by decide +kernel
theorem dL_law_1054 : decode cL_law 1054 = .ok (.invokevirtual 116, 3) := by decide +kernel
theorem dL_law_1057 : decode cL_law 1057 = .ok (.aload_n 2, 1) := by decide +kernel
theorem dL_law_1058 : decode cL_law 1058 = .ok (.aload_n 0, 1) := by decide +kernel
theorem dL_law_1059 : decode cL_law 1059 = .ok (.iload_n 3, 1) := by decide +kernel
theorem dL_law_1060 : decode cL_law 1060 = .ok (.iconst 1, 1) := by decide +kernel
theorem dL_law_1061 : decode cL_law 1061 = .ok (.iadd, 1) := by decide +kernel
theorem dL_law_1062 : decode cL_law 1062 = .ok (.iaload, 1) := by decide +kernel
theorem dL_law_1063 : decode cL_law 1063 = .ok (.aload_n 0, 1) := by decide +kernel
theorem dL_law_1064 : decode cL_law 1064 = .ok (.iload_n 3, 1) := by decide +kernel
theorem dL_law_1065 : decode cL_law 1065 = .ok (.iconst 2, 1) := by decide +kernel
theorem dL_law_1066 : decode cL_law 1066 = .ok (.iadd, 1) := by decide +kernel
theorem dL_law_1067 : decode cL_law 1067 = .ok (.iaload, 1) := by decide +kernel
theorem dL_law_1068 : decode cL_law 1068 = .ok (.aload_n 0, 1) := by decide +kernel
theorem dL_law_1069 : decode cL_law 1069 = .ok (.iload_n 3, 1) := by decide +kernel
theorem dL_law_1070 : decode cL_law 1070 = .ok (.iconst 3, 1) := by decide +kernel
theorem dL_law_1071 : decode cL_law 1071 = .ok (.iadd, 1) := by decide +kernel
theorem dL_law_1072 : decode cL_law 1072 = .ok (.iaload, 1) := by decide +kernel
theorem dL_law_1073 : decode cL_law 1073 = .ok (.invokevirtual 119, 3) := by decide +kernel
theorem dL_law_1076 : decode cL_law 1076 = .ok (.if_icmp .eq 331, 3) := by decide +kernel
theorem dL_law_1079 : decode cL_law 1079 = .ok (.iconst 0, 1) := by decide +kernel
theorem dL_law_1080 : decode cL_law 1080 = .ok (.ireturn, 1) := by decide +kernel
theorem dL_law_1081 : decode cL_law 1081 = .ok (.aload_n 1, 1) := by decide +kernel
theorem dL_law_1082 : decode cL_law 1082 = .ok (.aload_n 0, 1) := by decide +kernel
theorem dL_law_1083 : decode cL_law 1083 = .ok (.iload_n 3, 1) := by decide +kernel
theorem dL_law_1084 : decode cL_law 1084 = .ok (.iconst 1, 1) := by decide +kernel
theorem dL_law_1085 : decode cL_law 1085 = .ok (.iadd, 1) := by decide +kernel
theorem dL_law_1086 : decode cL_law 1086 = .ok (.iaload, 1) := by decide +kernel
theorem dL_law_1087 : decode cL_law 1087 = .ok (.invokevirtual 120, 3) := by decide +kernel
theorem dL_law_1090 : decode cL_law 1090 = .ok (.aload_n 2, 1) := by decide +kernel
theorem dL_law_1091 : decode cL_law 1091 = .ok (.aload_n 0, 1) := by decide +kernel
theorem dL_law_1092 : decode cL_law 1092 = .ok (.iload_n 3, 1) := by decide +kernel
theorem dL_law_1093 : decode cL_law 1093 = .ok (.iconst 1, 1) := by decide +kernel
theorem dL_law_1094 : decode cL_law 1094 = .ok (.iadd, 1) := by decide +kernel
theorem dL_law_1095 : decode cL_law 1095 = .ok (.iaload, 1) := by decide +kernel
theorem dL_law_1096 : decode cL_law 1096 = .ok (.invokevirtual 123, 3) := by decide +kernel
theorem dL_law_1099 : decode cL_law 1099 = .ok (.if_icmp .eq 308, 3) := by decide +kernel
theorem dL_law_1102 : decode cL_law 1102 = .ok (.iconst 0, 1) := by decide +kernel
theorem dL_law_1103 : decode cL_law 1103 = .ok (.ireturn, 1) := by decide +kernel
theorem dL_law_1104 : decode cL_law 1104 = .ok (.aload_n 1, 1) := by decide +kernel
theorem dL_law_1105 : decode cL_law 1105 = .ok (.aload_n 0, 1) := by decide +kernel
theorem dL_law_1106 : decode cL_law 1106 = .ok (.iload_n 3, 1) := by decide +kernel
theorem dL_law_1107 : decode cL_law 1107 = .ok (.iconst 1, 1) := by decide +kernel
theorem dL_law_1108 : decode cL_law 1108 = .ok (.iadd, 1) := by decide +kernel
theorem dL_law_1109 : decode cL_law 1109 = .ok (.iaload, 1) := by decide +kernel
theorem dL_law_1110 : decode cL_law 1110 = .ok (.aload_n 0, 1) := by decide +kernel
theorem dL_law_1111 : decode cL_law 1111 = .ok (.iload_n 3, 1) := by decide +kernel
theorem dL_law_1112 : decode cL_law 1112 = .ok (.iconst 2, 1) := by decide +kernel
theorem dL_law_1113 : decode cL_law 1113 = .ok (.iadd, 1) := by decide +kernel
theorem dL_law_1114 : decode cL_law 1114 = .ok (.iaload, 1) := by decide +kernel
theorem dL_law_1115 : decode cL_law 1115 = .ok (.aload_n 0, 1) := by decide +kernel
theorem dL_law_1116 : decode cL_law 1116 = .ok (.iload_n 3, 1) := by decide +kernel
theorem dL_law_1117 : decode cL_law 1117 = .ok (.iconst 3, 1) := by decide +kernel
theorem dL_law_1118 : decode cL_law 1118 = .ok (.iadd, 1) := by decide +kernel
theorem dL_law_1119 : decode cL_law 1119 = .ok (.iaload, 1) := by decide +kernel
theorem dL_law_1120 : decode cL_law 1120 = .ok (.invokevirtual 124, 3) := by decide +kernel
theorem dL_law_1123 : decode cL_law 1123 = .ok (.aload_n 2, 1) := by decide +kernel
theorem dL_law_1124 : decode cL_law 1124 = .ok (.aload_n 0, 1) := by decide +kernel
theorem dL_law_1125 : decode cL_law 1125 = .ok (.iload_n 3, 1) := by decide +kernel
theorem dL_law_1126 : decode cL_law 1126 = .ok (.iconst 1, 1) := by decide +kernel
theorem dL_law_1127 : decode cL_law 1127 = .ok (.iadd, 1) := by decide +kernel
theorem dL_law_1128 : decode cL_law 1128 = .ok (.iaload, 1) := by decide +kernel
theorem dL_law_1129 : decode cL_law 1129 = .ok (.aload_n 0, 1) := by decide +kernel
theorem dL_law_1130 : decode cL_law 1130 = .ok (.iload_n 3, 1) := by decide +kernel
theorem dL_law_1131 : decode cL_law 1131 = .ok (.iconst 2, 1) := by decide +kernel
theorem dL_law_1132 : decode cL_law 1132 = .ok (.iadd, 1) := by decide +kernel
theorem dL_law_1133 : decode cL_law 1133 = .ok (.iaload, 1) := by decide +kernel
theorem dL_law_1134 : decode cL_law 1134 = .ok (.aload_n 0, 1) := by decide +kernel
theorem dL_law_1135 : decode cL_law 1135 = .ok (.iload_n 3, 1) := by decide +kernel
theorem dL_law_1136 : decode cL_law 1136 = .ok (.iconst 3, 1) := by decide +kernel
theorem dL_law_1137 : decode cL_law 1137 = .ok (.iadd, 1) := by decide +kernel
theorem dL_law_1138 : decode cL_law 1138 = .ok (.iaload, 1) := by decide +kernel
theorem dL_law_1139 : decode cL_law 1139 = .ok (.invokevirtual 127, 3) := by decide +kernel
theorem dL_law_1142 : decode cL_law 1142 = .ok (.if_icmp .eq 265, 3) := by decide +kernel
theorem dL_law_1145 : decode cL_law 1145 = .ok (.iconst 0, 1) := by decide +kernel
theorem dL_law_1146 : decode cL_law 1146 = .ok (.ireturn, 1) := by decide +kernel
theorem dL_law_1147 : decode cL_law 1147 = .ok (.aload_n 1, 1) := by decide +kernel
theorem dL_law_1148 : decode cL_law 1148 = .ok (.aload_n 0, 1) := by decide +kernel
theorem dL_law_1149 : decode cL_law 1149 = .ok (.iload_n 3, 1) := by decide +kernel
theorem dL_law_1150 : decode cL_law 1150 = .ok (.iconst 1, 1) := by decide +kernel
theorem dL_law_1151 : decode cL_law 1151 = .ok (.iadd, 1) := by decide +kernel
theorem dL_law_1152 : decode cL_law 1152 = .ok (.iaload, 1) := by decide +kernel
theorem dL_law_1153 : decode cL_law 1153 = .ok (.aload_n 0, 1) := by decide +kernel
theorem dL_law_1154 : decode cL_law 1154 = .ok (.iload_n 3, 1) := by decide +kernel
theorem dL_law_1155 : decode cL_law 1155 = .ok (.iconst 2, 1) := by decide +kernel
theorem dL_law_1156 : decode cL_law 1156 = .ok (.iadd, 1) := by decide +kernel
theorem dL_law_1157 : decode cL_law 1157 = .ok (.iaload, 1) := by decide +kernel
theorem dL_law_1158 : decode cL_law 1158 = .ok (.aload_n 0, 1) := by decide +kernel
theorem dL_law_1159 : decode cL_law 1159 = .ok (.iload_n 3, 1) := by decide +kernel
theorem dL_law_1160 : decode cL_law 1160 = .ok (.iconst 3, 1) := by decide +kernel
theorem dL_law_1161 : decode cL_law 1161 = .ok (.iadd, 1) := by decide +kernel
theorem dL_law_1162 : decode cL_law 1162 = .ok (.iaload, 1) := by decide +kernel
theorem dL_law_1163 : decode cL_law 1163 = .ok (.invokevirtual 128, 3) := by decide +kernel
theorem dL_law_1166 : decode cL_law 1166 = .ok (.aload_n 2, 1) := by decide +kernel
theorem dL_law_1167 : decode cL_law 1167 = .ok (.aload_n 0, 1) := by decide +kernel
theorem dL_law_1168 : decode cL_law 1168 = .ok (.iload_n 3, 1) := by decide +kernel
theorem dL_law_1169 : decode cL_law 1169 = .ok (.iconst 1, 1) := by decide +kernel
theorem dL_law_1170 : decode cL_law 1170 = .ok (.iadd, 1) := by decide +kernel
theorem dL_law_1171 : decode cL_law 1171 = .ok (.iaload, 1) := by decide +kernel
theorem dL_law_1172 : decode cL_law 1172 = .ok (.aload_n 0, 1) := by decide +kernel
theorem dL_law_1173 : decode cL_law 1173 = .ok (.iload_n 3, 1) := by decide +kernel
theorem dL_law_1174 : decode cL_law 1174 = .ok (.iconst 2, 1) := by decide +kernel
theorem dL_law_1175 : decode cL_law 1175 = .ok (.iadd, 1) := by decide +kernel
theorem dL_law_1176 : decode cL_law 1176 = .ok (.iaload, 1) := by decide +kernel
theorem dL_law_1177 : decode cL_law 1177 = .ok (.aload_n 0, 1) := by decide +kernel
theorem dL_law_1178 : decode cL_law 1178 = .ok (.iload_n 3, 1) := by decide +kernel
theorem dL_law_1179 : decode cL_law 1179 = .ok (.iconst 3, 1) := by decide +kernel
theorem dL_law_1180 : decode cL_law 1180 = .ok (.iadd, 1) := by decide +kernel
theorem dL_law_1181 : decode cL_law 1181 = .ok (.iaload, 1) := by decide +kernel
theorem dL_law_1182 : decode cL_law 1182 = .ok (.invokevirtual 131, 3) := by decide +kernel
theorem dL_law_1185 : decode cL_law 1185 = .ok (.if_icmp .eq 222, 3) := by decide +kernel
theorem dL_law_1188 : decode cL_law 1188 = .ok (.iconst 0, 1) := by decide +kernel
theorem dL_law_1189 : decode cL_law 1189 = .ok (.ireturn, 1) := by decide +kernel
theorem dL_law_1190 : decode cL_law 1190 = .ok (.aload_n 1, 1) := by decide +kernel
theorem dL_law_1191 : decode cL_law 1191 = .ok (.aload_n 0, 1) := by decide +kernel
theorem dL_law_1192 : decode cL_law 1192 = .ok (.iload_n 3, 1) := by decide +kernel
theorem dL_law_1193 : decode cL_law 1193 = .ok (.iconst 1, 1) := by decide +kernel
theorem dL_law_1194 : decode cL_law 1194 = .ok (.iadd, 1) := by decide +kernel
theorem dL_law_1195 : decode cL_law 1195 = .ok (.iaload, 1) := by decide +kernel
theorem dL_law_1196 : decode cL_law 1196 = .ok (.aload_n 0, 1) := by decide +kernel
theorem dL_law_1197 : decode cL_law 1197 = .ok (.iload_n 3, 1) := by decide +kernel
theorem dL_law_1198 : decode cL_law 1198 = .ok (.iconst 2, 1) := by decide +kernel
theorem dL_law_1199 : decode cL_law 1199 = .ok (.iadd, 1) := by decide +kernel
theorem dL_law_1200 : decode cL_law 1200 = .ok (.iaload, 1) := by decide +kernel
theorem dL_law_1201 : decode cL_law 1201 = .ok (.aload_n 0, 1) := by decide +kernel
theorem dL_law_1202 : decode cL_law 1202 = .ok (.iload_n 3, 1) := by decide +kernel
theorem dL_law_1203 : decode cL_law 1203 = .ok (.iconst 3, 1) := by decide +kernel
theorem dL_law_1204 : decode cL_law 1204 = .ok (.iadd, 1) := by decide +kernel
theorem dL_law_1205 : decode cL_law 1205 = .ok (.iaload, 1) := by decide +kernel
theorem dL_law_1206 : decode cL_law 1206 = .ok (.aload_n 0, 1) := by decide +kernel
theorem dL_law_1207 : decode cL_law 1207 = .ok (.iload_n 3, 1) := by decide +kernel
theorem dL_law_1208 : decode cL_law 1208 = .ok (.iconst 4, 1) := by decide +kernel
theorem dL_law_1209 : decode cL_law 1209 = .ok (.iadd, 1) := by decide +kernel
theorem dL_law_1210 : decode cL_law 1210 = .ok (.iaload, 1) := by decide +kernel
theorem dL_law_1211 : decode cL_law 1211 = .ok (.aload_n 0, 1) := by decide +kernel
theorem dL_law_1212 : decode cL_law 1212 = .ok (.iload_n 3, 1) := by decide +kernel
theorem dL_law_1213 : decode cL_law 1213 = .ok (.iconst 5, 1) := by decide +kernel
theorem dL_law_1214 : decode cL_law 1214 = .ok (.iadd, 1) := by decide +kernel
theorem dL_law_1215 : decode cL_law 1215 = .ok (.iaload, 1) := by decide +kernel
theorem dL_law_1216 : decode cL_law 1216 = .ok (.invokevirtual 132, 3) := by decide +kernel
theorem dL_law_1219 : decode cL_law 1219 = .ok (.aload_n 2, 1) := by decide +kernel
theorem dL_law_1220 : decode cL_law 1220 = .ok (.aload_n 0, 1) := by decide +kernel
theorem dL_law_1221 : decode cL_law 1221 = .ok (.iload_n 3, 1) := by decide +kernel
theorem dL_law_1222 : decode cL_law 1222 = .ok (.iconst 1, 1) := by decide +kernel
theorem dL_law_1223 : decode cL_law 1223 = .ok (.iadd, 1) := by decide +kernel
theorem dL_law_1224 : decode cL_law 1224 = .ok (.iaload, 1) := by decide +kernel
theorem dL_law_1225 : decode cL_law 1225 = .ok (.aload_n 0, 1) := by decide +kernel
theorem dL_law_1226 : decode cL_law 1226 = .ok (.iload_n 3, 1) := by decide +kernel
theorem dL_law_1227 : decode cL_law 1227 = .ok (.iconst 2, 1) := by decide +kernel
theorem dL_law_1228 : decode cL_law 1228 = .ok (.iadd, 1) := by decide +kernel
theorem dL_law_1229 : decode cL_law 1229 = .ok (.iaload, 1) := by decide +kernel
theorem dL_law_1230 : decode cL_law 1230 = .ok (.aload_n 0, 1) := by decide +kernel
theorem dL_law_1231 : decode cL_law 1231 = .ok (.iload_n 3, 1) := by decide +kernel
theorem dL_law_1232 : decode cL_law 1232 = .ok (.iconst 3, 1) := by decide +kernel
theorem dL_law_1233 : decode cL_law 1233 = .ok (.iadd, 1) := by decide +kernel
theorem dL_law_1234 : decode cL_law 1234 = .ok (.iaload, 1) := by decide +kernel
theorem dL_law_1235 : decode cL_law 1235 = .ok (.aload_n 0, 1) := by decide +kernel
theorem dL_law_1236 : decode cL_law 1236 = .ok (.iload_n 3, 1) := by decide +kernel
theorem dL_law_1237 : decode cL_law 1237 = .ok (.iconst 4, 1) := by decide +kernel
theorem dL_law_1238 : decode cL_law 1238 = .ok (.iadd, 1) := by decide +kernel
theorem dL_law_1239 : decode cL_law 1239 = .ok (.iaload, 1) := by decide +kernel
theorem dL_law_1240 : decode cL_law 1240 = .ok (.aload_n 0, 1) := by decide +kernel
theorem dL_law_1241 : decode cL_law 1241 = .ok (.iload_n 3, 1) := by decide +kernel
theorem dL_law_1242 : decode cL_law 1242 = .ok (.iconst 5, 1) := by decide +kernel
theorem dL_law_1243 : decode cL_law 1243 = .ok (.iadd, 1) := by decide +kernel
theorem dL_law_1244 : decode cL_law 1244 = .ok (.iaload, 1) := by decide +kernel
theorem dL_law_1245 : decode cL_law 1245 = .ok (.invokevirtual 136, 3) := by decide +kernel
theorem dL_law_1248 : decode cL_law 1248 = .ok (.if_icmp .eq 159, 3) := by decide +kernel
theorem dL_law_1251 : decode cL_law 1251 = .ok (.iconst 0, 1) := by decide +kernel
theorem dL_law_1252 : decode cL_law 1252 = .ok (.ireturn, 1) := by decide +kernel
theorem dL_law_1253 : decode cL_law 1253 = .ok (.aload_n 1, 1) := by decide +kernel
theorem dL_law_1254 : decode cL_law 1254 = .ok (.aload_n 0, 1) := by decide +kernel
theorem dL_law_1255 : decode cL_law 1255 = .ok (.iload_n 3, 1) := by decide +kernel
theorem dL_law_1256 : decode cL_law 1256 = .ok (.iconst 1, 1) := by decide +kernel
theorem dL_law_1257 : decode cL_law 1257 = .ok (.iadd, 1) := by decide +kernel
theorem dL_law_1258 : decode cL_law 1258 = .ok (.iaload, 1) := by decide +kernel
theorem dL_law_1259 : decode cL_law 1259 = .ok (.invokevirtual 137, 3) := by decide +kernel
theorem dL_law_1262 : decode cL_law 1262 = .ok (.aload_n 2, 1) := by decide +kernel
theorem dL_law_1263 : decode cL_law 1263 = .ok (.aload_n 0, 1) := by decide +kernel
theorem dL_law_1264 : decode cL_law 1264 = .ok (.iload_n 3, 1) := by decide +kernel
theorem dL_law_1265 : decode cL_law 1265 = .ok (.iconst 1, 1) := by decide +kernel
theorem dL_law_1266 : decode cL_law 1266 = .ok (.iadd, 1) := by decide +kernel
theorem dL_law_1267 : decode cL_law 1267 = .ok (.iaload, 1) := by decide +kernel
theorem dL_law_1268 : decode cL_law 1268 = .ok (.invokevirtual 140, 3) := by decide +kernel
theorem dL_law_1271 : decode cL_law 1271 = .ok (.if_icmp .eq 136, 3) := by decide +kernel
theorem dL_law_1274 : decode cL_law 1274 = .ok (.iconst 0, 1) := by decide +kernel
theorem dL_law_1275 : decode cL_law 1275 = .ok (.ireturn, 1) := by decide +kernel
theorem dL_law_1276 : decode cL_law 1276 = .ok (.aload_n 1, 1) := by decide +kernel
theorem dL_law_1277 : decode cL_law 1277 = .ok (.aload_n 0, 1) := by decide +kernel
theorem dL_law_1278 : decode cL_law 1278 = .ok (.iload_n 3, 1) := by decide +kernel
theorem dL_law_1279 : decode cL_law 1279 = .ok (.iconst 1, 1) := by decide +kernel
theorem dL_law_1280 : decode cL_law 1280 = .ok (.iadd, 1) := by decide +kernel
theorem dL_law_1281 : decode cL_law 1281 = .ok (.iaload, 1) := by decide +kernel
theorem dL_law_1282 : decode cL_law 1282 = .ok (.invokevirtual 141, 3) := by decide +kernel
theorem dL_law_1285 : decode cL_law 1285 = .ok (.aload_n 2, 1) := by decide +kernel
theorem dL_law_1286 : decode cL_law 1286 = .ok (.aload_n 0, 1) := by decide +kernel
theorem dL_law_1287 : decode cL_law 1287 = .ok (.iload_n 3, 1) := by decide +kernel
theorem dL_law_1288 : decode cL_law 1288 = .ok (.iconst 1, 1) := by decide +kernel
theorem dL_law_1289 : decode cL_law 1289 = .ok (.iadd, 1) := by decide +kernel
theorem dL_law_1290 : decode cL_law 1290 = .ok (.iaload, 1) := by decide +kernel
theorem dL_law_1291 : decode cL_law 1291 = .ok (.invokevirtual 144, 3) := by decide +kernel
theorem dL_law_1294 : decode cL_law 1294 = .ok (.if_icmp .eq 113, 3) := by decide +kernel
theorem dL_law_1297 : decode cL_law 1297 = .ok (.iconst 0, 1) := by decide +kernel
theorem dL_law_1298 : decode cL_law 1298 = .ok (.ireturn, 1) := by decide +kernel
theorem dL_law_1299 : decode cL_law 1299 = .ok (.aload_n 1, 1) := by decide +kernel
theorem dL_law_1300 : decode cL_law 1300 = .ok (.invokevirtual 145, 3) := by decide +kernel
theorem dL_law_1303 : decode cL_law 1303 = .ok (.aload_n 2, 1) := by decide +kernel
theorem dL_law_1304 : decode cL_law 1304 = .ok (.invokevirtual 149, 3) := by decide +kernel
theorem dL_law_1307 : decode cL_law 1307 = .ok (.if_icmp .eq 100, 3) := by decide +kernel
theorem dL_law_1310 : decode cL_law 1310 = .ok (.iconst 0, 1) := by decide +kernel
theorem dL_law_1311 : decode cL_law 1311 = .ok (.ireturn, 1) := by decide +kernel
theorem dL_law_1312 : decode cL_law 1312 = .ok (.aload_n 1, 1) := by decide +kernel
theorem dL_law_1313 : decode cL_law 1313 = .ok (.invokevirtual 150, 3) := by decide +kernel
theorem dL_law_1316 : decode cL_law 1316 = .ok (.aload_n 2, 1) := by decide +kernel
theorem dL_law_1317 : decode cL_law 1317 = .ok (.invokevirtual 153, 3) := by decide +kernel
theorem dL_law_1320 : decode cL_law 1320 = .ok (.if_icmp .eq 87, 3) := by decide +kernel
theorem dL_law_1323 : decode cL_law 1323 = .ok (.iconst 0, 1) := by decide +kernel
theorem dL_law_1324 : decode cL_law 1324 = .ok (.ireturn, 1) := by decide +kernel
theorem dL_law_1325 : decode cL_law 1325 = .ok (.aload_n 1, 1) := by decide +kernel
theorem dL_law_1326 : decode cL_law 1326 = .ok (.aload_n 0, 1) := by decide +kernel
theorem dL_law_1327 : decode cL_law 1327 = .ok (.iload_n 3, 1) := by decide +kernel
theorem dL_law_1328 : decode cL_law 1328 = .ok (.iconst 1, 1) := by decide +kernel
theorem dL_law_1329 : decode cL_law 1329 = .ok (.iadd, 1) := by decide +kernel
theorem dL_law_1330 : decode cL_law 1330 = .ok (.iaload, 1) := by decide +kernel
theorem dL_law_1331 : decode cL_law 1331 = .ok (.invokevirtual 154, 3) := by decide +kernel
theorem dL_law_1334 : decode cL_law 1334 = .ok (.aload_n 2, 1) := by decide +kernel
theorem dL_law_1335 : decode cL_law 1335 = .ok (.aload_n 0, 1) := by decide +kernel
theorem dL_law_1336 : decode cL_law 1336 = .ok (.iload_n 3, 1) := by decide +kernel
theorem dL_law_1337 : decode cL_law 1337 = .ok (.iconst 1, 1) := by decide +kernel
theorem dL_law_1338 : decode cL_law 1338 = .ok (.iadd, 1) := by decide +kernel
theorem dL_law_1339 : decode cL_law 1339 = .ok (.iaload, 1) := by decide +kernel
theorem dL_law_1340 : decode cL_law 1340 = .ok (.invokevirtual 157, 3) := by decide +kernel
theorem dL_law_1343 : decode cL_law 1343 = .ok (.if_icmp .eq 64, 3) := by decide +kernel
theorem dL_law_1346 : decode cL_law 1346 = .ok (.iconst 0, 1) := by decide +kernel
theorem dL_law_1347 : decode cL_law 1347 = .ok (.ireturn, 1) := by decide +kernel
theorem dL_law_1348 : decode cL_law 1348 = .ok (.aload_n 1, 1) := by decide +kernel
theorem dL_law_1349 : decode cL_law 1349 = .ok (.invokevirtual 158, 3) := by decide +kernel
theorem dL_law_1352 : decode cL_law 1352 = .ok (.aload_n 2, 1) := by decide +kernel
theorem dL_law_1353 : decode cL_law 1353 = .ok (.invokevirtual 161, 3) := by decide +kernel
theorem dL_law_1356 : decode cL_law 1356 = .ok (.if_icmp .eq 51, 3) := by decide +kernel
theorem dL_law_1359 : decode cL_law 1359 = .ok (.iconst 0, 1) := by decide +kernel
theorem dL_law_1360 : decode cL_law 1360 = .ok (.ireturn, 1) := by decide +kernel
theorem dL_law_1361 : decode cL_law 1361 = .ok (.aload_n 1, 1) := by decide +kernel
theorem dL_law_1362 : decode cL_law 1362 = .ok (.aload_n 0, 1) := by decide +kernel
theorem dL_law_1363 : decode cL_law 1363 = .ok (.iload_n 3, 1) := by decide +kernel
theorem dL_law_1364 : decode cL_law 1364 = .ok (.iconst 1, 1) := by decide +kernel
theorem dL_law_1365 : decode cL_law 1365 = .ok (.iadd, 1) := by decide +kernel
theorem dL_law_1366 : decode cL_law 1366 = .ok (.iaload, 1) := by decide +kernel
theorem dL_law_1367 : decode cL_law 1367 = .ok (.invokevirtual 162, 3) := by decide +kernel
theorem dL_law_1370 : decode cL_law 1370 = .ok (.aload_n 2, 1) := by decide +kernel
theorem dL_law_1371 : decode cL_law 1371 = .ok (.aload_n 0, 1) := by decide +kernel
theorem dL_law_1372 : decode cL_law 1372 = .ok (.iload_n 3, 1) := by decide +kernel
theorem dL_law_1373 : decode cL_law 1373 = .ok (.iconst 1, 1) := by decide +kernel
theorem dL_law_1374 : decode cL_law 1374 = .ok (.iadd, 1) := by decide +kernel
theorem dL_law_1375 : decode cL_law 1375 = .ok (.iaload, 1) := by decide +kernel
theorem dL_law_1376 : decode cL_law 1376 = .ok (.invokevirtual 165, 3) := by decide +kernel
theorem dL_law_1379 : decode cL_law 1379 = .ok (.if_icmp .eq 28, 3) := by decide +kernel
theorem dL_law_1382 : decode cL_law 1382 = .ok (.iconst 0, 1) := by decide +kernel
theorem dL_law_1383 : decode cL_law 1383 = .ok (.ireturn, 1) := by decide +kernel
theorem dL_law_1384 : decode cL_law 1384 = .ok (.aload_n 1, 1) := by decide +kernel
theorem dL_law_1385 : decode cL_law 1385 = .ok (.aload_n 0, 1) := by decide +kernel
theorem dL_law_1386 : decode cL_law 1386 = .ok (.iload_n 3, 1) := by decide +kernel
theorem dL_law_1387 : decode cL_law 1387 = .ok (.iconst 1, 1) := by decide +kernel
theorem dL_law_1388 : decode cL_law 1388 = .ok (.iadd, 1) := by decide +kernel
theorem dL_law_1389 : decode cL_law 1389 = .ok (.iaload, 1) := by decide +kernel
theorem dL_law_1390 : decode cL_law 1390 = .ok (.invokevirtual 166, 3) := by decide +kernel
theorem dL_law_1393 : decode cL_law 1393 = .ok (.aload_n 2, 1) := by decide +kernel
theorem dL_law_1394 : decode cL_law 1394 = .ok (.aload_n 0, 1) := by decide +kernel
theorem dL_law_1395 : decode cL_law 1395 = .ok (.iload_n 3, 1) := by decide +kernel
theorem dL_law_1396 : decode cL_law 1396 = .ok (.iconst 1, 1) := by decide +kernel
theorem dL_law_1397 : decode cL_law 1397 = .ok (.iadd, 1) := by decide +kernel
theorem dL_law_1398 : decode cL_law 1398 = .ok (.iaload, 1) := by decide +kernel
theorem dL_law_1399 : decode cL_law 1399 = .ok (.invokevirtual 169, 3) := by decide +kernel
theorem dL_law_1402 : decode cL_law 1402 = .ok (.if_icmp .eq 5, 3) := by decide +kernel
theorem dL_law_1405 : decode cL_law 1405 = .ok (.iconst 0, 1) := by decide +kernel
theorem dL_law_1406 : decode cL_law 1406 = .ok (.ireturn, 1) := by decide +kernel
theorem dL_law_1407 : decode cL_law 1407 = .ok (.iinc 3 6, 3) := by decide +kernel
theorem dL_law_1410 : decode cL_law 1410 = .ok (.goto (-1392), 3) := by decide +kernel
theorem dL_law_1413 : decode cL_law 1413 = .ok (.iconst 1, 1) := by decide +kernel
theorem dL_law_1414 : decode cL_law 1414 = .ok (.ireturn, 1) := by decide +kernel
end
section
theorem xx_try : True := trivial
end
