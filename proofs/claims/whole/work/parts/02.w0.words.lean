def WS : List Cond := lw_tbl.filter goodWord
theorem WS_in {w : Cond} (h : w ∈ lw_tbl) (h2 : goodWord w = true) : w ∈ WS := List.mem_filter.mpr ⟨h, h2⟩
theorem WS_tbl {w : Cond} (h : w ∈ WS) : w ∈ lw_tbl := (List.mem_filter.mp h).1
theorem WS_good : GoodIn WS WS := fun w h => ⟨h, good_of_word (List.mem_filter.mp h).2⟩
theorem tb_p {w : Cond} (h : w ∈ k2_sels lw_privs) : w ∈ lw_tbl := List.mem_append_left _ h
theorem tb_0 {w : Cond} (h : w ∈ tables_1) : w ∈ lw_tbl := List.mem_append_right _ h
theorem tb_1 {w : Cond} (h : w ∈ tables_1_1) : w ∈ lw_tbl := tb_0 (List.mem_append_left _ h)
theorem tb_2 {w : Cond} (h : w ∈ tables_1_2) : w ∈ lw_tbl := tb_0 (List.mem_append_right _ (List.mem_append_left _ h))
theorem tb_3 {w : Cond} (h : w ∈ tables_1_3) : w ∈ lw_tbl := tb_0 (List.mem_append_right _ (List.mem_append_right _ (List.mem_append_left _ h)))
theorem tb_4 {w : Cond} (h : w ∈ tables_1_4) : w ∈ lw_tbl := tb_0 (List.mem_append_right _ (List.mem_append_right _ (List.mem_append_right _ (List.mem_append_left _ h))))
theorem tb_5 {w : Cond} (h : w ∈ tables_1_5) : w ∈ lw_tbl := tb_0 (List.mem_append_right _ (List.mem_append_right _ (List.mem_append_right _ (List.mem_append_right _ (List.mem_append_left _ h)))))
theorem tb_6 {w : Cond} (h : w ∈ tables_1_6) : w ∈ lw_tbl := tb_0 (List.mem_append_right _ (List.mem_append_right _ (List.mem_append_right _ (List.mem_append_right _ (List.mem_append_right _ h)))))
theorem inW0 : ∀ w ∈ wsX00, w ∈ WS := fun w h => WS_in ((by decide +kernel : ∀ w ∈ wsX00, w ∈ lw_tbl) w h) ((by decide +kernel : ∀ w ∈ wsX00, goodWord w = true) w h)
theorem inW1 : ∀ w ∈ wsX10, w ∈ WS := fun w h => WS_in ((by decide +kernel : ∀ w ∈ wsX10, w ∈ lw_tbl) w h) ((by decide +kernel : ∀ w ∈ wsX10, goodWord w = true) w h)
theorem inW2 : ∀ w ∈ wsX20, w ∈ WS := fun w h => WS_in ((by decide +kernel : ∀ w ∈ wsX20, w ∈ lw_tbl) w h) ((by decide +kernel : ∀ w ∈ wsX20, goodWord w = true) w h)
theorem inW3 : ∀ w ∈ wsX30, w ∈ WS := fun w h => WS_in ((by decide +kernel : ∀ w ∈ wsX30, w ∈ lw_tbl) w h) ((by decide +kernel : ∀ w ∈ wsX30, goodWord w = true) w h)
theorem inW4 : ∀ w ∈ wsX40, w ∈ WS := fun w h => WS_in ((by decide +kernel : ∀ w ∈ wsX40, w ∈ lw_tbl) w h) ((by decide +kernel : ∀ w ∈ wsX40, goodWord w = true) w h)
theorem inW5 : ∀ w ∈ wsX50, w ∈ WS := fun w h => WS_in ((by decide +kernel : ∀ w ∈ wsX50, w ∈ lw_tbl) w h) ((by decide +kernel : ∀ w ∈ wsX50, goodWord w = true) w h)
theorem inW6 : ∀ w ∈ wsX60, w ∈ WS := fun w h => WS_in ((by decide +kernel : ∀ w ∈ wsX60, w ∈ lw_tbl) w h) ((by decide +kernel : ∀ w ∈ wsX60, goodWord w = true) w h)
theorem inW7 : ∀ w ∈ wsX70, w ∈ WS := fun w h => WS_in ((by decide +kernel : ∀ w ∈ wsX70, w ∈ lw_tbl) w h) ((by decide +kernel : ∀ w ∈ wsX70, goodWord w = true) w h)
theorem in_L : Cond.initialized RL ∈ WS := WS_in (tb_1 (List.mem_of_getElem? (i := 0) (by decide +kernel))) rfl
theorem in_X6 : Cond.initialized RX6 ∈ WS := WS_in (tb_1 (List.mem_of_getElem? (i := 1) (by decide +kernel))) rfl
theorem in_X0 : Cond.initialized RX0 ∈ WS := WS_in (tb_1 (List.mem_of_getElem? (i := 2) (by decide +kernel))) rfl
theorem in_X4 : Cond.initialized RX4 ∈ WS := WS_in (tb_1 (List.mem_of_getElem? (i := 3) (by decide +kernel))) rfl
theorem in_X1 : Cond.initialized RX1 ∈ WS := WS_in (tb_1 (List.mem_of_getElem? (i := 4) (by decide +kernel))) rfl
theorem in_X2 : Cond.initialized RX2 ∈ WS := WS_in (tb_1 (List.mem_of_getElem? (i := 5) (by decide +kernel))) rfl
theorem in_X5 : Cond.initialized RX5 ∈ WS := WS_in (tb_1 (List.mem_of_getElem? (i := 6) (by decide +kernel))) rfl
theorem in_X3 : Cond.initialized RX3 ∈ WS := WS_in (tb_1 (List.mem_of_getElem? (i := 7) (by decide +kernel))) rfl
theorem in_X7 : Cond.initialized RX7 ∈ WS := WS_in (tb_1 (List.mem_of_getElem? (i := 8) (by decide +kernel))) rfl
theorem in_J9 : Cond.initialized RJ9 ∈ WS := WS_in (tb_1 (List.mem_of_getElem? (i := 9) (by decide +kernel))) rfl
theorem in_J10 : Cond.initialized RJ10 ∈ WS := WS_in (tb_1 (List.mem_of_getElem? (i := 10) (by decide +kernel))) rfl
theorem in_J0 : Cond.initialized RJ0 ∈ WS := WS_in (tb_1 (List.mem_of_getElem? (i := 11) (by decide +kernel))) rfl
theorem in_J1 : Cond.initialized RJ1 ∈ WS := WS_in (tb_1 (List.mem_of_getElem? (i := 12) (by decide +kernel))) rfl
theorem in_J2 : Cond.initialized RJ2 ∈ WS := WS_in (tb_1 (List.mem_of_getElem? (i := 13) (by decide +kernel))) rfl
theorem in_J3 : Cond.initialized RJ3 ∈ WS := WS_in (tb_1 (List.mem_of_getElem? (i := 14) (by decide +kernel))) rfl
theorem in_J11 : Cond.initialized RJ11 ∈ WS := WS_in (tb_1 (List.mem_of_getElem? (i := 15) (by decide +kernel))) rfl
theorem in_J6 : Cond.initialized RJ6 ∈ WS := WS_in (tb_1 (List.mem_of_getElem? (i := 16) (by decide +kernel))) rfl
theorem ck_L_7 : Cond.classLink RL 7 RX6 ∈ WS := WS_in (tb_1 (List.mem_of_getElem? (i := 17) (by decide +kernel))) rfl
theorem it_X6 : Cond.instantiable RX6 8 ∈ WS := WS_in (tb_1 (List.mem_of_getElem? (i := 18) (by decide +kernel))) rfl
theorem mk_L_9 : Cond.methodLink RL 9 yX6_init ∈ WS := WS_in (tb_1 (List.mem_of_getElem? (i := 19) (by decide +kernel))) rfl
theorem im_yX6_init : Cond.instanceMethod yX6_init ∈ WS := WS_in (tb_1 (List.mem_of_getElem? (i := 20) (by decide +kernel))) rfl
theorem co_yX6_init : Cond.code yX6_init cX6_init 2 none ∈ WS := WS_in (tb_1 (List.mem_of_getElem? (i := 21) (by decide +kernel))) rfl
theorem mk_X6_1 : Cond.methodLink RX6 1 objectInit ∈ WS := WS_in (tb_1 (List.mem_of_getElem? (i := 22) (by decide +kernel))) rfl
theorem im_objectInit : Cond.instanceMethod objectInit ∈ WS := WS_in (tb_1 (List.mem_of_getElem? (i := 23) (by decide +kernel))) rfl
theorem ck_X6_7 : Cond.classLink RX6 7 RX0 ∈ WS := WS_in (tb_1 (List.mem_of_getElem? (i := 25) (by decide +kernel))) rfl
theorem it_X0 : Cond.instantiable RX0 13 ∈ WS := WS_in (tb_1 (List.mem_of_getElem? (i := 26) (by decide +kernel))) rfl
theorem mk_X6_9 : Cond.methodLink RX6 9 yX0_init ∈ WS := WS_in (tb_1 (List.mem_of_getElem? (i := 27) (by decide +kernel))) rfl
theorem im_yX0_init : Cond.instanceMethod yX0_init ∈ WS := WS_in (tb_1 (List.mem_of_getElem? (i := 28) (by decide +kernel))) rfl
theorem co_yX0_init : Cond.code yX0_init cX0_init 2 none ∈ WS := WS_in (tb_1 (List.mem_of_getElem? (i := 29) (by decide +kernel))) rfl
theorem mk_X0_3 : Cond.methodLink RX0 3 objectInit ∈ WS := WS_in (tb_1 (List.mem_of_getElem? (i := 30) (by decide +kernel))) rfl
theorem ck_X0_9 : Cond.classLink RX0 9 RX4 ∈ WS := WS_in (tb_1 (List.mem_of_getElem? (i := 31) (by decide +kernel))) rfl
theorem ck_X0_39 : Cond.classLink RX0 39 RX1 ∈ WS := WS_in (tb_1 (List.mem_of_getElem? (i := 33) (by decide +kernel))) rfl
theorem it_X4 : Cond.instantiable RX4 7 ∈ WS := WS_in (tb_1 (List.mem_of_getElem? (i := 35) (by decide +kernel))) rfl
theorem im_yX4_init : Cond.instanceMethod yX4_init ∈ WS := WS_in (tb_1 (List.mem_of_getElem? (i := 37) (by decide +kernel))) rfl
theorem co_yX4_init : Cond.code yX4_init cX4_init 1 none ∈ WS := WS_in (tb_1 (List.mem_of_getElem? (i := 38) (by decide +kernel))) rfl
theorem mk_X4_3 : Cond.methodLink RX4 3 objectInit ∈ WS := WS_in (tb_1 (List.mem_of_getElem? (i := 39) (by decide +kernel))) rfl
theorem fk_X4_9 : Cond.fieldLink RX4 9 "BreadSpans$Span" "kind" "I" ∈ WS := WS_in (tb_1 (List.mem_of_getElem? (i := 40) (by decide +kernel))) rfl
theorem fk_X5_32 : Cond.fieldLink RX5 32 "BreadSpans$Span" "kind" "I" ∈ WS := WS_in (tb_1 (List.mem_of_getElem? (i := 41) (by decide +kernel))) rfl
theorem fk_X6_81 : Cond.fieldLink RX6 81 "BreadSpans$Span" "kind" "I" ∈ WS := WS_in (tb_1 (List.mem_of_getElem? (i := 42) (by decide +kernel))) rfl
theorem fk_X0_81 : Cond.fieldLink RX0 81 "BreadSpans$Span" "kind" "I" ∈ WS := WS_in (tb_1 (List.mem_of_getElem? (i := 43) (by decide +kernel))) rfl
theorem fk_X4_15 : Cond.fieldLink RX4 15 "BreadSpans$Span" "m" "I" ∈ WS := WS_in (tb_1 (List.mem_of_getElem? (i := 44) (by decide +kernel))) rfl
theorem fk_X5_35 : Cond.fieldLink RX5 35 "BreadSpans$Span" "m" "I" ∈ WS := WS_in (tb_1 (List.mem_of_getElem? (i := 45) (by decide +kernel))) rfl
theorem fk_X6_86 : Cond.fieldLink RX6 86 "BreadSpans$Span" "m" "I" ∈ WS := WS_in (tb_1 (List.mem_of_getElem? (i := 46) (by decide +kernel))) rfl
theorem fk_X0_84 : Cond.fieldLink RX0 84 "BreadSpans$Span" "m" "I" ∈ WS := WS_in (tb_1 (List.mem_of_getElem? (i := 47) (by decide +kernel))) rfl
theorem fk_X4_18 : Cond.fieldLink RX4 18 "BreadSpans$Span" "one" "I" ∈ WS := WS_in (tb_1 (List.mem_of_getElem? (i := 48) (by decide +kernel))) rfl
theorem fk_X6_89 : Cond.fieldLink RX6 89 "BreadSpans$Span" "one" "I" ∈ WS := WS_in (tb_1 (List.mem_of_getElem? (i := 49) (by decide +kernel))) rfl
theorem fk_X0_87 : Cond.fieldLink RX0 87 "BreadSpans$Span" "one" "I" ∈ WS := WS_in (tb_1 (List.mem_of_getElem? (i := 50) (by decide +kernel))) rfl
theorem fk_X4_21 : Cond.fieldLink RX4 21 "BreadSpans$Span" "other" "I" ∈ WS := WS_in (tb_1 (List.mem_of_getElem? (i := 51) (by decide +kernel))) rfl
theorem fk_X6_92 : Cond.fieldLink RX6 92 "BreadSpans$Span" "other" "I" ∈ WS := WS_in (tb_1 (List.mem_of_getElem? (i := 52) (by decide +kernel))) rfl
theorem fk_X0_90 : Cond.fieldLink RX0 90 "BreadSpans$Span" "other" "I" ∈ WS := WS_in (tb_1 (List.mem_of_getElem? (i := 53) (by decide +kernel))) rfl
theorem fk_X4_24 : Cond.fieldLink RX4 24 "BreadSpans$Span" "age" "I" ∈ WS := WS_in (tb_1 (List.mem_of_getElem? (i := 54) (by decide +kernel))) rfl
theorem fk_X6_95 : Cond.fieldLink RX6 95 "BreadSpans$Span" "age" "I" ∈ WS := WS_in (tb_1 (List.mem_of_getElem? (i := 55) (by decide +kernel))) rfl
theorem fk_X0_127 : Cond.fieldLink RX0 127 "BreadSpans$Span" "age" "I" ∈ WS := WS_in (tb_1 (List.mem_of_getElem? (i := 56) (by decide +kernel))) rfl
theorem fk_X4_27 : Cond.fieldLink RX4 27 "BreadSpans$Span" "wet" "I" ∈ WS := WS_in (tb_1 (List.mem_of_getElem? (i := 57) (by decide +kernel))) rfl
theorem fk_X6_98 : Cond.fieldLink RX6 98 "BreadSpans$Span" "wet" "I" ∈ WS := WS_in (tb_1 (List.mem_of_getElem? (i := 58) (by decide +kernel))) rfl
theorem fk_X0_124 : Cond.fieldLink RX0 124 "BreadSpans$Span" "wet" "I" ∈ WS := WS_in (tb_1 (List.mem_of_getElem? (i := 59) (by decide +kernel))) rfl
theorem fk_X4_30 : Cond.fieldLink RX4 30 "BreadSpans$Span" "gone" "Z" ∈ WS := WS_in (tb_1 (List.mem_of_getElem? (i := 60) (by decide +kernel))) rfl
theorem fk_X6_101 : Cond.fieldLink RX6 101 "BreadSpans$Span" "gone" "Z" ∈ WS := WS_in (tb_1 (List.mem_of_getElem? (i := 61) (by decide +kernel))) rfl
theorem fk_X0_110 : Cond.fieldLink RX0 110 "BreadSpans$Span" "gone" "Z" ∈ WS := WS_in (tb_1 (List.mem_of_getElem? (i := 62) (by decide +kernel))) rfl
theorem ac_char : Cond.arrayClass .char ∈ WS := WS_in (tb_1 (List.mem_of_getElem? (i := 78) (by decide +kernel))) rfl
theorem ac_int : Cond.arrayClass .int ∈ WS := WS_in (tb_1 (List.mem_of_getElem? (i := 79) (by decide +kernel))) rfl
theorem it_X1 : Cond.instantiable RX1 4 ∈ WS := WS_in (tb_1 (List.mem_of_getElem? (i := 80) (by decide +kernel))) rfl
theorem im_yX1_init : Cond.instanceMethod yX1_init ∈ WS := WS_in (tb_1 (List.mem_of_getElem? (i := 82) (by decide +kernel))) rfl
theorem co_yX1_init : Cond.code yX1_init cX1_init 1 none ∈ WS := WS_in (tb_1 (List.mem_of_getElem? (i := 83) (by decide +kernel))) rfl
theorem mk_X1_3 : Cond.methodLink RX1 3 objectInit ∈ WS := WS_in (tb_1 (List.mem_of_getElem? (i := 84) (by decide +kernel))) rfl
theorem fk_X1_9 : Cond.fieldLink RX1 9 "BreadSpans$Law" "written" "Z" ∈ WS := WS_in (tb_1 (List.mem_of_getElem? (i := 85) (by decide +kernel))) rfl
theorem fk_X0_95 : Cond.fieldLink RX0 95 "BreadSpans$Law" "written" "Z" ∈ WS := WS_in (tb_1 (List.mem_of_getElem? (i := 86) (by decide +kernel))) rfl
theorem fk_X6_171 : Cond.fieldLink RX6 171 "BreadSpans$Law" "written" "Z" ∈ WS := WS_in (tb_1 (List.mem_of_getElem? (i := 87) (by decide +kernel))) rfl
theorem fk_X1_15 : Cond.fieldLink RX1 15 "BreadSpans$Law" "length" "I" ∈ WS := WS_in (tb_1 (List.mem_of_getElem? (i := 88) (by decide +kernel))) rfl
theorem fk_X1_19 : Cond.fieldLink RX1 19 "BreadSpans$Law" "code" "[I" ∈ WS := WS_in (tb_1 (List.mem_of_getElem? (i := 89) (by decide +kernel))) rfl
theorem fk_X1_23 : Cond.fieldLink RX1 23 "BreadSpans$Law" "open" "[I" ∈ WS := WS_in (tb_1 (List.mem_of_getElem? (i := 90) (by decide +kernel))) rfl
theorem fk_X0_11 : Cond.fieldLink RX0 11 "BreadSpans$Delta" "spans" "[LBreadSpans$Span;" ∈ WS := WS_in (tb_1 (List.mem_of_getElem? (i := 100) (by decide +kernel))) rfl
theorem fk_X6_77 : Cond.fieldLink RX6 77 "BreadSpans$Delta" "spans" "[LBreadSpans$Span;" ∈ WS := WS_in (tb_1 (List.mem_of_getElem? (i := 101) (by decide +kernel))) rfl
theorem fk_X0_17 : Cond.fieldLink RX0 17 "BreadSpans$Delta" "many" "I" ∈ WS := WS_in (tb_1 (List.mem_of_getElem? (i := 102) (by decide +kernel))) rfl
theorem fk_X6_63 : Cond.fieldLink RX6 63 "BreadSpans$Delta" "many" "I" ∈ WS := WS_in (tb_1 (List.mem_of_getElem? (i := 103) (by decide +kernel))) rfl
theorem fk_X0_21 : Cond.fieldLink RX0 21 "BreadSpans$Delta" "rain" "I" ∈ WS := WS_in (tb_1 (List.mem_of_getElem? (i := 104) (by decide +kernel))) rfl
theorem fk_X6_124 : Cond.fieldLink RX6 124 "BreadSpans$Delta" "rain" "I" ∈ WS := WS_in (tb_1 (List.mem_of_getElem? (i := 105) (by decide +kernel))) rfl
theorem fk_X0_24 : Cond.fieldLink RX0 24 "BreadSpans$Delta" "flour" "I" ∈ WS := WS_in (tb_1 (List.mem_of_getElem? (i := 106) (by decide +kernel))) rfl
theorem fk_X6_118 : Cond.fieldLink RX6 118 "BreadSpans$Delta" "flour" "I" ∈ WS := WS_in (tb_1 (List.mem_of_getElem? (i := 107) (by decide +kernel))) rfl
theorem fk_X0_27 : Cond.fieldLink RX0 27 "BreadSpans$Delta" "day" "I" ∈ WS := WS_in (tb_1 (List.mem_of_getElem? (i := 108) (by decide +kernel))) rfl
theorem fk_X6_105 : Cond.fieldLink RX6 105 "BreadSpans$Delta" "day" "I" ∈ WS := WS_in (tb_1 (List.mem_of_getElem? (i := 109) (by decide +kernel))) rfl
theorem fk_X0_30 : Cond.fieldLink RX0 30 "BreadSpans$Delta" "lost" "I" ∈ WS := WS_in (tb_1 (List.mem_of_getElem? (i := 110) (by decide +kernel))) rfl
theorem fk_X6_277 : Cond.fieldLink RX6 277 "BreadSpans$Delta" "lost" "I" ∈ WS := WS_in (tb_1 (List.mem_of_getElem? (i := 111) (by decide +kernel))) rfl
theorem fk_X0_33 : Cond.fieldLink RX0 33 "BreadSpans$Delta" "toll" "I" ∈ WS := WS_in (tb_1 (List.mem_of_getElem? (i := 112) (by decide +kernel))) rfl
theorem fk_X6_280 : Cond.fieldLink RX6 280 "BreadSpans$Delta" "toll" "I" ∈ WS := WS_in (tb_1 (List.mem_of_getElem? (i := 113) (by decide +kernel))) rfl
theorem fk_X0_36 : Cond.fieldLink RX0 36 "BreadSpans$Delta" "z" "I" ∈ WS := WS_in (tb_1 (List.mem_of_getElem? (i := 114) (by decide +kernel))) rfl
theorem fk_X6_184 : Cond.fieldLink RX6 184 "BreadSpans$Delta" "z" "I" ∈ WS := WS_in (tb_1 (List.mem_of_getElem? (i := 115) (by decide +kernel))) rfl
theorem fk_X0_41 : Cond.fieldLink RX0 41 "BreadSpans$Delta" "laws" "[LBreadSpans$Law;" ∈ WS := WS_in (tb_1 (List.mem_of_getElem? (i := 116) (by decide +kernel))) rfl
theorem fk_X6_155 : Cond.fieldLink RX6 155 "BreadSpans$Delta" "laws" "[LBreadSpans$Law;" ∈ WS := WS_in (tb_1 (List.mem_of_getElem? (i := 117) (by decide +kernel))) rfl
theorem fk_X0_45 : Cond.fieldLink RX0 45 "BreadSpans$Delta" "tape" "[C" ∈ WS := WS_in (tb_1 (List.mem_of_getElem? (i := 118) (by decide +kernel))) rfl
theorem fk_X6_144 : Cond.fieldLink RX6 144 "BreadSpans$Delta" "tape" "[C" ∈ WS := WS_in (tb_1 (List.mem_of_getElem? (i := 119) (by decide +kernel))) rfl
theorem fk_X0_49 : Cond.fieldLink RX0 49 "BreadSpans$Delta" "taped" "I" ∈ WS := WS_in (tb_1 (List.mem_of_getElem? (i := 120) (by decide +kernel))) rfl
theorem fk_X6_134 : Cond.fieldLink RX6 134 "BreadSpans$Delta" "taped" "I" ∈ WS := WS_in (tb_1 (List.mem_of_getElem? (i := 121) (by decide +kernel))) rfl
theorem fk_X0_52 : Cond.fieldLink RX0 52 "BreadSpans$Delta" "waiting" "[I" ∈ WS := WS_in (tb_1 (List.mem_of_getElem? (i := 122) (by decide +kernel))) rfl
theorem fk_X6_274 : Cond.fieldLink RX6 274 "BreadSpans$Delta" "waiting" "[I" ∈ WS := WS_in (tb_1 (List.mem_of_getElem? (i := 123) (by decide +kernel))) rfl
theorem fk_X0_56 : Cond.fieldLink RX0 56 "BreadSpans$Delta" "waits" "I" ∈ WS := WS_in (tb_1 (List.mem_of_getElem? (i := 124) (by decide +kernel))) rfl
theorem fk_X6_271 : Cond.fieldLink RX6 271 "BreadSpans$Delta" "waits" "I" ∈ WS := WS_in (tb_1 (List.mem_of_getElem? (i := 125) (by decide +kernel))) rfl
theorem ck_X6_22 : Cond.classLink RX6 22 RX2 ∈ WS := WS_in (tb_1 (List.mem_of_getElem? (i := 153) (by decide +kernel))) rfl
theorem it_X2 : Cond.instantiable RX2 6 ∈ WS := WS_in (tb_1 (List.mem_of_getElem? (i := 154) (by decide +kernel))) rfl
theorem im_yX2_init : Cond.instanceMethod yX2_init ∈ WS := WS_in (tb_1 (List.mem_of_getElem? (i := 156) (by decide +kernel))) rfl
theorem co_yX2_init : Cond.code yX2_init cX2_init 1 none ∈ WS := WS_in (tb_1 (List.mem_of_getElem? (i := 157) (by decide +kernel))) rfl
theorem mk_X2_3 : Cond.methodLink RX2 3 objectInit ∈ WS := WS_in (tb_1 (List.mem_of_getElem? (i := 158) (by decide +kernel))) rfl
theorem fk_X2_9 : Cond.fieldLink RX2 9 "BreadSpans$Reader" "code" "[I" ∈ WS := WS_in (tb_1 (List.mem_of_getElem? (i := 160) (by decide +kernel))) rfl
theorem fk_X6_159 : Cond.fieldLink RX6 159 "BreadSpans$Reader" "code" "[I" ∈ WS := WS_in (tb_1 (List.mem_of_getElem? (i := 161) (by decide +kernel))) rfl
theorem fk_X2_15 : Cond.fieldLink RX2 15 "BreadSpans$Reader" "made" "I" ∈ WS := WS_in (tb_1 (List.mem_of_getElem? (i := 162) (by decide +kernel))) rfl
theorem fk_X6_162 : Cond.fieldLink RX6 162 "BreadSpans$Reader" "made" "I" ∈ WS := WS_in (tb_1 (List.mem_of_getElem? (i := 163) (by decide +kernel))) rfl
theorem fk_X2_19 : Cond.fieldLink RX2 19 "BreadSpans$Reader" "at" "I" ∈ WS := WS_in (tb_1 (List.mem_of_getElem? (i := 164) (by decide +kernel))) rfl
theorem fk_X6_152 : Cond.fieldLink RX6 152 "BreadSpans$Reader" "at" "I" ∈ WS := WS_in (tb_1 (List.mem_of_getElem? (i := 165) (by decide +kernel))) rfl
theorem fk_X2_22 : Cond.fieldLink RX2 22 "BreadSpans$Reader" "bytes" "[C" ∈ WS := WS_in (tb_1 (List.mem_of_getElem? (i := 166) (by decide +kernel))) rfl
theorem fk_X2_26 : Cond.fieldLink RX2 26 "BreadSpans$Reader" "n" "I" ∈ WS := WS_in (tb_1 (List.mem_of_getElem? (i := 167) (by decide +kernel))) rfl
theorem fk_X2_31 : Cond.fieldLink RX2 31 "BreadSpans$Reader" "names" "Ljava/lang/String;" ∈ WS := WS_in (tb_1 (List.mem_of_getElem? (i := 168) (by decide +kernel))) rfl
theorem ck_X6_29 : Cond.classLink RX6 29 RX5 ∈ WS := WS_in (tb_1 (List.mem_of_getElem? (i := 183) (by decide +kernel))) rfl
theorem it_X5 : Cond.instantiable RX5 6 ∈ WS := WS_in (tb_1 (List.mem_of_getElem? (i := 184) (by decide +kernel))) rfl
theorem im_yX5_init : Cond.instanceMethod yX5_init ∈ WS := WS_in (tb_1 (List.mem_of_getElem? (i := 186) (by decide +kernel))) rfl
theorem co_yX5_init : Cond.code yX5_init cX5_init 1 none ∈ WS := WS_in (tb_1 (List.mem_of_getElem? (i := 187) (by decide +kernel))) rfl
theorem mk_X5_3 : Cond.methodLink RX5 3 objectInit ∈ WS := WS_in (tb_1 (List.mem_of_getElem? (i := 188) (by decide +kernel))) rfl
theorem fk_X5_9 : Cond.fieldLink RX5 9 "BreadSpans$Voices" "trace" "[I" ∈ WS := WS_in (tb_1 (List.mem_of_getElem? (i := 189) (by decide +kernel))) rfl
theorem fk_X6_247 : Cond.fieldLink RX6 247 "BreadSpans$Voices" "trace" "[I" ∈ WS := WS_in (tb_1 (List.mem_of_getElem? (i := 190) (by decide +kernel))) rfl
theorem fk_X5_15 : Cond.fieldLink RX5 15 "BreadSpans$Voices" "traced" "I" ∈ WS := WS_in (tb_1 (List.mem_of_getElem? (i := 191) (by decide +kernel))) rfl
theorem fk_X6_244 : Cond.fieldLink RX6 244 "BreadSpans$Voices" "traced" "I" ∈ WS := WS_in (tb_1 (List.mem_of_getElem? (i := 192) (by decide +kernel))) rfl
theorem fk_X5_19 : Cond.fieldLink RX5 19 "BreadSpans$Voices" "parted" "Z" ∈ WS := WS_in (tb_1 (List.mem_of_getElem? (i := 193) (by decide +kernel))) rfl
theorem fk_X6_241 : Cond.fieldLink RX6 241 "BreadSpans$Voices" "parted" "Z" ∈ WS := WS_in (tb_1 (List.mem_of_getElem? (i := 194) (by decide +kernel))) rfl
theorem fk_X5_23 : Cond.fieldLink RX5 23 "BreadSpans$Voices" "kind" "I" ∈ WS := WS_in (tb_1 (List.mem_of_getElem? (i := 195) (by decide +kernel))) rfl
theorem fk_X5_26 : Cond.fieldLink RX5 26 "BreadSpans$Voices" "m" "I" ∈ WS := WS_in (tb_1 (List.mem_of_getElem? (i := 196) (by decide +kernel))) rfl
theorem fk_X5_29 : Cond.fieldLink RX5 29 "BreadSpans$Voices" "k" "I" ∈ WS := WS_in (tb_1 (List.mem_of_getElem? (i := 197) (by decide +kernel))) rfl
theorem ck_X6_36 : Cond.classLink RX6 36 RX3 ∈ WS := WS_in (tb_1 (List.mem_of_getElem? (i := 211) (by decide +kernel))) rfl
theorem it_X3 : Cond.instantiable RX3 3 ∈ WS := WS_in (tb_1 (List.mem_of_getElem? (i := 213) (by decide +kernel))) rfl
theorem im_yX3_init : Cond.instanceMethod yX3_init ∈ WS := WS_in (tb_1 (List.mem_of_getElem? (i := 215) (by decide +kernel))) rfl
theorem co_yX3_init : Cond.code yX3_init cX3_init 1 none ∈ WS := WS_in (tb_1 (List.mem_of_getElem? (i := 216) (by decide +kernel))) rfl
theorem mk_X3_3 : Cond.methodLink RX3 3 objectInit ∈ WS := WS_in (tb_1 (List.mem_of_getElem? (i := 217) (by decide +kernel))) rfl
theorem fk_X3_9 : Cond.fieldLink RX3 9 "BreadSpans$Sheet" "bits" "I" ∈ WS := WS_in (tb_1 (List.mem_of_getElem? (i := 218) (by decide +kernel))) rfl
theorem fk_X6_256 : Cond.fieldLink RX6 256 "BreadSpans$Sheet" "bits" "I" ∈ WS := WS_in (tb_1 (List.mem_of_getElem? (i := 219) (by decide +kernel))) rfl
theorem fk_X3_15 : Cond.fieldLink RX3 15 "BreadSpans$Sheet" "n" "I" ∈ WS := WS_in (tb_1 (List.mem_of_getElem? (i := 220) (by decide +kernel))) rfl
theorem fk_X0_154 : Cond.fieldLink RX0 154 "BreadSpans$Sheet" "n" "I" ∈ WS := WS_in (tb_1 (List.mem_of_getElem? (i := 221) (by decide +kernel))) rfl
theorem fk_X6_234 : Cond.fieldLink RX6 234 "BreadSpans$Sheet" "n" "I" ∈ WS := WS_in (tb_1 (List.mem_of_getElem? (i := 222) (by decide +kernel))) rfl
theorem fk_X3_18 : Cond.fieldLink RX3 18 "BreadSpans$Sheet" "numbers" "[I" ∈ WS := WS_in (tb_1 (List.mem_of_getElem? (i := 223) (by decide +kernel))) rfl
theorem fk_X0_163 : Cond.fieldLink RX0 163 "BreadSpans$Sheet" "numbers" "[I" ∈ WS := WS_in (tb_1 (List.mem_of_getElem? (i := 224) (by decide +kernel))) rfl
theorem fk_X6_262 : Cond.fieldLink RX6 262 "BreadSpans$Sheet" "numbers" "[I" ∈ WS := WS_in (tb_1 (List.mem_of_getElem? (i := 225) (by decide +kernel))) rfl
theorem fk_X6_10 : Cond.fieldLink RX6 10 "BreadSpans" "now" "LBreadSpans$Delta;" ∈ WS := WS_in (tb_1 (List.mem_of_getElem? (i := 233) (by decide +kernel))) rfl
theorem fk_X6_16 : Cond.fieldLink RX6 16 "BreadSpans" "kept" "LBreadSpans$Delta;" ∈ WS := WS_in (tb_1 (List.mem_of_getElem? (i := 234) (by decide +kernel))) rfl
theorem fk_X6_19 : Cond.fieldLink RX6 19 "BreadSpans" "thought" "LBreadSpans$Delta;" ∈ WS := WS_in (tb_1 (List.mem_of_getElem? (i := 235) (by decide +kernel))) rfl
theorem fk_X6_25 : Cond.fieldLink RX6 25 "BreadSpans" "reader" "LBreadSpans$Reader;" ∈ WS := WS_in (tb_1 (List.mem_of_getElem? (i := 236) (by decide +kernel))) rfl
theorem fk_X6_32 : Cond.fieldLink RX6 32 "BreadSpans" "voices" "LBreadSpans$Voices;" ∈ WS := WS_in (tb_1 (List.mem_of_getElem? (i := 237) (by decide +kernel))) rfl
theorem fk_X6_38 : Cond.fieldLink RX6 38 "BreadSpans" "sheets" "[LBreadSpans$Sheet;" ∈ WS := WS_in (tb_1 (List.mem_of_getElem? (i := 238) (by decide +kernel))) rfl
theorem fk_X6_42 : Cond.fieldLink RX6 42 "BreadSpans" "errors" "[I" ∈ WS := WS_in (tb_1 (List.mem_of_getElem? (i := 239) (by decide +kernel))) rfl
theorem fk_X6_46 : Cond.fieldLink RX6 46 "BreadSpans" "images" "I" ∈ WS := WS_in (tb_2 (List.mem_of_getElem? (i := 0) (by decide +kernel))) rfl
theorem mk_L_13 : Cond.methodLink RL 13 yX6_span ∈ WS := WS_in (tb_2 (List.mem_of_getElem? (i := 18) (by decide +kernel))) rfl
theorem im_yX6_span : Cond.instanceMethod yX6_span ∈ WS := WS_in (tb_2 (List.mem_of_getElem? (i := 19) (by decide +kernel))) rfl
theorem se_yX6_span : Cond.selects RX6 yX6_span yX6_span ∈ WS := WS_in (tb_2 (List.mem_of_getElem? (i := 20) (by decide +kernel))) rfl
theorem co_yX6_span : Cond.code yX6_span cX6_span 4 (some .int) ∈ WS := WS_in (tb_2 (List.mem_of_getElem? (i := 21) (by decide +kernel))) rfl
theorem mk_X6_51 : Cond.methodLink RX6 51 yX6_isKindAndNumber ∈ WS := WS_in (tb_2 (List.mem_of_getElem? (i := 22) (by decide +kernel))) rfl
theorem st_yX6_isKindAndNumber : Cond.static yX6_isKindAndNumber ∈ WS := WS_in (tb_2 (List.mem_of_getElem? (i := 23) (by decide +kernel))) rfl
theorem co_yX6_isKindAndNumber : Cond.code yX6_isKindAndNumber cX6_isKindAndNumber 1 (some .boolean) ∈ WS := WS_in (tb_2 (List.mem_of_getElem? (i := 24) (by decide +kernel))) rfl
theorem mk_X6_73 : Cond.methodLink RX6 73 yX6_within ∈ WS := WS_in (tb_2 (List.mem_of_getElem? (i := 25) (by decide +kernel))) rfl
theorem st_yX6_within : Cond.static yX6_within ∈ WS := WS_in (tb_2 (List.mem_of_getElem? (i := 26) (by decide +kernel))) rfl
theorem co_yX6_within : Cond.code yX6_within cX6_within 3 (some .boolean) ∈ WS := WS_in (tb_2 (List.mem_of_getElem? (i := 27) (by decide +kernel))) rfl
theorem mk_X6_55 : Cond.methodLink RX6 55 yX6_areTwoPlaces ∈ WS := WS_in (tb_2 (List.mem_of_getElem? (i := 28) (by decide +kernel))) rfl
theorem st_yX6_areTwoPlaces : Cond.static yX6_areTwoPlaces ∈ WS := WS_in (tb_2 (List.mem_of_getElem? (i := 29) (by decide +kernel))) rfl
theorem co_yX6_areTwoPlaces : Cond.code yX6_areTwoPlaces cX6_areTwoPlaces 2 (some .boolean) ∈ WS := WS_in (tb_2 (List.mem_of_getElem? (i := 30) (by decide +kernel))) rfl
theorem mk_X6_187 : Cond.methodLink RX6 187 yX6_isPlace ∈ WS := WS_in (tb_2 (List.mem_of_getElem? (i := 31) (by decide +kernel))) rfl
theorem st_yX6_isPlace : Cond.static yX6_isPlace ∈ WS := WS_in (tb_2 (List.mem_of_getElem? (i := 32) (by decide +kernel))) rfl
theorem co_yX6_isPlace : Cond.code yX6_isPlace cX6_isPlace 1 (some .boolean) ∈ WS := WS_in (tb_2 (List.mem_of_getElem? (i := 33) (by decide +kernel))) rfl
theorem mk_X6_59 : Cond.methodLink RX6 59 yX6_error ∈ WS := WS_in (tb_2 (List.mem_of_getElem? (i := 34) (by decide +kernel))) rfl
theorem im_yX6_error : Cond.instanceMethod yX6_error ∈ WS := WS_in (tb_2 (List.mem_of_getElem? (i := 36) (by decide +kernel))) rfl
theorem co_yX6_error : Cond.code yX6_error cX6_error 2 (some .int) ∈ WS := WS_in (tb_2 (List.mem_of_getElem? (i := 37) (by decide +kernel))) rfl
theorem kn_X6_283 : Cond.constant RX6 283 (-1000000000) ∈ WS := WS_in (tb_2 (List.mem_of_getElem? (i := 38) (by decide +kernel))) rfl
theorem mk_X6_66 : Cond.methodLink RX6 66 yX0_addSpan ∈ WS := WS_in (tb_2 (List.mem_of_getElem? (i := 39) (by decide +kernel))) rfl
theorem im_yX0_addSpan : Cond.instanceMethod yX0_addSpan ∈ WS := WS_in (tb_2 (List.mem_of_getElem? (i := 40) (by decide +kernel))) rfl
theorem se_yX0_addSpan : Cond.selects RX0 yX0_addSpan yX0_addSpan ∈ WS := WS_in (tb_2 (List.mem_of_getElem? (i := 41) (by decide +kernel))) rfl
theorem co_yX0_addSpan : Cond.code yX0_addSpan cX0_addSpan 5 (some .int) ∈ WS := WS_in (tb_2 (List.mem_of_getElem? (i := 42) (by decide +kernel))) rfl
theorem mk_X0_78 : Cond.methodLink RX0 78 yX4_bakeAnew ∈ WS := WS_in (tb_2 (List.mem_of_getElem? (i := 43) (by decide +kernel))) rfl
theorem im_yX4_bakeAnew : Cond.instanceMethod yX4_bakeAnew ∈ WS := WS_in (tb_2 (List.mem_of_getElem? (i := 44) (by decide +kernel))) rfl
theorem se_yX4_bakeAnew : Cond.selects RX4 yX4_bakeAnew yX4_bakeAnew ∈ WS := WS_in (tb_2 (List.mem_of_getElem? (i := 45) (by decide +kernel))) rfl
theorem co_yX4_bakeAnew : Cond.code yX4_bakeAnew cX4_bakeAnew 1 none ∈ WS := WS_in (tb_2 (List.mem_of_getElem? (i := 46) (by decide +kernel))) rfl
theorem mk_L_18 : Cond.methodLink RL 18 yX6_spanIs ∈ WS := WS_in (tb_2 (List.mem_of_getElem? (i := 47) (by decide +kernel))) rfl
theorem im_yX6_spanIs : Cond.instanceMethod yX6_spanIs ∈ WS := WS_in (tb_2 (List.mem_of_getElem? (i := 48) (by decide +kernel))) rfl
theorem se_yX6_spanIs : Cond.selects RX6 yX6_spanIs yX6_spanIs ∈ WS := WS_in (tb_2 (List.mem_of_getElem? (i := 49) (by decide +kernel))) rfl
theorem co_yX6_spanIs : Cond.code yX6_spanIs cX6_spanIs 4 (some .int) ∈ WS := WS_in (tb_2 (List.mem_of_getElem? (i := 50) (by decide +kernel))) rfl
theorem mk_X6_70 : Cond.methodLink RX6 70 yX0_hasSpan ∈ WS := WS_in (tb_2 (List.mem_of_getElem? (i := 51) (by decide +kernel))) rfl
theorem im_yX0_hasSpan : Cond.instanceMethod yX0_hasSpan ∈ WS := WS_in (tb_2 (List.mem_of_getElem? (i := 52) (by decide +kernel))) rfl
theorem se_yX0_hasSpan : Cond.selects RX0 yX0_hasSpan yX0_hasSpan ∈ WS := WS_in (tb_2 (List.mem_of_getElem? (i := 53) (by decide +kernel))) rfl
theorem co_yX0_hasSpan : Cond.code yX0_hasSpan cX0_hasSpan 2 (some .boolean) ∈ WS := WS_in (tb_2 (List.mem_of_getElem? (i := 54) (by decide +kernel))) rfl
theorem mk_X6_108 : Cond.methodLink RX6 108 yX4_bearsOn ∈ WS := WS_in (tb_2 (List.mem_of_getElem? (i := 56) (by decide +kernel))) rfl
theorem im_yX4_bearsOn : Cond.instanceMethod yX4_bearsOn ∈ WS := WS_in (tb_2 (List.mem_of_getElem? (i := 57) (by decide +kernel))) rfl
theorem se_yX4_bearsOn : Cond.selects RX4 yX4_bearsOn yX4_bearsOn ∈ WS := WS_in (tb_2 (List.mem_of_getElem? (i := 58) (by decide +kernel))) rfl
theorem co_yX4_bearsOn : Cond.code yX4_bearsOn cX4_bearsOn 2 (some .int) ∈ WS := WS_in (tb_2 (List.mem_of_getElem? (i := 59) (by decide +kernel))) rfl
theorem mk_X4_34 : Cond.methodLink RX4 34 yX4_bearsAsRye ∈ WS := WS_in (tb_2 (List.mem_of_getElem? (i := 60) (by decide +kernel))) rfl
theorem im_yX4_bearsAsRye : Cond.instanceMethod yX4_bearsAsRye ∈ WS := WS_in (tb_2 (List.mem_of_getElem? (i := 62) (by decide +kernel))) rfl
theorem co_yX4_bearsAsRye : Cond.code yX4_bearsAsRye cX4_bearsAsRye 1 (some .int) ∈ WS := WS_in (tb_2 (List.mem_of_getElem? (i := 63) (by decide +kernel))) rfl
theorem mk_X4_47 : Cond.methodLink RX4 47 yX4_bearsAsLoaf ∈ WS := WS_in (tb_2 (List.mem_of_getElem? (i := 64) (by decide +kernel))) rfl
theorem im_yX4_bearsAsLoaf : Cond.instanceMethod yX4_bearsAsLoaf ∈ WS := WS_in (tb_2 (List.mem_of_getElem? (i := 66) (by decide +kernel))) rfl
theorem co_yX4_bearsAsLoaf : Cond.code yX4_bearsAsLoaf cX4_bearsAsLoaf 1 (some .int) ∈ WS := WS_in (tb_2 (List.mem_of_getElem? (i := 67) (by decide +kernel))) rfl
theorem mk_X4_50 : Cond.methodLink RX4 50 yJ9_max_7cf53 ∈ WS := WS_in (tb_2 (List.mem_of_getElem? (i := 68) (by decide +kernel))) rfl
theorem st_yJ9_max_7cf53 : Cond.static yJ9_max_7cf53 ∈ WS := WS_in (tb_2 (List.mem_of_getElem? (i := 69) (by decide +kernel))) rfl
theorem co_yJ9_max_7cf53 : Cond.code yJ9_max_7cf53 cJ9_max_7cf53 2 (some .int) ∈ WS := WS_in (tb_2 (List.mem_of_getElem? (i := 70) (by decide +kernel))) rfl
theorem mk_X4_38 : Cond.methodLink RX4 38 yX4_bearsAsBrioche ∈ WS := WS_in (tb_2 (List.mem_of_getElem? (i := 71) (by decide +kernel))) rfl
theorem im_yX4_bearsAsBrioche : Cond.instanceMethod yX4_bearsAsBrioche ∈ WS := WS_in (tb_2 (List.mem_of_getElem? (i := 73) (by decide +kernel))) rfl
theorem co_yX4_bearsAsBrioche : Cond.code yX4_bearsAsBrioche cX4_bearsAsBrioche 1 (some .int) ∈ WS := WS_in (tb_2 (List.mem_of_getElem? (i := 74) (by decide +kernel))) rfl
theorem mk_X4_41 : Cond.methodLink RX4 41 yJ9_min_7cf53 ∈ WS := WS_in (tb_2 (List.mem_of_getElem? (i := 75) (by decide +kernel))) rfl
theorem st_yJ9_min_7cf53 : Cond.static yJ9_min_7cf53 ∈ WS := WS_in (tb_2 (List.mem_of_getElem? (i := 76) (by decide +kernel))) rfl
theorem co_yJ9_min_7cf53 : Cond.code yJ9_min_7cf53 cJ9_min_7cf53 2 (some .int) ∈ WS := WS_in (tb_2 (List.mem_of_getElem? (i := 77) (by decide +kernel))) rfl
theorem mk_X6_111 : Cond.methodLink RX6 111 yX4_takes ∈ WS := WS_in (tb_2 (List.mem_of_getElem? (i := 78) (by decide +kernel))) rfl
theorem im_yX4_takes : Cond.instanceMethod yX4_takes ∈ WS := WS_in (tb_2 (List.mem_of_getElem? (i := 79) (by decide +kernel))) rfl
theorem se_yX4_takes : Cond.selects RX4 yX4_takes yX4_takes ∈ WS := WS_in (tb_2 (List.mem_of_getElem? (i := 80) (by decide +kernel))) rfl
theorem co_yX4_takes : Cond.code yX4_takes cX4_takes 2 (some .int) ∈ WS := WS_in (tb_2 (List.mem_of_getElem? (i := 81) (by decide +kernel))) rfl
theorem mk_L_23 : Cond.methodLink RL 23 yX6_become ∈ WS := WS_in (tb_2 (List.mem_of_getElem? (i := 82) (by decide +kernel))) rfl
theorem im_yX6_become : Cond.instanceMethod yX6_become ∈ WS := WS_in (tb_2 (List.mem_of_getElem? (i := 83) (by decide +kernel))) rfl
theorem se_yX6_become : Cond.selects RX6 yX6_become yX6_become ∈ WS := WS_in (tb_2 (List.mem_of_getElem? (i := 84) (by decide +kernel))) rfl
theorem co_yX6_become : Cond.code yX6_become cX6_become 5 (some .int) ∈ WS := WS_in (tb_2 (List.mem_of_getElem? (i := 85) (by decide +kernel))) rfl
theorem mk_L_27 : Cond.methodLink RL 27 yX6_as ∈ WS := WS_in (tb_2 (List.mem_of_getElem? (i := 86) (by decide +kernel))) rfl
theorem im_yX6_as : Cond.instanceMethod yX6_as ∈ WS := WS_in (tb_2 (List.mem_of_getElem? (i := 87) (by decide +kernel))) rfl
theorem se_yX6_as : Cond.selects RX6 yX6_as yX6_as ∈ WS := WS_in (tb_2 (List.mem_of_getElem? (i := 88) (by decide +kernel))) rfl
theorem co_yX6_as : Cond.code yX6_as cX6_as 4 (some .int) ∈ WS := WS_in (tb_2 (List.mem_of_getElem? (i := 89) (by decide +kernel))) rfl
theorem mk_X6_115 : Cond.methodLink RX6 115 yX6_isUnder ∈ WS := WS_in (tb_2 (List.mem_of_getElem? (i := 90) (by decide +kernel))) rfl
theorem st_yX6_isUnder : Cond.static yX6_isUnder ∈ WS := WS_in (tb_2 (List.mem_of_getElem? (i := 91) (by decide +kernel))) rfl
theorem co_yX6_isUnder : Cond.code yX6_isUnder cX6_isUnder 4 (some .boolean) ∈ WS := WS_in (tb_2 (List.mem_of_getElem? (i := 92) (by decide +kernel))) rfl
theorem mk_X6_290 : Cond.methodLink RX6 290 yX6_kindAbove ∈ WS := WS_in (tb_2 (List.mem_of_getElem? (i := 93) (by decide +kernel))) rfl
theorem st_yX6_kindAbove : Cond.static yX6_kindAbove ∈ WS := WS_in (tb_2 (List.mem_of_getElem? (i := 94) (by decide +kernel))) rfl
theorem co_yX6_kindAbove : Cond.code yX6_kindAbove cX6_kindAbove 1 (some .int) ∈ WS := WS_in (tb_2 (List.mem_of_getElem? (i := 95) (by decide +kernel))) rfl
theorem fk_X6_287 : Cond.fieldLink RX6 287 "BreadSpans" "ABOVE" "[I" ∈ WS := WS_in (tb_2 (List.mem_of_getElem? (i := 96) (by decide +kernel))) rfl
theorem mk_L_31 : Cond.methodLink RL 31 yX6_soak ∈ WS := WS_in (tb_2 (List.mem_of_getElem? (i := 98) (by decide +kernel))) rfl
theorem im_yX6_soak : Cond.instanceMethod yX6_soak ∈ WS := WS_in (tb_2 (List.mem_of_getElem? (i := 99) (by decide +kernel))) rfl
theorem se_yX6_soak : Cond.selects RX6 yX6_soak yX6_soak ∈ WS := WS_in (tb_2 (List.mem_of_getElem? (i := 100) (by decide +kernel))) rfl
theorem co_yX6_soak : Cond.code yX6_soak cX6_soak 5 (some .int) ∈ WS := WS_in (tb_2 (List.mem_of_getElem? (i := 101) (by decide +kernel))) rfl
theorem mk_L_35 : Cond.methodLink RL 35 yX6_bakes ∈ WS := WS_in (tb_2 (List.mem_of_getElem? (i := 102) (by decide +kernel))) rfl
theorem im_yX6_bakes : Cond.instanceMethod yX6_bakes ∈ WS := WS_in (tb_2 (List.mem_of_getElem? (i := 103) (by decide +kernel))) rfl
theorem se_yX6_bakes : Cond.selects RX6 yX6_bakes yX6_bakes ∈ WS := WS_in (tb_2 (List.mem_of_getElem? (i := 104) (by decide +kernel))) rfl
theorem co_yX6_bakes : Cond.code yX6_bakes cX6_bakes 4 (some .int) ∈ WS := WS_in (tb_2 (List.mem_of_getElem? (i := 105) (by decide +kernel))) rfl
theorem mk_X6_121 : Cond.methodLink RX6 121 yX4_bakeAnew ∈ WS := WS_in (tb_2 (List.mem_of_getElem? (i := 106) (by decide +kernel))) rfl
theorem mk_L_40 : Cond.methodLink RL 40 yX6_eat ∈ WS := WS_in (tb_2 (List.mem_of_getElem? (i := 107) (by decide +kernel))) rfl
theorem im_yX6_eat : Cond.instanceMethod yX6_eat ∈ WS := WS_in (tb_2 (List.mem_of_getElem? (i := 108) (by decide +kernel))) rfl
theorem se_yX6_eat : Cond.selects RX6 yX6_eat yX6_eat ∈ WS := WS_in (tb_2 (List.mem_of_getElem? (i := 109) (by decide +kernel))) rfl
theorem co_yX6_eat : Cond.code yX6_eat cX6_eat 4 (some .int) ∈ WS := WS_in (tb_2 (List.mem_of_getElem? (i := 110) (by decide +kernel))) rfl
theorem mk_L_44 : Cond.methodLink RL 44 yX6_store ∈ WS := WS_in (tb_2 (List.mem_of_getElem? (i := 111) (by decide +kernel))) rfl
theorem im_yX6_store : Cond.instanceMethod yX6_store ∈ WS := WS_in (tb_2 (List.mem_of_getElem? (i := 112) (by decide +kernel))) rfl
theorem se_yX6_store : Cond.selects RX6 yX6_store yX6_store ∈ WS := WS_in (tb_2 (List.mem_of_getElem? (i := 113) (by decide +kernel))) rfl
theorem co_yX6_store : Cond.code yX6_store cX6_store 4 (some .int) ∈ WS := WS_in (tb_2 (List.mem_of_getElem? (i := 114) (by decide +kernel))) rfl
theorem mk_L_48 : Cond.methodLink RL 48 yX6_cross ∈ WS := WS_in (tb_2 (List.mem_of_getElem? (i := 115) (by decide +kernel))) rfl
theorem im_yX6_cross : Cond.instanceMethod yX6_cross ∈ WS := WS_in (tb_2 (List.mem_of_getElem? (i := 116) (by decide +kernel))) rfl
theorem se_yX6_cross : Cond.selects RX6 yX6_cross yX6_cross ∈ WS := WS_in (tb_2 (List.mem_of_getElem? (i := 117) (by decide +kernel))) rfl
theorem co_yX6_cross : Cond.code yX6_cross cX6_cross 4 (some .int) ∈ WS := WS_in (tb_2 (List.mem_of_getElem? (i := 118) (by decide +kernel))) rfl
theorem mk_X6_127 : Cond.methodLink RX6 127 yX6_isLoad ∈ WS := WS_in (tb_2 (List.mem_of_getElem? (i := 119) (by decide +kernel))) rfl
theorem st_yX6_isLoad : Cond.static yX6_isLoad ∈ WS := WS_in (tb_2 (List.mem_of_getElem? (i := 120) (by decide +kernel))) rfl
theorem co_yX6_isLoad : Cond.code yX6_isLoad cX6_isLoad 1 (some .boolean) ∈ WS := WS_in (tb_2 (List.mem_of_getElem? (i := 121) (by decide +kernel))) rfl
theorem mk_X6_130 : Cond.methodLink RX6 130 yX0_carryOver ∈ WS := WS_in (tb_2 (List.mem_of_getElem? (i := 122) (by decide +kernel))) rfl
theorem im_yX0_carryOver : Cond.instanceMethod yX0_carryOver ∈ WS := WS_in (tb_2 (List.mem_of_getElem? (i := 123) (by decide +kernel))) rfl
theorem se_yX0_carryOver : Cond.selects RX0 yX0_carryOver yX0_carryOver ∈ WS := WS_in (tb_2 (List.mem_of_getElem? (i := 124) (by decide +kernel))) rfl
theorem co_yX0_carryOver : Cond.code yX0_carryOver cX0_carryOver 5 (some .int) ∈ WS := WS_in (tb_2 (List.mem_of_getElem? (i := 125) (by decide +kernel))) rfl
theorem mk_X0_106 : Cond.methodLink RX0 106 yX4_bearsOn ∈ WS := WS_in (tb_2 (List.mem_of_getElem? (i := 126) (by decide +kernel))) rfl
theorem kn_X0_113 : Cond.constant RX0 113 99999 ∈ WS := WS_in (tb_2 (List.mem_of_getElem? (i := 127) (by decide +kernel))) rfl
theorem mk_X0_114 : Cond.methodLink RX0 114 yJ9_min_7cf53 ∈ WS := WS_in (tb_2 (List.mem_of_getElem? (i := 128) (by decide +kernel))) rfl
theorem mk_X0_120 : Cond.methodLink RX0 120 yX0_gives ∈ WS := WS_in (tb_2 (List.mem_of_getElem? (i := 129) (by decide +kernel))) rfl
theorem im_yX0_gives : Cond.instanceMethod yX0_gives ∈ WS := WS_in (tb_2 (List.mem_of_getElem? (i := 130) (by decide +kernel))) rfl
theorem se_yX0_gives : Cond.selects RX0 yX0_gives yX0_gives ∈ WS := WS_in (tb_2 (List.mem_of_getElem? (i := 131) (by decide +kernel))) rfl
theorem co_yX0_gives : Cond.code yX0_gives cX0_gives 6 (some .int) ∈ WS := WS_in (tb_2 (List.mem_of_getElem? (i := 132) (by decide +kernel))) rfl
theorem mk_X0_99 : Cond.methodLink RX0 99 yX1_workOut ∈ WS := WS_in (tb_2 (List.mem_of_getElem? (i := 133) (by decide +kernel))) rfl
theorem im_yX1_workOut : Cond.instanceMethod yX1_workOut ∈ WS := WS_in (tb_2 (List.mem_of_getElem? (i := 134) (by decide +kernel))) rfl
theorem se_yX1_workOut : Cond.selects RX1 yX1_workOut yX1_workOut ∈ WS := WS_in (tb_2 (List.mem_of_getElem? (i := 135) (by decide +kernel))) rfl
theorem co_yX1_workOut : Cond.code yX1_workOut cX1_workOut 7 (some .int) ∈ WS := WS_in (tb_2 (List.mem_of_getElem? (i := 136) (by decide +kernel))) rfl
theorem mk_X1_40 : Cond.methodLink RX1 40 yX1_truth ∈ WS := WS_in (tb_2 (List.mem_of_getElem? (i := 137) (by decide +kernel))) rfl
theorem st_yX1_truth : Cond.static yX1_truth ∈ WS := WS_in (tb_2 (List.mem_of_getElem? (i := 138) (by decide +kernel))) rfl
theorem co_yX1_truth : Cond.code yX1_truth cX1_truth 1 (some .int) ∈ WS := WS_in (tb_2 (List.mem_of_getElem? (i := 139) (by decide +kernel))) rfl
theorem mk_X1_44 : Cond.methodLink RX1 44 yX1_join ∈ WS := WS_in (tb_2 (List.mem_of_getElem? (i := 140) (by decide +kernel))) rfl
theorem st_yX1_join : Cond.static yX1_join ∈ WS := WS_in (tb_2 (List.mem_of_getElem? (i := 141) (by decide +kernel))) rfl
theorem co_yX1_join : Cond.code yX1_join cX1_join 3 (some .int) ∈ WS := WS_in (tb_2 (List.mem_of_getElem? (i := 142) (by decide +kernel))) rfl
theorem st_yX6_held : Cond.static yX6_held ∈ WS := WS_in (tb_2 (List.mem_of_getElem? (i := 144) (by decide +kernel))) rfl
theorem co_yX6_held : Cond.code yX6_held cX6_held 3 (some .int) ∈ WS := WS_in (tb_2 (List.mem_of_getElem? (i := 145) (by decide +kernel))) rfl
theorem mk_X6_284 : Cond.methodLink RX6 284 yJ9_min_7cf53 ∈ WS := WS_in (tb_2 (List.mem_of_getElem? (i := 146) (by decide +kernel))) rfl
theorem mk_X6_218 : Cond.methodLink RX6 218 yJ9_max_7cf53 ∈ WS := WS_in (tb_2 (List.mem_of_getElem? (i := 147) (by decide +kernel))) rfl
theorem mk_L_54 : Cond.methodLink RL 54 yX6_feed ∈ WS := WS_in (tb_2 (List.mem_of_getElem? (i := 148) (by decide +kernel))) rfl
theorem im_yX6_feed : Cond.instanceMethod yX6_feed ∈ WS := WS_in (tb_2 (List.mem_of_getElem? (i := 149) (by decide +kernel))) rfl
theorem se_yX6_feed : Cond.selects RX6 yX6_feed yX6_feed ∈ WS := WS_in (tb_2 (List.mem_of_getElem? (i := 150) (by decide +kernel))) rfl
theorem co_yX6_feed : Cond.code yX6_feed cX6_feed 4 (some .int) ∈ WS := WS_in (tb_2 (List.mem_of_getElem? (i := 151) (by decide +kernel))) rfl
theorem mk_X6_137 : Cond.methodLink RX6 137 yX0_addToTape ∈ WS := WS_in (tb_2 (List.mem_of_getElem? (i := 152) (by decide +kernel))) rfl
theorem im_yX0_addToTape : Cond.instanceMethod yX0_addToTape ∈ WS := WS_in (tb_2 (List.mem_of_getElem? (i := 153) (by decide +kernel))) rfl
theorem se_yX0_addToTape : Cond.selects RX0 yX0_addToTape yX0_addToTape ∈ WS := WS_in (tb_2 (List.mem_of_getElem? (i := 154) (by decide +kernel))) rfl
theorem co_yX0_addToTape : Cond.code yX0_addToTape cX0_addToTape 5 (some .int) ∈ WS := WS_in (tb_2 (List.mem_of_getElem? (i := 155) (by decide +kernel))) rfl
theorem kn_X0_93 : Cond.constantLong RX0 93 255 ∈ WS := WS_in (tb_2 (List.mem_of_getElem? (i := 156) (by decide +kernel))) rfl
theorem mk_L_59 : Cond.methodLink RL 59 yX6_text ∈ WS := WS_in (tb_2 (List.mem_of_getElem? (i := 157) (by decide +kernel))) rfl
theorem im_yX6_text : Cond.instanceMethod yX6_text ∈ WS := WS_in (tb_2 (List.mem_of_getElem? (i := 158) (by decide +kernel))) rfl
theorem se_yX6_text : Cond.selects RX6 yX6_text yX6_text ∈ WS := WS_in (tb_2 (List.mem_of_getElem? (i := 159) (by decide +kernel))) rfl
theorem co_yX6_text : Cond.code yX6_text cX6_text 3 (some .int) ∈ WS := WS_in (tb_2 (List.mem_of_getElem? (i := 160) (by decide +kernel))) rfl
theorem mk_X6_141 : Cond.methodLink RX6 141 yX6_isUse ∈ WS := WS_in (tb_2 (List.mem_of_getElem? (i := 161) (by decide +kernel))) rfl
theorem st_yX6_isUse : Cond.static yX6_isUse ∈ WS := WS_in (tb_2 (List.mem_of_getElem? (i := 162) (by decide +kernel))) rfl
theorem co_yX6_isUse : Cond.code yX6_isUse cX6_isUse 1 (some .boolean) ∈ WS := WS_in (tb_2 (List.mem_of_getElem? (i := 163) (by decide +kernel))) rfl
theorem mk_X6_148 : Cond.methodLink RX6 148 yX2_reads ∈ WS := WS_in (tb_2 (List.mem_of_getElem? (i := 164) (by decide +kernel))) rfl
theorem im_yX2_reads : Cond.instanceMethod yX2_reads ∈ WS := WS_in (tb_2 (List.mem_of_getElem? (i := 165) (by decide +kernel))) rfl
theorem se_yX2_reads : Cond.selects RX2 yX2_reads yX2_reads ∈ WS := WS_in (tb_2 (List.mem_of_getElem? (i := 166) (by decide +kernel))) rfl
theorem co_yX2_reads : Cond.code yX2_reads cX2_reads 4 (some .boolean) ∈ WS := WS_in (tb_2 (List.mem_of_getElem? (i := 167) (by decide +kernel))) rfl
theorem mk_X2_35 : Cond.methodLink RX2 35 yJ9_min_7cf53 ∈ WS := WS_in (tb_2 (List.mem_of_getElem? (i := 168) (by decide +kernel))) rfl
theorem mk_X2_45 : Cond.methodLink RX2 45 arraycopyName ∈ WS := WS_in (tb_2 (List.mem_of_getElem? (i := 170) (by decide +kernel))) rfl
theorem st_arraycopyName : Cond.static arraycopyName ∈ WS := WS_in (tb_2 (List.mem_of_getElem? (i := 171) (by decide +kernel))) rfl
theorem nt_arraycopyName : Cond.native arraycopyName ∈ WS := WS_in (tb_2 (List.mem_of_getElem? (i := 172) (by decide +kernel))) rfl
theorem mk_X2_53 : Cond.methodLink RX2 53 yX2_readAny ∈ WS := WS_in (tb_2 (List.mem_of_getElem? (i := 174) (by decide +kernel))) rfl
theorem im_yX2_readAny : Cond.instanceMethod yX2_readAny ∈ WS := WS_in (tb_2 (List.mem_of_getElem? (i := 176) (by decide +kernel))) rfl
theorem co_yX2_readAny : Cond.code yX2_readAny cX2_readAny 3 (some .boolean) ∈ WS := WS_in (tb_2 (List.mem_of_getElem? (i := 177) (by decide +kernel))) rfl
theorem mk_X2_57 : Cond.methodLink RX2 57 yX2_readAll ∈ WS := WS_in (tb_2 (List.mem_of_getElem? (i := 178) (by decide +kernel))) rfl
theorem im_yX2_readAll : Cond.instanceMethod yX2_readAll ∈ WS := WS_in (tb_2 (List.mem_of_getElem? (i := 180) (by decide +kernel))) rfl
theorem co_yX2_readAll : Cond.code yX2_readAll cX2_readAll 3 (some .boolean) ∈ WS := WS_in (tb_2 (List.mem_of_getElem? (i := 181) (by decide +kernel))) rfl
theorem mk_X2_68 : Cond.methodLink RX2 68 yX2_readCompared ∈ WS := WS_in (tb_2 (List.mem_of_getElem? (i := 182) (by decide +kernel))) rfl
theorem im_yX2_readCompared : Cond.instanceMethod yX2_readCompared ∈ WS := WS_in (tb_2 (List.mem_of_getElem? (i := 184) (by decide +kernel))) rfl
theorem co_yX2_readCompared : Cond.code yX2_readCompared cX2_readCompared 3 (some .boolean) ∈ WS := WS_in (tb_2 (List.mem_of_getElem? (i := 185) (by decide +kernel))) rfl
theorem mk_X2_71 : Cond.methodLink RX2 71 yX2_readSum ∈ WS := WS_in (tb_2 (List.mem_of_getElem? (i := 186) (by decide +kernel))) rfl
theorem im_yX2_readSum : Cond.instanceMethod yX2_readSum ∈ WS := WS_in (tb_2 (List.mem_of_getElem? (i := 188) (by decide +kernel))) rfl
theorem co_yX2_readSum : Cond.code yX2_readSum cX2_readSum 4 (some .boolean) ∈ WS := WS_in (tb_2 (List.mem_of_getElem? (i := 189) (by decide +kernel))) rfl
theorem mk_X2_74 : Cond.methodLink RX2 74 yX2_readProduct ∈ WS := WS_in (tb_2 (List.mem_of_getElem? (i := 190) (by decide +kernel))) rfl
theorem im_yX2_readProduct : Cond.instanceMethod yX2_readProduct ∈ WS := WS_in (tb_2 (List.mem_of_getElem? (i := 192) (by decide +kernel))) rfl
theorem co_yX2_readProduct : Cond.code yX2_readProduct cX2_readProduct 4 (some .boolean) ∈ WS := WS_in (tb_2 (List.mem_of_getElem? (i := 193) (by decide +kernel))) rfl
theorem mk_X2_77 : Cond.methodLink RX2 77 yX2_readOne ∈ WS := WS_in (tb_2 (List.mem_of_getElem? (i := 194) (by decide +kernel))) rfl
theorem im_yX2_readOne : Cond.instanceMethod yX2_readOne ∈ WS := WS_in (tb_2 (List.mem_of_getElem? (i := 196) (by decide +kernel))) rfl
theorem co_yX2_readOne : Cond.code yX2_readOne cX2_readOne 4 (some .boolean) ∈ WS := WS_in (tb_2 (List.mem_of_getElem? (i := 197) (by decide +kernel))) rfl
theorem mk_X2_60 : Cond.methodLink RX2 60 yX2_ahead ∈ WS := WS_in (tb_2 (List.mem_of_getElem? (i := 198) (by decide +kernel))) rfl
theorem im_yX2_ahead : Cond.instanceMethod yX2_ahead ∈ WS := WS_in (tb_2 (List.mem_of_getElem? (i := 200) (by decide +kernel))) rfl
theorem co_yX2_ahead : Cond.code yX2_ahead cX2_ahead 1 (some .char) ∈ WS := WS_in (tb_2 (List.mem_of_getElem? (i := 201) (by decide +kernel))) rfl
theorem mk_X2_84 : Cond.methodLink RX2 84 yX2_readNot ∈ WS := WS_in (tb_2 (List.mem_of_getElem? (i := 202) (by decide +kernel))) rfl
theorem im_yX2_readNot : Cond.instanceMethod yX2_readNot ∈ WS := WS_in (tb_2 (List.mem_of_getElem? (i := 204) (by decide +kernel))) rfl
theorem co_yX2_readNot : Cond.code yX2_readNot cX2_readNot 2 (some .boolean) ∈ WS := WS_in (tb_2 (List.mem_of_getElem? (i := 205) (by decide +kernel))) rfl
theorem mk_X2_64 : Cond.methodLink RX2 64 yX2_make ∈ WS := WS_in (tb_2 (List.mem_of_getElem? (i := 206) (by decide +kernel))) rfl
theorem im_yX2_make : Cond.instanceMethod yX2_make ∈ WS := WS_in (tb_2 (List.mem_of_getElem? (i := 208) (by decide +kernel))) rfl
theorem co_yX2_make : Cond.code yX2_make cX2_make 2 none ∈ WS := WS_in (tb_2 (List.mem_of_getElem? (i := 209) (by decide +kernel))) rfl
theorem mk_X2_87 : Cond.methodLink RX2 87 yX2_readWithin ∈ WS := WS_in (tb_2 (List.mem_of_getElem? (i := 210) (by decide +kernel))) rfl
theorem im_yX2_readWithin : Cond.instanceMethod yX2_readWithin ∈ WS := WS_in (tb_2 (List.mem_of_getElem? (i := 212) (by decide +kernel))) rfl
theorem co_yX2_readWithin : Cond.code yX2_readWithin cX2_readWithin 2 (some .boolean) ∈ WS := WS_in (tb_2 (List.mem_of_getElem? (i := 213) (by decide +kernel))) rfl
theorem mk_X2_90 : Cond.methodLink RX2 90 yX2_isDigit ∈ WS := WS_in (tb_2 (List.mem_of_getElem? (i := 214) (by decide +kernel))) rfl
theorem st_yX2_isDigit : Cond.static yX2_isDigit ∈ WS := WS_in (tb_2 (List.mem_of_getElem? (i := 215) (by decide +kernel))) rfl
theorem co_yX2_isDigit : Cond.code yX2_isDigit cX2_isDigit 1 (some .boolean) ∈ WS := WS_in (tb_2 (List.mem_of_getElem? (i := 216) (by decide +kernel))) rfl
theorem mk_X2_93 : Cond.methodLink RX2 93 yX2_readNumber ∈ WS := WS_in (tb_2 (List.mem_of_getElem? (i := 217) (by decide +kernel))) rfl
theorem im_yX2_readNumber : Cond.instanceMethod yX2_readNumber ∈ WS := WS_in (tb_2 (List.mem_of_getElem? (i := 219) (by decide +kernel))) rfl
theorem co_yX2_readNumber : Cond.code yX2_readNumber cX2_readNumber 3 none ∈ WS := WS_in (tb_2 (List.mem_of_getElem? (i := 220) (by decide +kernel))) rfl
theorem mk_X2_96 : Cond.methodLink RX2 96 yJ0_indexOf_0f7a4 ∈ WS := WS_in (tb_2 (List.mem_of_getElem? (i := 221) (by decide +kernel))) rfl
theorem im_yJ0_indexOf_0f7a4 : Cond.instanceMethod yJ0_indexOf_0f7a4 ∈ WS := WS_in (tb_2 (List.mem_of_getElem? (i := 222) (by decide +kernel))) rfl
theorem se_yJ0_indexOf_0f7a4 : Cond.selects RJ0 yJ0_indexOf_0f7a4 yJ0_indexOf_0f7a4 ∈ WS := WS_in (tb_2 (List.mem_of_getElem? (i := 223) (by decide +kernel))) rfl
theorem co_yJ0_indexOf_0f7a4 : Cond.code yJ0_indexOf_0f7a4 cJ0_indexOf_0f7a4 2 (some .int) ∈ WS := WS_in (tb_2 (List.mem_of_getElem? (i := 224) (by decide +kernel))) rfl
theorem mk_J0_633 : Cond.methodLink RJ0 633 yJ0_indexOf_7cf53 ∈ WS := WS_in (tb_2 (List.mem_of_getElem? (i := 225) (by decide +kernel))) rfl
theorem im_yJ0_indexOf_7cf53 : Cond.instanceMethod yJ0_indexOf_7cf53 ∈ WS := WS_in (tb_2 (List.mem_of_getElem? (i := 226) (by decide +kernel))) rfl
theorem se_yJ0_indexOf_7cf53 : Cond.selects RJ0 yJ0_indexOf_7cf53 yJ0_indexOf_7cf53 ∈ WS := WS_in (tb_2 (List.mem_of_getElem? (i := 227) (by decide +kernel))) rfl
theorem co_yJ0_indexOf_7cf53 : Cond.code yJ0_indexOf_7cf53 cJ0_indexOf_7cf53 3 (some .int) ∈ WS := WS_in (tb_2 (List.mem_of_getElem? (i := 228) (by decide +kernel))) rfl
theorem mk_J0_492 : Cond.methodLink RJ0 492 yJ0_isLatin1_aae02 ∈ WS := WS_in (tb_2 (List.mem_of_getElem? (i := 229) (by decide +kernel))) rfl
theorem im_yJ0_isLatin1_aae02 : Cond.instanceMethod yJ0_isLatin1_aae02 ∈ WS := WS_in (tb_2 (List.mem_of_getElem? (i := 230) (by decide +kernel))) rfl
theorem se_yJ0_isLatin1_aae02 : Cond.selects RJ0 yJ0_isLatin1_aae02 yJ0_isLatin1_aae02 ∈ WS := WS_in (tb_2 (List.mem_of_getElem? (i := 231) (by decide +kernel))) rfl
theorem co_yJ0_isLatin1_aae02 : Cond.code yJ0_isLatin1_aae02 cJ0_isLatin1_aae02 1 (some .boolean) ∈ WS := WS_in (tb_2 (List.mem_of_getElem? (i := 232) (by decide +kernel))) rfl
theorem fk_J0_38 : Cond.fieldLink RJ0 38 "java/lang/String" "COMPACT_STRINGS" "Z" ∈ WS := WS_in (tb_2 (List.mem_of_getElem? (i := 233) (by decide +kernel))) rfl
theorem mk_J0_505 : Cond.methodLink RJ0 505 yJ0_length_8abf5 ∈ WS := WS_in (tb_2 (List.mem_of_getElem? (i := 235) (by decide +kernel))) rfl
theorem im_yJ0_length_8abf5 : Cond.instanceMethod yJ0_length_8abf5 ∈ WS := WS_in (tb_2 (List.mem_of_getElem? (i := 236) (by decide +kernel))) rfl
theorem se_yJ0_length_8abf5 : Cond.selects RJ0 yJ0_length_8abf5 yJ0_length_8abf5 ∈ WS := WS_in (tb_2 (List.mem_of_getElem? (i := 237) (by decide +kernel))) rfl
theorem co_yJ0_length_8abf5 : Cond.code yJ0_length_8abf5 cJ0_length_8abf5 1 (some .int) ∈ WS := WS_in (tb_2 (List.mem_of_getElem? (i := 238) (by decide +kernel))) rfl
theorem mk_J0_335 : Cond.methodLink RJ0 335 yJ0_coder_7d493 ∈ WS := WS_in (tb_2 (List.mem_of_getElem? (i := 239) (by decide +kernel))) rfl
theorem im_yJ0_coder_7d493 : Cond.instanceMethod yJ0_coder_7d493 ∈ WS := WS_in (tb_3 (List.mem_of_getElem? (i := 0) (by decide +kernel))) rfl
theorem se_yJ0_coder_7d493 : Cond.selects RJ0 yJ0_coder_7d493 yJ0_coder_7d493 ∈ WS := WS_in (tb_3 (List.mem_of_getElem? (i := 1) (by decide +kernel))) rfl
theorem co_yJ0_coder_7d493 : Cond.code yJ0_coder_7d493 cJ0_coder_7d493 1 (some .byte) ∈ WS := WS_in (tb_3 (List.mem_of_getElem? (i := 2) (by decide +kernel))) rfl
theorem mk_J0_637 : Cond.methodLink RJ0 637 yJ1_indexOf_4cfef ∈ WS := WS_in (tb_3 (List.mem_of_getElem? (i := 3) (by decide +kernel))) rfl
theorem st_yJ1_indexOf_4cfef : Cond.static yJ1_indexOf_4cfef ∈ WS := WS_in (tb_3 (List.mem_of_getElem? (i := 4) (by decide +kernel))) rfl
theorem co_yJ1_indexOf_4cfef : Cond.code yJ1_indexOf_4cfef cJ1_indexOf_4cfef 4 (some .int) ∈ WS := WS_in (tb_3 (List.mem_of_getElem? (i := 5) (by decide +kernel))) rfl
theorem mk_J1_88 : Cond.methodLink RJ1 88 yJ1_canEncode_9a6ad ∈ WS := WS_in (tb_3 (List.mem_of_getElem? (i := 6) (by decide +kernel))) rfl
theorem st_yJ1_canEncode_9a6ad : Cond.static yJ1_canEncode_9a6ad ∈ WS := WS_in (tb_3 (List.mem_of_getElem? (i := 7) (by decide +kernel))) rfl
theorem co_yJ1_canEncode_9a6ad : Cond.code yJ1_canEncode_9a6ad cJ1_canEncode_9a6ad 1 (some .boolean) ∈ WS := WS_in (tb_3 (List.mem_of_getElem? (i := 8) (by decide +kernel))) rfl
theorem mk_J1_92 : Cond.methodLink RJ1 92 yJ9_max_7cf53 ∈ WS := WS_in (tb_3 (List.mem_of_getElem? (i := 9) (by decide +kernel))) rfl
theorem mk_J1_38 : Cond.methodLink RJ1 38 yJ9_min_7cf53 ∈ WS := WS_in (tb_3 (List.mem_of_getElem? (i := 10) (by decide +kernel))) rfl
theorem mk_J1_95 : Cond.methodLink RJ1 95 yJ1_indexOfChar_4cfef ∈ WS := WS_in (tb_3 (List.mem_of_getElem? (i := 11) (by decide +kernel))) rfl
theorem st_yJ1_indexOfChar_4cfef : Cond.static yJ1_indexOfChar_4cfef ∈ WS := WS_in (tb_3 (List.mem_of_getElem? (i := 12) (by decide +kernel))) rfl
theorem co_yJ1_indexOfChar_4cfef : Cond.code yJ1_indexOfChar_4cfef cJ1_indexOfChar_4cfef 6 (some .int) ∈ WS := WS_in (tb_3 (List.mem_of_getElem? (i := 13) (by decide +kernel))) rfl
theorem mk_J0_640 : Cond.methodLink RJ0 640 yJ2_indexOf_4cfef ∈ WS := WS_in (tb_3 (List.mem_of_getElem? (i := 14) (by decide +kernel))) rfl
theorem st_yJ2_indexOf_4cfef : Cond.static yJ2_indexOf_4cfef ∈ WS := WS_in (tb_3 (List.mem_of_getElem? (i := 15) (by decide +kernel))) rfl
theorem co_yJ2_indexOf_4cfef : Cond.code yJ2_indexOf_4cfef cJ2_indexOf_4cfef 4 (some .int) ∈ WS := WS_in (tb_3 (List.mem_of_getElem? (i := 16) (by decide +kernel))) rfl
theorem mk_J2_224 : Cond.methodLink RJ2 224 yJ9_max_7cf53 ∈ WS := WS_in (tb_3 (List.mem_of_getElem? (i := 17) (by decide +kernel))) rfl
theorem mk_J2_183 : Cond.methodLink RJ2 183 yJ9_min_7cf53 ∈ WS := WS_in (tb_3 (List.mem_of_getElem? (i := 18) (by decide +kernel))) rfl
theorem kn_J2_227 : Cond.constant RJ2 227 65536 ∈ WS := WS_in (tb_3 (List.mem_of_getElem? (i := 19) (by decide +kernel))) rfl
theorem mk_J2_228 : Cond.methodLink RJ2 228 yJ2_indexOfChar_4cfef ∈ WS := WS_in (tb_3 (List.mem_of_getElem? (i := 20) (by decide +kernel))) rfl
theorem st_yJ2_indexOfChar_4cfef : Cond.static yJ2_indexOfChar_4cfef ∈ WS := WS_in (tb_3 (List.mem_of_getElem? (i := 21) (by decide +kernel))) rfl
theorem co_yJ2_indexOfChar_4cfef : Cond.code yJ2_indexOfChar_4cfef cJ2_indexOfChar_4cfef 4 (some .int) ∈ WS := WS_in (tb_3 (List.mem_of_getElem? (i := 22) (by decide +kernel))) rfl
theorem mk_J2_96 : Cond.methodLink RJ2 96 yJ2_checkBoundsBeginEnd_d044e ∈ WS := WS_in (tb_3 (List.mem_of_getElem? (i := 23) (by decide +kernel))) rfl
theorem st_yJ2_checkBoundsBeginEnd_d044e : Cond.static yJ2_checkBoundsBeginEnd_d044e ∈ WS := WS_in (tb_3 (List.mem_of_getElem? (i := 24) (by decide +kernel))) rfl
theorem co_yJ2_checkBoundsBeginEnd_d044e : Cond.code yJ2_checkBoundsBeginEnd_d044e cJ2_checkBoundsBeginEnd_d044e 3 none ∈ WS := WS_in (tb_3 (List.mem_of_getElem? (i := 25) (by decide +kernel))) rfl
theorem mk_J2_48 : Cond.methodLink RJ2 48 yJ2_length_9d52b ∈ WS := WS_in (tb_3 (List.mem_of_getElem? (i := 26) (by decide +kernel))) rfl
theorem st_yJ2_length_9d52b : Cond.static yJ2_length_9d52b ∈ WS := WS_in (tb_3 (List.mem_of_getElem? (i := 27) (by decide +kernel))) rfl
theorem co_yJ2_length_9d52b : Cond.code yJ2_length_9d52b cJ2_length_9d52b 1 (some .int) ∈ WS := WS_in (tb_3 (List.mem_of_getElem? (i := 28) (by decide +kernel))) rfl
theorem mk_J2_241 : Cond.methodLink RJ2 241 yJ0_checkBoundsBeginEnd_23922 ∈ WS := WS_in (tb_3 (List.mem_of_getElem? (i := 29) (by decide +kernel))) rfl
theorem st_yJ0_checkBoundsBeginEnd_23922 : Cond.static yJ0_checkBoundsBeginEnd_23922 ∈ WS := WS_in (tb_3 (List.mem_of_getElem? (i := 30) (by decide +kernel))) rfl
theorem co_yJ0_checkBoundsBeginEnd_23922 : Cond.code yJ0_checkBoundsBeginEnd_23922 cJ0_checkBoundsBeginEnd_23922 3 none ∈ WS := WS_in (tb_3 (List.mem_of_getElem? (i := 31) (by decide +kernel))) rfl
theorem fk_J0_1053 : Cond.fieldLink RJ0 1053 "jdk/internal/util/Preconditions" "SIOOBE_FORMATTER" "Ljava/util/function/BiFunction;" ∈ WS := WS_in (tb_3 (List.mem_of_getElem? (i := 32) (by decide +kernel))) rfl
theorem mk_J0_1062 : Cond.methodLink RJ0 1062 yJ3_checkFromToIndex_8c36e ∈ WS := WS_in (tb_3 (List.mem_of_getElem? (i := 34) (by decide +kernel))) rfl
theorem st_yJ3_checkFromToIndex_8c36e : Cond.static yJ3_checkFromToIndex_8c36e ∈ WS := WS_in (tb_3 (List.mem_of_getElem? (i := 35) (by decide +kernel))) rfl
theorem co_yJ3_checkFromToIndex_8c36e : Cond.code yJ3_checkFromToIndex_8c36e cJ3_checkFromToIndex_8c36e 4 (some .int) ∈ WS := WS_in (tb_3 (List.mem_of_getElem? (i := 36) (by decide +kernel))) rfl
theorem mk_J2_244 : Cond.methodLink RJ2 244 yJ2_indexOfCharUnsafe_4cfef ∈ WS := WS_in (tb_3 (List.mem_of_getElem? (i := 37) (by decide +kernel))) rfl
theorem st_yJ2_indexOfCharUnsafe_4cfef : Cond.static yJ2_indexOfCharUnsafe_4cfef ∈ WS := WS_in (tb_3 (List.mem_of_getElem? (i := 38) (by decide +kernel))) rfl
theorem co_yJ2_indexOfCharUnsafe_4cfef : Cond.code yJ2_indexOfCharUnsafe_4cfef cJ2_indexOfCharUnsafe_4cfef 5 (some .int) ∈ WS := WS_in (tb_3 (List.mem_of_getElem? (i := 39) (by decide +kernel))) rfl
theorem mk_J2_71 : Cond.methodLink RJ2 71 yJ2_getChar_3b067 ∈ WS := WS_in (tb_3 (List.mem_of_getElem? (i := 40) (by decide +kernel))) rfl
theorem st_yJ2_getChar_3b067 : Cond.static yJ2_getChar_3b067 ∈ WS := WS_in (tb_3 (List.mem_of_getElem? (i := 41) (by decide +kernel))) rfl
theorem co_yJ2_getChar_3b067 : Cond.code yJ2_getChar_3b067 cJ2_getChar_3b067 2 (some .char) ∈ WS := WS_in (tb_3 (List.mem_of_getElem? (i := 42) (by decide +kernel))) rfl
theorem fk_J2_44 : Cond.fieldLink RJ2 44 "java/lang/StringUTF16" "$assertionsDisabled" "Z" ∈ WS := WS_in (tb_3 (List.mem_of_getElem? (i := 43) (by decide +kernel))) rfl
theorem fk_J2_59 : Cond.fieldLink RJ2 59 "java/lang/StringUTF16" "HI_BYTE_SHIFT" "I" ∈ WS := WS_in (tb_3 (List.mem_of_getElem? (i := 45) (by decide +kernel))) rfl
theorem fk_J2_63 : Cond.fieldLink RJ2 63 "java/lang/StringUTF16" "LO_BYTE_SHIFT" "I" ∈ WS := WS_in (tb_3 (List.mem_of_getElem? (i := 47) (by decide +kernel))) rfl
theorem mk_J2_232 : Cond.methodLink RJ2 232 yJ2_indexOfSupplementary_4cfef ∈ WS := WS_in (tb_3 (List.mem_of_getElem? (i := 49) (by decide +kernel))) rfl
theorem st_yJ2_indexOfSupplementary_4cfef : Cond.static yJ2_indexOfSupplementary_4cfef ∈ WS := WS_in (tb_3 (List.mem_of_getElem? (i := 50) (by decide +kernel))) rfl
theorem co_yJ2_indexOfSupplementary_4cfef : Cond.code yJ2_indexOfSupplementary_4cfef cJ2_indexOfSupplementary_4cfef 7 (some .int) ∈ WS := WS_in (tb_3 (List.mem_of_getElem? (i := 51) (by decide +kernel))) rfl
theorem mk_J2_164 : Cond.methodLink RJ2 164 yJ11_isValidCodePoint_9a6ad ∈ WS := WS_in (tb_3 (List.mem_of_getElem? (i := 52) (by decide +kernel))) rfl
theorem st_yJ11_isValidCodePoint_9a6ad : Cond.static yJ11_isValidCodePoint_9a6ad ∈ WS := WS_in (tb_3 (List.mem_of_getElem? (i := 53) (by decide +kernel))) rfl
theorem co_yJ11_isValidCodePoint_9a6ad : Cond.code yJ11_isValidCodePoint_9a6ad cJ11_isValidCodePoint_9a6ad 2 (some .boolean) ∈ WS := WS_in (tb_3 (List.mem_of_getElem? (i := 54) (by decide +kernel))) rfl
theorem mk_J2_157 : Cond.methodLink RJ2 157 yJ11_highSurrogate_5068e ∈ WS := WS_in (tb_3 (List.mem_of_getElem? (i := 55) (by decide +kernel))) rfl
theorem st_yJ11_highSurrogate_5068e : Cond.static yJ11_highSurrogate_5068e ∈ WS := WS_in (tb_3 (List.mem_of_getElem? (i := 56) (by decide +kernel))) rfl
