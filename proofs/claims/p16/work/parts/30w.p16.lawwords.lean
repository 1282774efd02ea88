set_option maxRecDepth 100000 in
theorem iw0 : ∀ w ∈ wsX00, w ∈ lw_tbl := show ∀ w ∈ ([u_lay RX0 TX0 0, u_lay RX0 TX0 1, u_lay RX0 TX0 2, u_lay RX0 TX0 3, u_lay RX0 TX0 4, u_lay RX0 TX0 5, u_lay RX0 TX0 6, u_lay RX0 TX0 7, u_lay RX0 TX0 8, u_lay RX0 TX0 9, u_lay RX0 TX0 10, u_lay RX0 TX0 11, u_lay RX0 TX0 12, u_lay RX0 TX0 13, u_lay RX0 TX0 14, u_lay RX0 TX0 15] : List Cond), w ∈ lw_tbl from (List.forall_mem_cons.mpr ⟨(List.mem_of_getElem? (i := 257) rfl), (List.forall_mem_cons.mpr ⟨(List.mem_of_getElem? (i := 259) rfl), (List.forall_mem_cons.mpr ⟨(List.mem_of_getElem? (i := 261) rfl), (List.forall_mem_cons.mpr ⟨(List.mem_of_getElem? (i := 263) rfl), (List.forall_mem_cons.mpr ⟨(List.mem_of_getElem? (i := 265) rfl), (List.forall_mem_cons.mpr ⟨(List.mem_of_getElem? (i := 267) rfl), (List.forall_mem_cons.mpr ⟨(List.mem_of_getElem? (i := 269) rfl), (List.forall_mem_cons.mpr ⟨(List.mem_of_getElem? (i := 271) rfl), (List.forall_mem_cons.mpr ⟨(List.mem_of_getElem? (i := 273) rfl), (List.forall_mem_cons.mpr ⟨(List.mem_of_getElem? (i := 275) rfl), (List.forall_mem_cons.mpr ⟨(List.mem_of_getElem? (i := 277) rfl), (List.forall_mem_cons.mpr ⟨(List.mem_of_getElem? (i := 279) rfl), (List.forall_mem_cons.mpr ⟨(List.mem_of_getElem? (i := 281) rfl), (List.forall_mem_cons.mpr ⟨(List.mem_of_getElem? (i := 283) rfl), (List.forall_mem_cons.mpr ⟨(List.mem_of_getElem? (i := 285) rfl), (List.forall_mem_cons.mpr ⟨(List.mem_of_getElem? (i := 287) rfl), (fun _ h => absurd h List.not_mem_nil)⟩)⟩)⟩)⟩)⟩)⟩)⟩)⟩)⟩)⟩)⟩)⟩)⟩)⟩)⟩)⟩)
set_option maxRecDepth 100000 in
theorem iw1 : ∀ w ∈ wsX10, w ∈ lw_tbl := show ∀ w ∈ ([u_lay RX1 TX1 0, u_lay RX1 TX1 1, u_lay RX1 TX1 2, u_lay RX1 TX1 3, u_lay RX1 TX1 4, u_lay RX1 TX1 5, u_lay RX1 TX1 6] : List Cond), w ∈ lw_tbl from (List.forall_mem_cons.mpr ⟨(List.mem_of_getElem? (i := 117) rfl), (List.forall_mem_cons.mpr ⟨(List.mem_of_getElem? (i := 119) rfl), (List.forall_mem_cons.mpr ⟨(List.mem_of_getElem? (i := 121) rfl), (List.forall_mem_cons.mpr ⟨(List.mem_of_getElem? (i := 123) rfl), (List.forall_mem_cons.mpr ⟨(List.mem_of_getElem? (i := 125) rfl), (List.forall_mem_cons.mpr ⟨(List.mem_of_getElem? (i := 127) rfl), (List.forall_mem_cons.mpr ⟨(List.mem_of_getElem? (i := 129) rfl), (fun _ h => absurd h List.not_mem_nil)⟩)⟩)⟩)⟩)⟩)⟩)⟩)
set_option maxRecDepth 100000 in
theorem iw2 : ∀ w ∈ wsX20, w ∈ lw_tbl := show ∀ w ∈ ([u_lay RX2 TX2 0, u_lay RX2 TX2 1, u_lay RX2 TX2 2, u_lay RX2 TX2 3, u_lay RX2 TX2 4, u_lay RX2 TX2 5, u_lay RX2 TX2 6, u_lay RX2 TX2 7, u_lay RX2 TX2 8, u_lay RX2 TX2 9] : List Cond), w ∈ lw_tbl from (List.forall_mem_cons.mpr ⟨(List.mem_of_getElem? (i := 308) rfl), (List.forall_mem_cons.mpr ⟨(List.mem_of_getElem? (i := 310) rfl), (List.forall_mem_cons.mpr ⟨(List.mem_of_getElem? (i := 312) rfl), (List.forall_mem_cons.mpr ⟨(List.mem_of_getElem? (i := 314) rfl), (List.forall_mem_cons.mpr ⟨(List.mem_of_getElem? (i := 316) rfl), (List.forall_mem_cons.mpr ⟨(List.mem_of_getElem? (i := 318) rfl), (List.forall_mem_cons.mpr ⟨(List.mem_of_getElem? (i := 320) rfl), (List.forall_mem_cons.mpr ⟨(List.mem_of_getElem? (i := 322) rfl), (List.forall_mem_cons.mpr ⟨(List.mem_of_getElem? (i := 324) rfl), (List.forall_mem_cons.mpr ⟨(List.mem_of_getElem? (i := 326) rfl), (fun _ h => absurd h List.not_mem_nil)⟩)⟩)⟩)⟩)⟩)⟩)⟩)⟩)⟩)⟩)
set_option maxRecDepth 100000 in
theorem iw3 : ∀ w ∈ wsX30, w ∈ lw_tbl := show ∀ w ∈ ([u_lay RX3 TX3 0, u_lay RX3 TX3 1] : List Cond), w ∈ lw_tbl from (List.forall_mem_cons.mpr ⟨(List.mem_of_getElem? (i := 144) rfl), (List.forall_mem_cons.mpr ⟨(List.mem_of_getElem? (i := 146) rfl), (fun _ h => absurd h List.not_mem_nil)⟩)⟩)
set_option maxRecDepth 100000 in
theorem iw4 : ∀ w ∈ wsX40, w ∈ lw_tbl := show ∀ w ∈ ([u_lay RX4 TX4 0, u_lay RX4 TX4 1, u_lay RX4 TX4 2, u_lay RX4 TX4 3, u_lay RX4 TX4 4, u_lay RX4 TX4 5, u_lay RX4 TX4 6, u_lay RX4 TX4 7, u_lay RX4 TX4 8, u_lay RX4 TX4 9] : List Cond), w ∈ lw_tbl from (List.forall_mem_cons.mpr ⟨(List.mem_of_getElem? (i := 193) rfl), (List.forall_mem_cons.mpr ⟨(List.mem_of_getElem? (i := 195) rfl), (List.forall_mem_cons.mpr ⟨(List.mem_of_getElem? (i := 197) rfl), (List.forall_mem_cons.mpr ⟨(List.mem_of_getElem? (i := 199) rfl), (List.forall_mem_cons.mpr ⟨(List.mem_of_getElem? (i := 201) rfl), (List.forall_mem_cons.mpr ⟨(List.mem_of_getElem? (i := 203) rfl), (List.forall_mem_cons.mpr ⟨(List.mem_of_getElem? (i := 205) rfl), (List.forall_mem_cons.mpr ⟨(List.mem_of_getElem? (i := 207) rfl), (List.forall_mem_cons.mpr ⟨(List.mem_of_getElem? (i := 209) rfl), (List.forall_mem_cons.mpr ⟨(List.mem_of_getElem? (i := 211) rfl), (fun _ h => absurd h List.not_mem_nil)⟩)⟩)⟩)⟩)⟩)⟩)⟩)⟩)⟩)⟩)
set_option maxRecDepth 100000 in
theorem iw5 : ∀ w ∈ wsX50, w ∈ lw_tbl := show ∀ w ∈ ([u_lay RX5 TX5 0, u_lay RX5 TX5 1, u_lay RX5 TX5 2, u_lay RX5 TX5 3, u_lay RX5 TX5 4] : List Cond), w ∈ lw_tbl from (List.forall_mem_cons.mpr ⟨(List.mem_of_getElem? (i := 170) rfl), (List.forall_mem_cons.mpr ⟨(List.mem_of_getElem? (i := 172) rfl), (List.forall_mem_cons.mpr ⟨(List.mem_of_getElem? (i := 174) rfl), (List.forall_mem_cons.mpr ⟨(List.mem_of_getElem? (i := 176) rfl), (List.forall_mem_cons.mpr ⟨(List.mem_of_getElem? (i := 178) rfl), (fun _ h => absurd h List.not_mem_nil)⟩)⟩)⟩)⟩)⟩)
set_option maxRecDepth 100000 in
theorem iw6 : ∀ w ∈ wsX60, w ∈ lw_tbl := show ∀ w ∈ ([u_lay RX6 TX6 0, u_lay RX6 TX6 1, u_lay RX6 TX6 2, u_lay RX6 TX6 3, u_lay RX6 TX6 4, u_lay RX6 TX6 5, u_lay RX6 TX6 6] : List Cond), w ∈ lw_tbl from (List.forall_mem_cons.mpr ⟨(List.mem_of_getElem? (i := 336) rfl), (List.forall_mem_cons.mpr ⟨(List.mem_of_getElem? (i := 338) rfl), (List.forall_mem_cons.mpr ⟨(List.mem_of_getElem? (i := 340) rfl), (List.forall_mem_cons.mpr ⟨(List.mem_of_getElem? (i := 342) rfl), (List.forall_mem_cons.mpr ⟨(List.mem_of_getElem? (i := 344) rfl), (List.forall_mem_cons.mpr ⟨(List.mem_of_getElem? (i := 346) rfl), (List.forall_mem_cons.mpr ⟨(List.mem_of_getElem? (i := 348) rfl), (fun _ h => absurd h List.not_mem_nil)⟩)⟩)⟩)⟩)⟩)⟩)⟩)
set_option maxRecDepth 100000 in
theorem iw7 : ∀ w ∈ wsX70, w ∈ lw_tbl := show ∀ w ∈ ([u_lay RX7 TX7 0, u_lay RX7 TX7 1, u_lay RX7 TX7 2, u_lay RX7 TX7 3, u_lay RX7 TX7 4, u_lay RX7 TX7 5, u_lay RX7 TX7 6, u_lay RX7 TX7 7, u_lay RX7 TX7 8, u_lay RX7 TX7 9, u_lay RX7 TX7 10, u_lay RX7 TX7 11, u_lay RX7 TX7 12, u_lay RX7 TX7 13, u_lay RX7 TX7 14, u_lay RX7 TX7 15, u_lay RX7 TX7 16, u_lay RX7 TX7 17, u_lay RX7 TX7 18, u_lay RX7 TX7 19, u_lay RX7 TX7 20, u_lay RX7 TX7 21, u_lay RX7 TX7 22, u_lay RX7 TX7 23, u_lay RX7 TX7 24, u_lay RX7 TX7 25, u_lay RX7 TX7 26, u_lay RX7 TX7 27, u_lay RX7 TX7 28, u_lay RX7 TX7 29, u_lay RX7 TX7 30, u_lay RX7 TX7 31, u_lay RX7 TX7 32, u_lay RX7 TX7 33, u_lay RX7 TX7 34, u_lay RX7 TX7 35, u_lay RX7 TX7 36, u_lay RX7 TX7 37, u_lay RX7 TX7 38, u_lay RX7 TX7 39, u_lay RX7 TX7 40, u_lay RX7 TX7 41, u_lay RX7 TX7 42, u_lay RX7 TX7 43, u_lay RX7 TX7 44, u_lay RX7 TX7 45, u_lay RX7 TX7 46, u_lay RX7 TX7 47, u_lay RX7 TX7 48, u_lay RX7 TX7 49, u_lay RX7 TX7 50, u_lay RX7 TX7 51, u_lay RX7 TX7 52, u_lay RX7 TX7 53, u_lay RX7 TX7 54, u_lay RX7 TX7 55, u_lay RX7 TX7 56] : List Cond), w ∈ lw_tbl from (List.forall_mem_cons.mpr ⟨(List.mem_of_getElem? (i := 867) rfl), (List.forall_mem_cons.mpr ⟨(List.mem_of_getElem? (i := 869) rfl), (List.forall_mem_cons.mpr ⟨(List.mem_of_getElem? (i := 871) rfl), (List.forall_mem_cons.mpr ⟨(List.mem_of_getElem? (i := 873) rfl), (List.forall_mem_cons.mpr ⟨(List.mem_of_getElem? (i := 875) rfl), (List.forall_mem_cons.mpr ⟨(List.mem_of_getElem? (i := 877) rfl), (List.forall_mem_cons.mpr ⟨(List.mem_of_getElem? (i := 879) rfl), (List.forall_mem_cons.mpr ⟨(List.mem_of_getElem? (i := 881) rfl), (List.forall_mem_cons.mpr ⟨(List.mem_of_getElem? (i := 883) rfl), (List.forall_mem_cons.mpr ⟨(List.mem_of_getElem? (i := 885) rfl), (List.forall_mem_cons.mpr ⟨(List.mem_of_getElem? (i := 887) rfl), (List.forall_mem_cons.mpr ⟨(List.mem_of_getElem? (i := 889) rfl), (List.forall_mem_cons.mpr ⟨(List.mem_of_getElem? (i := 891) rfl), (List.forall_mem_cons.mpr ⟨(List.mem_of_getElem? (i := 893) rfl), (List.forall_mem_cons.mpr ⟨(List.mem_of_getElem? (i := 895) rfl), (List.forall_mem_cons.mpr ⟨(List.mem_of_getElem? (i := 897) rfl), (List.forall_mem_cons.mpr ⟨(List.mem_of_getElem? (i := 899) rfl), (List.forall_mem_cons.mpr ⟨(List.mem_of_getElem? (i := 901) rfl), (List.forall_mem_cons.mpr ⟨(List.mem_of_getElem? (i := 903) rfl), (List.forall_mem_cons.mpr ⟨(List.mem_of_getElem? (i := 905) rfl), (List.forall_mem_cons.mpr ⟨(List.mem_of_getElem? (i := 907) rfl), (List.forall_mem_cons.mpr ⟨(List.mem_of_getElem? (i := 909) rfl), (List.forall_mem_cons.mpr ⟨(List.mem_of_getElem? (i := 911) rfl), (List.forall_mem_cons.mpr ⟨(List.mem_of_getElem? (i := 913) rfl), (List.forall_mem_cons.mpr ⟨(List.mem_of_getElem? (i := 915) rfl), (List.forall_mem_cons.mpr ⟨(List.mem_of_getElem? (i := 917) rfl), (List.forall_mem_cons.mpr ⟨(List.mem_of_getElem? (i := 919) rfl), (List.forall_mem_cons.mpr ⟨(List.mem_of_getElem? (i := 921) rfl), (List.forall_mem_cons.mpr ⟨(List.mem_of_getElem? (i := 923) rfl), (List.forall_mem_cons.mpr ⟨(List.mem_of_getElem? (i := 925) rfl), (List.forall_mem_cons.mpr ⟨(List.mem_of_getElem? (i := 927) rfl), (List.forall_mem_cons.mpr ⟨(List.mem_of_getElem? (i := 929) rfl), (List.forall_mem_cons.mpr ⟨(List.mem_of_getElem? (i := 931) rfl), (List.forall_mem_cons.mpr ⟨(List.mem_of_getElem? (i := 933) rfl), (List.forall_mem_cons.mpr ⟨(List.mem_of_getElem? (i := 935) rfl), (List.forall_mem_cons.mpr ⟨(List.mem_of_getElem? (i := 937) rfl), (List.forall_mem_cons.mpr ⟨(List.mem_of_getElem? (i := 939) rfl), (List.forall_mem_cons.mpr ⟨(List.mem_of_getElem? (i := 941) rfl), (List.forall_mem_cons.mpr ⟨(List.mem_of_getElem? (i := 943) rfl), (List.forall_mem_cons.mpr ⟨(List.mem_of_getElem? (i := 945) rfl), (List.forall_mem_cons.mpr ⟨(List.mem_of_getElem? (i := 947) rfl), (List.forall_mem_cons.mpr ⟨(List.mem_of_getElem? (i := 949) rfl), (List.forall_mem_cons.mpr ⟨(List.mem_of_getElem? (i := 951) rfl), (List.forall_mem_cons.mpr ⟨(List.mem_of_getElem? (i := 953) rfl), (List.forall_mem_cons.mpr ⟨(List.mem_of_getElem? (i := 955) rfl), (List.forall_mem_cons.mpr ⟨(List.mem_of_getElem? (i := 957) rfl), (List.forall_mem_cons.mpr ⟨(List.mem_of_getElem? (i := 959) rfl), (List.forall_mem_cons.mpr ⟨(List.mem_of_getElem? (i := 961) rfl), (List.forall_mem_cons.mpr ⟨(List.mem_of_getElem? (i := 963) rfl), (List.forall_mem_cons.mpr ⟨(List.mem_of_getElem? (i := 965) rfl), (List.forall_mem_cons.mpr ⟨(List.mem_of_getElem? (i := 967) rfl), (List.forall_mem_cons.mpr ⟨(List.mem_of_getElem? (i := 969) rfl), (List.forall_mem_cons.mpr ⟨(List.mem_of_getElem? (i := 971) rfl), (List.forall_mem_cons.mpr ⟨(List.mem_of_getElem? (i := 973) rfl), (List.forall_mem_cons.mpr ⟨(List.mem_of_getElem? (i := 975) rfl), (List.forall_mem_cons.mpr ⟨(List.mem_of_getElem? (i := 977) rfl), (List.forall_mem_cons.mpr ⟨(List.mem_of_getElem? (i := 979) rfl), (fun _ h => absurd h List.not_mem_nil)⟩)⟩)⟩)⟩)⟩)⟩)⟩)⟩)⟩)⟩)⟩)⟩)⟩)⟩)⟩)⟩)⟩)⟩)⟩)⟩)⟩)⟩)⟩)⟩)⟩)⟩)⟩)⟩)⟩)⟩)⟩)⟩)⟩)⟩)⟩)⟩)⟩)⟩)⟩)⟩)⟩)⟩)⟩)⟩)⟩)⟩)⟩)⟩)⟩)⟩)⟩)⟩)⟩)⟩)⟩)⟩)⟩)
set_option maxRecDepth 100000 in
theorem lm_71 : Cond.initialized RX6 ∈ lw_tbl := List.mem_of_getElem? (i := 71) rfl
set_option maxRecDepth 100000 in
theorem lm_353 : Cond.selects RX6 yX6_node yX6_node ∈ lw_tbl := List.mem_of_getElem? (i := 353) rfl
set_option maxRecDepth 100000 in
theorem lm_352 : Cond.instanceMethod yX6_node ∈ lw_tbl := List.mem_of_getElem? (i := 352) rfl
set_option maxRecDepth 100000 in
theorem lm_351 : Cond.methodLink RL 13 yX6_node ∈ lw_tbl := List.mem_of_getElem? (i := 351) rfl
set_option maxRecDepth 100000 in
theorem lm_354 : Cond.code yX6_node cX6_node 3 (some .int) ∈ lw_tbl := List.mem_of_getElem? (i := 354) rfl
set_option maxRecDepth 100000 in
theorem lm_106 : Cond.fieldLink RX1 15 "ShapeJudge$Graph" "values" "[I" ∈ lw_tbl := List.mem_of_getElem? (i := 106) rfl
set_option maxRecDepth 100000 in
theorem lm_104 : Cond.fieldLink RX1 9 "ShapeJudge$Graph" "valued" "[Z" ∈ lw_tbl := List.mem_of_getElem? (i := 104) rfl
set_option maxRecDepth 100000 in
theorem lm_366 : Cond.code yX1_setValue cX1_setValue 4 none ∈ lw_tbl := List.mem_of_getElem? (i := 366) rfl
set_option maxRecDepth 100000 in
theorem lm_365 : Cond.selects RX1 yX1_setValue yX1_setValue ∈ lw_tbl := List.mem_of_getElem? (i := 365) rfl
set_option maxRecDepth 100000 in
theorem lm_364 : Cond.instanceMethod yX1_setValue ∈ lw_tbl := List.mem_of_getElem? (i := 364) rfl
set_option maxRecDepth 100000 in
theorem lm_363 : Cond.methodLink RX1 39 yX1_setValue ∈ lw_tbl := List.mem_of_getElem? (i := 363) rfl
set_option maxRecDepth 100000 in
theorem lm_108 : Cond.fieldLink RX1 19 "ShapeJudge$Graph" "degrees" "[I" ∈ lw_tbl := List.mem_of_getElem? (i := 108) rfl
set_option maxRecDepth 100000 in
theorem lm_100 : Cond.fieldLink RX1 28 "ShapeJudge$Graph" "nodes" "I" ∈ lw_tbl := List.mem_of_getElem? (i := 100) rfl
set_option maxRecDepth 100000 in
theorem lm_362 : Cond.code yX1_addNode cX1_addNode 4 (some .int) ∈ lw_tbl := List.mem_of_getElem? (i := 362) rfl
set_option maxRecDepth 100000 in
theorem lm_72 : Cond.initialized RX1 ∈ lw_tbl := List.mem_of_getElem? (i := 72) rfl
set_option maxRecDepth 100000 in
theorem lm_361 : Cond.selects RX1 yX1_addNode yX1_addNode ∈ lw_tbl := List.mem_of_getElem? (i := 361) rfl
set_option maxRecDepth 100000 in
theorem lm_360 : Cond.instanceMethod yX1_addNode ∈ lw_tbl := List.mem_of_getElem? (i := 360) rfl
set_option maxRecDepth 100000 in
theorem lm_359 : Cond.methodLink RX6 61 yX1_addNode ∈ lw_tbl := List.mem_of_getElem? (i := 359) rfl
set_option maxRecDepth 100000 in
theorem lm_303 : Cond.fieldLink RX2 39 "ShapeJudge$Judge" "sureIsRead" "Z" ∈ lw_tbl := List.mem_of_getElem? (i := 303) rfl
set_option maxRecDepth 100000 in
theorem lm_302 : Cond.fieldLink RX2 35 "ShapeJudge$Judge" "fittingIsRead" "Z" ∈ lw_tbl := List.mem_of_getElem? (i := 302) rfl
set_option maxRecDepth 100000 in
theorem lm_358 : Cond.code yX2_forget cX2_forget 1 none ∈ lw_tbl := List.mem_of_getElem? (i := 358) rfl
set_option maxRecDepth 100000 in
theorem lm_77 : Cond.initialized RX2 ∈ lw_tbl := List.mem_of_getElem? (i := 77) rfl
set_option maxRecDepth 100000 in
theorem lm_357 : Cond.selects RX2 yX2_forget yX2_forget ∈ lw_tbl := List.mem_of_getElem? (i := 357) rfl
set_option maxRecDepth 100000 in
theorem lm_356 : Cond.instanceMethod yX2_forget ∈ lw_tbl := List.mem_of_getElem? (i := 356) rfl
set_option maxRecDepth 100000 in
theorem lm_355 : Cond.methodLink RX6 58 yX2_forget ∈ lw_tbl := List.mem_of_getElem? (i := 355) rfl
set_option maxRecDepth 100000 in
theorem lm_332 : Cond.fieldLink RX6 47 "ShapeJudge" "judge" "LShapeJudge$Judge;" ∈ lw_tbl := List.mem_of_getElem? (i := 332) rfl
set_option maxRecDepth 100000 in
theorem lm_99 : Cond.fieldLink RX6 55 "ShapeJudge$Graph" "nodes" "I" ∈ lw_tbl := List.mem_of_getElem? (i := 99) rfl
set_option maxRecDepth 100000 in
theorem lm_329 : Cond.fieldLink RX6 10 "ShapeJudge" "graph" "LShapeJudge$Graph;" ∈ lw_tbl := List.mem_of_getElem? (i := 329) rfl
set_option maxRecDepth 100000 in
theorem lm_78 : Cond.initialized RX7 ∈ lw_tbl := List.mem_of_getElem? (i := 78) rfl
set_option maxRecDepth 100000 in
theorem lm_984 : Cond.selects RX7 yX7_node yX7_node ∈ lw_tbl := List.mem_of_getElem? (i := 984) rfl
set_option maxRecDepth 100000 in
theorem lm_983 : Cond.instanceMethod yX7_node ∈ lw_tbl := List.mem_of_getElem? (i := 983) rfl
set_option maxRecDepth 100000 in
theorem lm_982 : Cond.methodLink RL 17 yX7_node ∈ lw_tbl := List.mem_of_getElem? (i := 982) rfl
set_option maxRecDepth 100000 in
theorem lm_985 : Cond.code yX7_node cX7_node 3 (some .int) ∈ lw_tbl := List.mem_of_getElem? (i := 985) rfl
set_option maxRecDepth 100000 in
theorem lm_816 : Cond.fieldLink RX7 148 "ShapeJudgeModel" "isRead" "Z" ∈ lw_tbl := List.mem_of_getElem? (i := 816) rfl
set_option maxRecDepth 100000 in
theorem lm_813 : Cond.fieldLink RX7 17 "ShapeJudgeModel" "many" "[I" ∈ lw_tbl := List.mem_of_getElem? (i := 813) rfl
set_option maxRecDepth 100000 in
theorem lm_812 : Cond.fieldLink RX7 13 "ShapeJudgeModel" "values" "[I" ∈ lw_tbl := List.mem_of_getElem? (i := 812) rfl
set_option maxRecDepth 100000 in
theorem lm_811 : Cond.fieldLink RX7 7 "ShapeJudgeModel" "hasValue" "[Z" ∈ lw_tbl := List.mem_of_getElem? (i := 811) rfl
set_option maxRecDepth 100000 in
theorem lm_810 : Cond.fieldLink RX7 140 "ShapeJudgeModel" "nodes" "I" ∈ lw_tbl := List.mem_of_getElem? (i := 810) rfl
set_option maxRecDepth 100000 in
theorem lm_369 : Cond.selects RX6 yX6_value yX6_value ∈ lw_tbl := List.mem_of_getElem? (i := 369) rfl
set_option maxRecDepth 100000 in
theorem lm_368 : Cond.instanceMethod yX6_value ∈ lw_tbl := List.mem_of_getElem? (i := 368) rfl
set_option maxRecDepth 100000 in
theorem lm_367 : Cond.methodLink RL 18 yX6_value ∈ lw_tbl := List.mem_of_getElem? (i := 367) rfl
set_option maxRecDepth 100000 in
theorem lm_370 : Cond.code yX6_value cX6_value 4 (some .int) ∈ lw_tbl := List.mem_of_getElem? (i := 370) rfl
set_option maxRecDepth 100000 in
theorem lm_375 : Cond.methodLink RX6 69 yX1_setValue ∈ lw_tbl := List.mem_of_getElem? (i := 375) rfl
set_option maxRecDepth 100000 in
theorem lm_374 : Cond.code yX1_hasNode cX1_hasNode 2 (some .boolean) ∈ lw_tbl := List.mem_of_getElem? (i := 374) rfl
set_option maxRecDepth 100000 in
theorem lm_373 : Cond.selects RX1 yX1_hasNode yX1_hasNode ∈ lw_tbl := List.mem_of_getElem? (i := 373) rfl
set_option maxRecDepth 100000 in
theorem lm_372 : Cond.instanceMethod yX1_hasNode ∈ lw_tbl := List.mem_of_getElem? (i := 372) rfl
set_option maxRecDepth 100000 in
theorem lm_371 : Cond.methodLink RX6 65 yX1_hasNode ∈ lw_tbl := List.mem_of_getElem? (i := 371) rfl
set_option maxRecDepth 100000 in
theorem lm_988 : Cond.selects RX7 yX7_value yX7_value ∈ lw_tbl := List.mem_of_getElem? (i := 988) rfl
set_option maxRecDepth 100000 in
theorem lm_987 : Cond.instanceMethod yX7_value ∈ lw_tbl := List.mem_of_getElem? (i := 987) rfl
set_option maxRecDepth 100000 in
theorem lm_986 : Cond.methodLink RL 22 yX7_value ∈ lw_tbl := List.mem_of_getElem? (i := 986) rfl
set_option maxRecDepth 100000 in
theorem lm_989 : Cond.code yX7_value cX7_value 4 (some .int) ∈ lw_tbl := List.mem_of_getElem? (i := 989) rfl
set_option maxRecDepth 100000 in
theorem lm_996 : Cond.code yX7_in cX7_in 6 (some .boolean) ∈ lw_tbl := List.mem_of_getElem? (i := 996) rfl
set_option maxRecDepth 100000 in
theorem lm_995 : Cond.static yX7_in ∈ lw_tbl := List.mem_of_getElem? (i := 995) rfl
set_option maxRecDepth 100000 in
theorem lm_994 : Cond.methodLink RX7 144 yX7_in ∈ lw_tbl := List.mem_of_getElem? (i := 994) rfl
set_option maxRecDepth 100000 in
theorem lm_993 : Cond.code yX7_isNode cX7_isNode 2 (some .boolean) ∈ lw_tbl := List.mem_of_getElem? (i := 993) rfl
set_option maxRecDepth 100000 in
theorem lm_36 : Cond.selects RX7 yX7_isNode yX7_isNode ∈ lw_tbl := List.mem_of_getElem? (i := 36) rfl
set_option maxRecDepth 100000 in
theorem lm_992 : Cond.instanceMethod yX7_isNode ∈ lw_tbl := List.mem_of_getElem? (i := 992) rfl
set_option maxRecDepth 100000 in
theorem lm_990 : Cond.methodLink RX7 152 yX7_isNode ∈ lw_tbl := List.mem_of_getElem? (i := 990) rfl
set_option maxRecDepth 100000 in
theorem lm_378 : Cond.selects RX6 yX6_edge yX6_edge ∈ lw_tbl := List.mem_of_getElem? (i := 378) rfl
set_option maxRecDepth 100000 in
theorem lm_377 : Cond.instanceMethod yX6_edge ∈ lw_tbl := List.mem_of_getElem? (i := 377) rfl
set_option maxRecDepth 100000 in
theorem lm_376 : Cond.methodLink RL 23 yX6_edge ∈ lw_tbl := List.mem_of_getElem? (i := 376) rfl
set_option maxRecDepth 100000 in
theorem lm_379 : Cond.code yX6_edge cX6_edge 4 (some .int) ∈ lw_tbl := List.mem_of_getElem? (i := 379) rfl
set_option maxRecDepth 100000 in
theorem lm_114 : Cond.fieldLink RX1 25 "ShapeJudge$Graph" "edgeTo" "[I" ∈ lw_tbl := List.mem_of_getElem? (i := 114) rfl
set_option maxRecDepth 100000 in
theorem lm_111 : Cond.fieldLink RX1 22 "ShapeJudge$Graph" "edgeName" "[I" ∈ lw_tbl := List.mem_of_getElem? (i := 111) rfl
set_option maxRecDepth 100000 in
theorem lm_388 : Cond.code yX1_placeOf cX1_placeOf 6 (some .int) ∈ lw_tbl := List.mem_of_getElem? (i := 388) rfl
set_option maxRecDepth 100000 in
theorem lm_387 : Cond.selects RX1 yX1_placeOf yX1_placeOf ∈ lw_tbl := List.mem_of_getElem? (i := 387) rfl
set_option maxRecDepth 100000 in
theorem lm_386 : Cond.instanceMethod yX1_placeOf ∈ lw_tbl := List.mem_of_getElem? (i := 386) rfl
set_option maxRecDepth 100000 in
theorem lm_385 : Cond.methodLink RX6 77 yX1_placeOf ∈ lw_tbl := List.mem_of_getElem? (i := 385) rfl
set_option maxRecDepth 100000 in
theorem lm_384 : Cond.methodLink RX1 32 yX1_hasNode ∈ lw_tbl := List.mem_of_getElem? (i := 384) rfl
set_option maxRecDepth 100000 in
theorem lm_383 : Cond.code yX1_canBeEdge cX1_canBeEdge 4 (some .boolean) ∈ lw_tbl := List.mem_of_getElem? (i := 383) rfl
set_option maxRecDepth 100000 in
theorem lm_382 : Cond.selects RX1 yX1_canBeEdge yX1_canBeEdge ∈ lw_tbl := List.mem_of_getElem? (i := 382) rfl
set_option maxRecDepth 100000 in
theorem lm_381 : Cond.instanceMethod yX1_canBeEdge ∈ lw_tbl := List.mem_of_getElem? (i := 381) rfl
set_option maxRecDepth 100000 in
theorem lm_380 : Cond.methodLink RX6 73 yX1_canBeEdge ∈ lw_tbl := List.mem_of_getElem? (i := 380) rfl
set_option maxRecDepth 100000 in
theorem lm_109 : Cond.fieldLink RX6 84 "ShapeJudge$Graph" "degrees" "[I" ∈ lw_tbl := List.mem_of_getElem? (i := 109) rfl
set_option maxRecDepth 100000 in
theorem lm_102 : Cond.fieldLink RX6 81 "ShapeJudge$Graph" "edges" "I" ∈ lw_tbl := List.mem_of_getElem? (i := 102) rfl
set_option maxRecDepth 100000 in
theorem lm_396 : Cond.code yX1_isAhead cX1_isAhead 4 (some .boolean) ∈ lw_tbl := List.mem_of_getElem? (i := 396) rfl
set_option maxRecDepth 100000 in
theorem lm_0 : Cond.selects RX1 yX1_isAhead yX1_isAhead ∈ lw_tbl := List.mem_of_getElem? (i := 0) rfl
set_option maxRecDepth 100000 in
theorem lm_395 : Cond.instanceMethod yX1_isAhead ∈ lw_tbl := List.mem_of_getElem? (i := 395) rfl
set_option maxRecDepth 100000 in
theorem lm_393 : Cond.methodLink RX1 43 yX1_isAhead ∈ lw_tbl := List.mem_of_getElem? (i := 393) rfl
set_option maxRecDepth 100000 in
theorem lm_103 : Cond.fieldLink RX1 36 "ShapeJudge$Graph" "edges" "I" ∈ lw_tbl := List.mem_of_getElem? (i := 103) rfl
set_option maxRecDepth 100000 in
theorem lm_392 : Cond.code yX1_addEdge cX1_addEdge 6 none ∈ lw_tbl := List.mem_of_getElem? (i := 392) rfl
set_option maxRecDepth 100000 in
theorem lm_391 : Cond.selects RX1 yX1_addEdge yX1_addEdge ∈ lw_tbl := List.mem_of_getElem? (i := 391) rfl
set_option maxRecDepth 100000 in
theorem lm_390 : Cond.instanceMethod yX1_addEdge ∈ lw_tbl := List.mem_of_getElem? (i := 390) rfl
set_option maxRecDepth 100000 in
theorem lm_389 : Cond.methodLink RX6 88 yX1_addEdge ∈ lw_tbl := List.mem_of_getElem? (i := 389) rfl
set_option maxRecDepth 100000 in
theorem lm_999 : Cond.selects RX7 yX7_edge yX7_edge ∈ lw_tbl := List.mem_of_getElem? (i := 999) rfl
set_option maxRecDepth 100000 in
theorem lm_998 : Cond.instanceMethod yX7_edge ∈ lw_tbl := List.mem_of_getElem? (i := 998) rfl
set_option maxRecDepth 100000 in
theorem lm_997 : Cond.methodLink RL 27 yX7_edge ∈ lw_tbl := List.mem_of_getElem? (i := 997) rfl
set_option maxRecDepth 100000 in
theorem lm_1000 : Cond.code yX7_edge cX7_edge 6 (some .int) ∈ lw_tbl := List.mem_of_getElem? (i := 1000) rfl
set_option maxRecDepth 100000 in
theorem lm_1012 : Cond.instanceMethod yX7_edges ∈ lw_tbl := List.mem_of_getElem? (i := 1012) rfl
set_option maxRecDepth 100000 in
theorem lm_1010 : Cond.methodLink RX7 166 yX7_edges ∈ lw_tbl := List.mem_of_getElem? (i := 1010) rfl
set_option maxRecDepth 100000 in
theorem lm_1009 : Cond.code yX7_placeOf cX7_placeOf 5 (some .int) ∈ lw_tbl := List.mem_of_getElem? (i := 1009) rfl
set_option maxRecDepth 100000 in
theorem lm_38 : Cond.selects RX7 yX7_placeOf yX7_placeOf ∈ lw_tbl := List.mem_of_getElem? (i := 38) rfl
set_option maxRecDepth 100000 in
theorem lm_1008 : Cond.instanceMethod yX7_placeOf ∈ lw_tbl := List.mem_of_getElem? (i := 1008) rfl
set_option maxRecDepth 100000 in
theorem lm_1006 : Cond.methodLink RX7 156 yX7_placeOf ∈ lw_tbl := List.mem_of_getElem? (i := 1006) rfl
set_option maxRecDepth 100000 in
theorem lm_1005 : Cond.code yX7_isThere cX7_isThere 5 (some .boolean) ∈ lw_tbl := List.mem_of_getElem? (i := 1005) rfl
set_option maxRecDepth 100000 in
theorem lm_37 : Cond.selects RX7 yX7_isThere yX7_isThere ∈ lw_tbl := List.mem_of_getElem? (i := 37) rfl
set_option maxRecDepth 100000 in
theorem lm_1004 : Cond.instanceMethod yX7_isThere ∈ lw_tbl := List.mem_of_getElem? (i := 1004) rfl
set_option maxRecDepth 100000 in
theorem lm_1002 : Cond.methodLink RX7 162 yX7_isThere ∈ lw_tbl := List.mem_of_getElem? (i := 1002) rfl
set_option maxRecDepth 100000 in
theorem lm_815 : Cond.fieldLink RX7 23 "ShapeJudgeModel" "tos" "[I" ∈ lw_tbl := List.mem_of_getElem? (i := 815) rfl
set_option maxRecDepth 100000 in
theorem lm_814 : Cond.fieldLink RX7 20 "ShapeJudgeModel" "names" "[I" ∈ lw_tbl := List.mem_of_getElem? (i := 814) rfl
set_option maxRecDepth 100000 in
theorem lm_1001 : Cond.constantLong RX7 160 (9) ∈ lw_tbl := List.mem_of_getElem? (i := 1001) rfl
set_option maxRecDepth 100000 in
theorem lm_1013 : Cond.code yX7_edges cX7_edges 3 (some .int) ∈ lw_tbl := List.mem_of_getElem? (i := 1013) rfl
set_option maxRecDepth 100000 in
theorem lm_39 : Cond.selects RX7 yX7_edges yX7_edges ∈ lw_tbl := List.mem_of_getElem? (i := 39) rfl
set_option maxRecDepth 100000 in
theorem lm_399 : Cond.selects RX6 yX6_cut yX6_cut ∈ lw_tbl := List.mem_of_getElem? (i := 399) rfl
set_option maxRecDepth 100000 in
theorem lm_398 : Cond.instanceMethod yX6_cut ∈ lw_tbl := List.mem_of_getElem? (i := 398) rfl
set_option maxRecDepth 100000 in
theorem lm_397 : Cond.methodLink RL 28 yX6_cut ∈ lw_tbl := List.mem_of_getElem? (i := 397) rfl
set_option maxRecDepth 100000 in
theorem lm_400 : Cond.code yX6_cut cX6_cut 5 (some .int) ∈ lw_tbl := List.mem_of_getElem? (i := 400) rfl
set_option maxRecDepth 100000 in
theorem lm_404 : Cond.code yX1_removeEdge cX1_removeEdge 5 none ∈ lw_tbl := List.mem_of_getElem? (i := 404) rfl
set_option maxRecDepth 100000 in
theorem lm_403 : Cond.selects RX1 yX1_removeEdge yX1_removeEdge ∈ lw_tbl := List.mem_of_getElem? (i := 403) rfl
set_option maxRecDepth 100000 in
theorem lm_402 : Cond.instanceMethod yX1_removeEdge ∈ lw_tbl := List.mem_of_getElem? (i := 402) rfl
set_option maxRecDepth 100000 in
theorem lm_401 : Cond.methodLink RX6 92 yX1_removeEdge ∈ lw_tbl := List.mem_of_getElem? (i := 401) rfl
set_option maxRecDepth 100000 in
theorem lm_1016 : Cond.selects RX7 yX7_cut yX7_cut ∈ lw_tbl := List.mem_of_getElem? (i := 1016) rfl
set_option maxRecDepth 100000 in
theorem lm_1015 : Cond.instanceMethod yX7_cut ∈ lw_tbl := List.mem_of_getElem? (i := 1015) rfl
set_option maxRecDepth 100000 in
theorem lm_1014 : Cond.methodLink RL 31 yX7_cut ∈ lw_tbl := List.mem_of_getElem? (i := 1014) rfl
set_option maxRecDepth 100000 in
theorem lm_1017 : Cond.code yX7_cut cX7_cut 5 (some .int) ∈ lw_tbl := List.mem_of_getElem? (i := 1017) rfl
set_option maxRecDepth 100000 in
theorem lm_407 : Cond.selects RX6 yX6_feed yX6_feed ∈ lw_tbl := List.mem_of_getElem? (i := 407) rfl
set_option maxRecDepth 100000 in
theorem lm_406 : Cond.instanceMethod yX6_feed ∈ lw_tbl := List.mem_of_getElem? (i := 406) rfl
set_option maxRecDepth 100000 in
theorem lm_405 : Cond.methodLink RL 32 yX6_feed ∈ lw_tbl := List.mem_of_getElem? (i := 405) rfl
set_option maxRecDepth 100000 in
theorem lm_408 : Cond.code yX6_feed cX6_feed 6 (some .int) ∈ lw_tbl := List.mem_of_getElem? (i := 408) rfl
set_option maxRecDepth 100000 in
theorem lm_140 : Cond.fieldLink RX3 9 "ShapeJudge$Tape" "bytes" "[B" ∈ lw_tbl := List.mem_of_getElem? (i := 140) rfl
set_option maxRecDepth 100000 in
theorem lm_141 : Cond.fieldLink RX3 15 "ShapeJudge$Tape" "length" "I" ∈ lw_tbl := List.mem_of_getElem? (i := 141) rfl
set_option maxRecDepth 100000 in
theorem lm_412 : Cond.code yX3_append cX3_append 3 none ∈ lw_tbl := List.mem_of_getElem? (i := 412) rfl
set_option maxRecDepth 100000 in
theorem lm_73 : Cond.initialized RX3 ∈ lw_tbl := List.mem_of_getElem? (i := 73) rfl
set_option maxRecDepth 100000 in
theorem lm_411 : Cond.selects RX3 yX3_append yX3_append ∈ lw_tbl := List.mem_of_getElem? (i := 411) rfl
set_option maxRecDepth 100000 in
theorem lm_410 : Cond.instanceMethod yX3_append ∈ lw_tbl := List.mem_of_getElem? (i := 410) rfl
set_option maxRecDepth 100000 in
theorem lm_409 : Cond.methodLink RX6 99 yX3_append ∈ lw_tbl := List.mem_of_getElem? (i := 409) rfl
set_option maxRecDepth 100000 in
theorem lm_143 : Cond.fieldLink RX6 96 "ShapeJudge$Tape" "length" "I" ∈ lw_tbl := List.mem_of_getElem? (i := 143) rfl
set_option maxRecDepth 100000 in
theorem lm_330 : Cond.fieldLink RX6 19 "ShapeJudge" "tape" "LShapeJudge$Tape;" ∈ lw_tbl := List.mem_of_getElem? (i := 330) rfl
set_option maxRecDepth 100000 in
theorem lm_1020 : Cond.selects RX7 yX7_feed yX7_feed ∈ lw_tbl := List.mem_of_getElem? (i := 1020) rfl
set_option maxRecDepth 100000 in
theorem lm_1019 : Cond.instanceMethod yX7_feed ∈ lw_tbl := List.mem_of_getElem? (i := 1019) rfl
set_option maxRecDepth 100000 in
theorem lm_1018 : Cond.methodLink RL 36 yX7_feed ∈ lw_tbl := List.mem_of_getElem? (i := 1018) rfl
set_option maxRecDepth 100000 in
theorem lm_1021 : Cond.code yX7_feed cX7_feed 6 (some .int) ∈ lw_tbl := List.mem_of_getElem? (i := 1021) rfl
set_option maxRecDepth 100000 in
theorem lm_846 : Cond.fieldLink RX7 107 "ShapeJudgeModel" "tape" "[I" ∈ lw_tbl := List.mem_of_getElem? (i := 846) rfl
set_option maxRecDepth 100000 in
theorem lm_1025 : Cond.code yX7_put cX7_put 3 none ∈ lw_tbl := List.mem_of_getElem? (i := 1025) rfl
set_option maxRecDepth 100000 in
theorem lm_40 : Cond.selects RX7 yX7_put yX7_put ∈ lw_tbl := List.mem_of_getElem? (i := 40) rfl
set_option maxRecDepth 100000 in
theorem lm_1024 : Cond.instanceMethod yX7_put ∈ lw_tbl := List.mem_of_getElem? (i := 1024) rfl
set_option maxRecDepth 100000 in
theorem lm_1022 : Cond.methodLink RX7 173 yX7_put ∈ lw_tbl := List.mem_of_getElem? (i := 1022) rfl
set_option maxRecDepth 100000 in
theorem lm_847 : Cond.fieldLink RX7 170 "ShapeJudgeModel" "taped" "I" ∈ lw_tbl := List.mem_of_getElem? (i := 847) rfl
set_option maxRecDepth 100000 in
theorem lm_415 : Cond.selects RX6 yX6_end yX6_end ∈ lw_tbl := List.mem_of_getElem? (i := 415) rfl
set_option maxRecDepth 100000 in
theorem lm_414 : Cond.instanceMethod yX6_end ∈ lw_tbl := List.mem_of_getElem? (i := 414) rfl
set_option maxRecDepth 100000 in
theorem lm_413 : Cond.methodLink RL 37 yX6_end ∈ lw_tbl := List.mem_of_getElem? (i := 413) rfl
set_option maxRecDepth 100000 in
theorem lm_416 : Cond.code yX6_end cX6_end 3 (some .int) ∈ lw_tbl := List.mem_of_getElem? (i := 416) rfl
set_option maxRecDepth 100000 in
theorem lm_1028 : Cond.selects RX7 yX7_end yX7_end ∈ lw_tbl := List.mem_of_getElem? (i := 1028) rfl
set_option maxRecDepth 100000 in
theorem lm_1027 : Cond.instanceMethod yX7_end ∈ lw_tbl := List.mem_of_getElem? (i := 1027) rfl
set_option maxRecDepth 100000 in
theorem lm_1026 : Cond.methodLink RL 41 yX7_end ∈ lw_tbl := List.mem_of_getElem? (i := 1026) rfl
set_option maxRecDepth 100000 in
theorem lm_1029 : Cond.code yX7_end cX7_end 3 (some .int) ∈ lw_tbl := List.mem_of_getElem? (i := 1029) rfl
set_option maxRecDepth 100000 in
theorem lm_419 : Cond.selects RX6 yX6_shapes yX6_shapes ∈ lw_tbl := List.mem_of_getElem? (i := 419) rfl
set_option maxRecDepth 100000 in
theorem lm_418 : Cond.instanceMethod yX6_shapes ∈ lw_tbl := List.mem_of_getElem? (i := 418) rfl
set_option maxRecDepth 100000 in
theorem lm_417 : Cond.methodLink RL 42 yX6_shapes ∈ lw_tbl := List.mem_of_getElem? (i := 417) rfl
set_option maxRecDepth 100000 in
theorem lm_420 : Cond.code yX6_shapes cX6_shapes 2 (some .int) ∈ lw_tbl := List.mem_of_getElem? (i := 420) rfl
set_option maxRecDepth 100000 in
theorem lm_164 : Cond.fieldLink RX4 54 "ShapeJudge$Tokens" "kind" "I" ∈ lw_tbl := List.mem_of_getElem? (i := 164) rfl
set_option maxRecDepth 100000 in
theorem lm_191 : Cond.fieldLink RX4 48 "ShapeJudge$TextReader" "faultPlace" "I" ∈ lw_tbl := List.mem_of_getElem? (i := 191) rfl
set_option maxRecDepth 100000 in
theorem lm_189 : Cond.fieldLink RX4 45 "ShapeJudge$TextReader" "faultKind" "I" ∈ lw_tbl := List.mem_of_getElem? (i := 189) rfl
set_option maxRecDepth 100000 in
theorem lm_186 : Cond.fieldLink RX4 42 "ShapeJudge$TextReader" "bars" "I" ∈ lw_tbl := List.mem_of_getElem? (i := 186) rfl
set_option maxRecDepth 100000 in
theorem lm_185 : Cond.fieldLink RX4 39 "ShapeJudge$TextReader" "commas" "I" ∈ lw_tbl := List.mem_of_getElem? (i := 185) rfl
set_option maxRecDepth 100000 in
theorem lm_184 : Cond.fieldLink RX4 36 "ShapeJudge$TextReader" "depth" "I" ∈ lw_tbl := List.mem_of_getElem? (i := 184) rfl
set_option maxRecDepth 100000 in
theorem lm_183 : Cond.fieldLink RX4 32 "ShapeJudge$TextReader" "state" "I" ∈ lw_tbl := List.mem_of_getElem? (i := 183) rfl
set_option maxRecDepth 100000 in
theorem lm_181 : Cond.fieldLink RX4 14 "ShapeJudge$TextReader" "tokens" "LShapeJudge$Tokens;" ∈ lw_tbl := List.mem_of_getElem? (i := 181) rfl
set_option maxRecDepth 100000 in
theorem lm_182 : Cond.fieldLink RX4 20 "ShapeJudge$TextReader" "book" "LShapeJudge$Book;" ∈ lw_tbl := List.mem_of_getElem? (i := 182) rfl
set_option maxRecDepth 100000 in
theorem lm_424 : Cond.code yX4_readText cX4_readText 3 none ∈ lw_tbl := List.mem_of_getElem? (i := 424) rfl
set_option maxRecDepth 100000 in
theorem lm_74 : Cond.initialized RX4 ∈ lw_tbl := List.mem_of_getElem? (i := 74) rfl
set_option maxRecDepth 100000 in
theorem lm_423 : Cond.selects RX4 yX4_readText yX4_readText ∈ lw_tbl := List.mem_of_getElem? (i := 423) rfl
set_option maxRecDepth 100000 in
theorem lm_422 : Cond.instanceMethod yX4_readText ∈ lw_tbl := List.mem_of_getElem? (i := 422) rfl
set_option maxRecDepth 100000 in
theorem lm_421 : Cond.methodLink RX6 103 yX4_readText ∈ lw_tbl := List.mem_of_getElem? (i := 421) rfl
set_option maxRecDepth 100000 in
theorem lm_223 : Cond.fieldLink RX6 116 "ShapeJudge$Book" "shapeCount" "I" ∈ lw_tbl := List.mem_of_getElem? (i := 223) rfl
set_option maxRecDepth 100000 in
theorem lm_333 : Cond.fieldLink RX6 35 "ShapeJudge" "book" "LShapeJudge$Book;" ∈ lw_tbl := List.mem_of_getElem? (i := 333) rfl
set_option maxRecDepth 100000 in
theorem lm_192 : Cond.fieldLink RX6 110 "ShapeJudge$TextReader" "faultPlace" "I" ∈ lw_tbl := List.mem_of_getElem? (i := 192) rfl
set_option maxRecDepth 100000 in
theorem lm_335 : Cond.fieldLink RX6 51 "ShapeJudge" "latestFault" "I" ∈ lw_tbl := List.mem_of_getElem? (i := 335) rfl
set_option maxRecDepth 100000 in
theorem lm_190 : Cond.fieldLink RX6 107 "ShapeJudge$TextReader" "faultKind" "I" ∈ lw_tbl := List.mem_of_getElem? (i := 190) rfl
set_option maxRecDepth 100000 in
theorem lm_334 : Cond.fieldLink RX6 39 "ShapeJudge" "spare" "LShapeJudge$Book;" ∈ lw_tbl := List.mem_of_getElem? (i := 334) rfl
set_option maxRecDepth 100000 in
theorem lm_331 : Cond.fieldLink RX6 28 "ShapeJudge" "reader" "LShapeJudge$TextReader;" ∈ lw_tbl := List.mem_of_getElem? (i := 331) rfl
set_option maxRecDepth 100000 in
theorem lm_437 : Cond.methodLink RX5 22 yX3_byteAt ∈ lw_tbl := List.mem_of_getElem? (i := 437) rfl
set_option maxRecDepth 100000 in
theorem lm_168 : Cond.fieldLink RX5 33 "ShapeJudge$Tokens" "number" "I" ∈ lw_tbl := List.mem_of_getElem? (i := 168) rfl
set_option maxRecDepth 100000 in
theorem lm_167 : Cond.fieldLink RX5 26 "ShapeJudge$Tokens" "place" "I" ∈ lw_tbl := List.mem_of_getElem? (i := 167) rfl
set_option maxRecDepth 100000 in
theorem lm_142 : Cond.fieldLink RX5 17 "ShapeJudge$Tape" "length" "I" ∈ lw_tbl := List.mem_of_getElem? (i := 142) rfl
set_option maxRecDepth 100000 in
theorem lm_162 : Cond.fieldLink RX5 7 "ShapeJudge$Tokens" "tape" "LShapeJudge$Tape;" ∈ lw_tbl := List.mem_of_getElem? (i := 162) rfl
set_option maxRecDepth 100000 in
theorem lm_436 : Cond.code yX5_advance cX5_advance 3 none ∈ lw_tbl := List.mem_of_getElem? (i := 436) rfl
set_option maxRecDepth 100000 in
theorem lm_435 : Cond.selects RX5 yX5_advance yX5_advance ∈ lw_tbl := List.mem_of_getElem? (i := 435) rfl
set_option maxRecDepth 100000 in
theorem lm_434 : Cond.instanceMethod yX5_advance ∈ lw_tbl := List.mem_of_getElem? (i := 434) rfl
set_option maxRecDepth 100000 in
theorem lm_433 : Cond.methodLink RX4 51 yX5_advance ∈ lw_tbl := List.mem_of_getElem? (i := 433) rfl
set_option maxRecDepth 100000 in
theorem lm_163 : Cond.fieldLink RX5 13 "ShapeJudge$Tokens" "next" "I" ∈ lw_tbl := List.mem_of_getElem? (i := 163) rfl
set_option maxRecDepth 100000 in
theorem lm_432 : Cond.code yX5_rewind cX5_rewind 1 none ∈ lw_tbl := List.mem_of_getElem? (i := 432) rfl
set_option maxRecDepth 100000 in
theorem lm_75 : Cond.initialized RX5 ∈ lw_tbl := List.mem_of_getElem? (i := 75) rfl
set_option maxRecDepth 100000 in
theorem lm_431 : Cond.selects RX5 yX5_rewind yX5_rewind ∈ lw_tbl := List.mem_of_getElem? (i := 431) rfl
set_option maxRecDepth 100000 in
theorem lm_430 : Cond.instanceMethod yX5_rewind ∈ lw_tbl := List.mem_of_getElem? (i := 430) rfl
set_option maxRecDepth 100000 in
theorem lm_429 : Cond.methodLink RX4 29 yX5_rewind ∈ lw_tbl := List.mem_of_getElem? (i := 429) rfl
set_option maxRecDepth 100000 in
theorem lm_240 : Cond.fieldLink RX0 31 "ShapeJudge$Book" "firstStep" "[I" ∈ lw_tbl := List.mem_of_getElem? (i := 240) rfl
set_option maxRecDepth 100000 in
theorem lm_225 : Cond.fieldLink RX0 63 "ShapeJudge$Book" "lastSlot" "I" ∈ lw_tbl := List.mem_of_getElem? (i := 225) rfl
set_option maxRecDepth 100000 in
theorem lm_224 : Cond.fieldLink RX0 60 "ShapeJudge$Book" "stepCount" "I" ∈ lw_tbl := List.mem_of_getElem? (i := 224) rfl
set_option maxRecDepth 100000 in
theorem lm_220 : Cond.fieldLink RX0 52 "ShapeJudge$Book" "shapeCount" "I" ∈ lw_tbl := List.mem_of_getElem? (i := 220) rfl
set_option maxRecDepth 100000 in
theorem lm_428 : Cond.code yX0_clear cX0_clear 1 none ∈ lw_tbl := List.mem_of_getElem? (i := 428) rfl
set_option maxRecDepth 100000 in
theorem lm_76 : Cond.initialized RX0 ∈ lw_tbl := List.mem_of_getElem? (i := 76) rfl
set_option maxRecDepth 100000 in
theorem lm_427 : Cond.selects RX0 yX0_clear yX0_clear ∈ lw_tbl := List.mem_of_getElem? (i := 427) rfl
set_option maxRecDepth 100000 in
theorem lm_426 : Cond.instanceMethod yX0_clear ∈ lw_tbl := List.mem_of_getElem? (i := 426) rfl
set_option maxRecDepth 100000 in
theorem lm_425 : Cond.methodLink RX4 24 yX0_clear ∈ lw_tbl := List.mem_of_getElem? (i := 425) rfl
set_option maxRecDepth 100000 in
theorem lm_458 : Cond.instanceMethod yJ0_length_8abf5 ∈ lw_tbl := List.mem_of_getElem? (i := 458) rfl
set_option maxRecDepth 100000 in
theorem lm_457 : Cond.methodLink RX5 49 yJ0_length_8abf5 ∈ lw_tbl := List.mem_of_getElem? (i := 457) rfl
set_option maxRecDepth 100000 in
theorem lm_455 : Cond.code yX5_isClosedText cX5_isClosedText 2 (some .boolean) ∈ lw_tbl := List.mem_of_getElem? (i := 455) rfl
set_option maxRecDepth 100000 in
theorem lm_3 : Cond.selects RX5 yX5_isClosedText yX5_isClosedText ∈ lw_tbl := List.mem_of_getElem? (i := 3) rfl
set_option maxRecDepth 100000 in
theorem lm_454 : Cond.instanceMethod yX5_isClosedText ∈ lw_tbl := List.mem_of_getElem? (i := 454) rfl
set_option maxRecDepth 100000 in
theorem lm_452 : Cond.methodLink RX5 43 yX5_isClosedText ∈ lw_tbl := List.mem_of_getElem? (i := 452) rfl
set_option maxRecDepth 100000 in
theorem lm_451 : Cond.code yX5_readNumber cX5_readNumber 5 none ∈ lw_tbl := List.mem_of_getElem? (i := 451) rfl
set_option maxRecDepth 100000 in
theorem lm_2 : Cond.selects RX5 yX5_readNumber yX5_readNumber ∈ lw_tbl := List.mem_of_getElem? (i := 2) rfl
set_option maxRecDepth 100000 in
theorem lm_450 : Cond.instanceMethod yX5_readNumber ∈ lw_tbl := List.mem_of_getElem? (i := 450) rfl
set_option maxRecDepth 100000 in
theorem lm_448 : Cond.methodLink RX5 40 yX5_readNumber ∈ lw_tbl := List.mem_of_getElem? (i := 448) rfl
set_option maxRecDepth 100000 in
theorem lm_447 : Cond.code yX5_isFigure cX5_isFigure 1 (some .boolean) ∈ lw_tbl := List.mem_of_getElem? (i := 447) rfl
set_option maxRecDepth 100000 in
theorem lm_446 : Cond.static yX5_isFigure ∈ lw_tbl := List.mem_of_getElem? (i := 446) rfl
set_option maxRecDepth 100000 in
theorem lm_445 : Cond.methodLink RX5 36 yX5_isFigure ∈ lw_tbl := List.mem_of_getElem? (i := 445) rfl
set_option maxRecDepth 100000 in
theorem lm_165 : Cond.fieldLink RX5 57 "ShapeJudge$Tokens" "kind" "I" ∈ lw_tbl := List.mem_of_getElem? (i := 165) rfl
set_option maxRecDepth 100000 in
theorem lm_444 : Cond.code yX5_become cX5_become 3 none ∈ lw_tbl := List.mem_of_getElem? (i := 444) rfl
set_option maxRecDepth 100000 in
theorem lm_1 : Cond.selects RX5 yX5_become yX5_become ∈ lw_tbl := List.mem_of_getElem? (i := 1) rfl
set_option maxRecDepth 100000 in
theorem lm_443 : Cond.instanceMethod yX5_become ∈ lw_tbl := List.mem_of_getElem? (i := 443) rfl
set_option maxRecDepth 100000 in
theorem lm_441 : Cond.methodLink RX5 29 yX5_become ∈ lw_tbl := List.mem_of_getElem? (i := 441) rfl
set_option maxRecDepth 100000 in
theorem lm_440 : Cond.code yX3_byteAt cX3_byteAt 2 (some .int) ∈ lw_tbl := List.mem_of_getElem? (i := 440) rfl
set_option maxRecDepth 100000 in
theorem lm_439 : Cond.selects RX3 yX3_byteAt yX3_byteAt ∈ lw_tbl := List.mem_of_getElem? (i := 439) rfl
set_option maxRecDepth 100000 in
theorem lm_438 : Cond.instanceMethod yX3_byteAt ∈ lw_tbl := List.mem_of_getElem? (i := 438) rfl
set_option maxRecDepth 100000 in
theorem lm_479 : Cond.static yJ0_checkIndex_df160 ∈ lw_tbl := List.mem_of_getElem? (i := 479) rfl
set_option maxRecDepth 100000 in
theorem lm_478 : Cond.methodLink RJ1 9 yJ0_checkIndex_df160 ∈ lw_tbl := List.mem_of_getElem? (i := 478) rfl
set_option maxRecDepth 100000 in
theorem lm_477 : Cond.code yJ1_charAt_3b067 cJ1_charAt_3b067 2 (some .char) ∈ lw_tbl := List.mem_of_getElem? (i := 477) rfl
set_option maxRecDepth 100000 in
theorem lm_80 : Cond.initialized RJ1 ∈ lw_tbl := List.mem_of_getElem? (i := 80) rfl
set_option maxRecDepth 100000 in
theorem lm_476 : Cond.static yJ1_charAt_3b067 ∈ lw_tbl := List.mem_of_getElem? (i := 476) rfl
set_option maxRecDepth 100000 in
theorem lm_475 : Cond.methodLink RJ0 495 yJ1_charAt_3b067 ∈ lw_tbl := List.mem_of_getElem? (i := 475) rfl
set_option maxRecDepth 100000 in
theorem lm_474 : Cond.code yJ0_isLatin1_aae02 cJ0_isLatin1_aae02 1 (some .boolean) ∈ lw_tbl := List.mem_of_getElem? (i := 474) rfl
set_option maxRecDepth 100000 in
theorem lm_473 : Cond.selects RJ0 yJ0_isLatin1_aae02 yJ0_isLatin1_aae02 ∈ lw_tbl := List.mem_of_getElem? (i := 473) rfl
set_option maxRecDepth 100000 in
theorem lm_472 : Cond.instanceMethod yJ0_isLatin1_aae02 ∈ lw_tbl := List.mem_of_getElem? (i := 472) rfl
set_option maxRecDepth 100000 in
theorem lm_471 : Cond.methodLink RJ0 492 yJ0_isLatin1_aae02 ∈ lw_tbl := List.mem_of_getElem? (i := 471) rfl
set_option maxRecDepth 100000 in
theorem lm_470 : Cond.code yJ0_charAt_5068e cJ0_charAt_5068e 2 (some .char) ∈ lw_tbl := List.mem_of_getElem? (i := 470) rfl
set_option maxRecDepth 100000 in
theorem lm_469 : Cond.selects RJ0 yJ0_charAt_5068e yJ0_charAt_5068e ∈ lw_tbl := List.mem_of_getElem? (i := 469) rfl
set_option maxRecDepth 100000 in
theorem lm_468 : Cond.instanceMethod yJ0_charAt_5068e ∈ lw_tbl := List.mem_of_getElem? (i := 468) rfl
set_option maxRecDepth 100000 in
theorem lm_467 : Cond.methodLink RX5 60 yJ0_charAt_5068e ∈ lw_tbl := List.mem_of_getElem? (i := 467) rfl
set_option maxRecDepth 100000 in
theorem lm_1225 : Cond.fieldLink RJ0 15 "java/lang/String" "coder" "B" ∈ lw_tbl := List.mem_of_getElem? (i := 1225) rfl
set_option maxRecDepth 100000 in
theorem lm_465 : Cond.fieldLink RJ0 38 "java/lang/String" "COMPACT_STRINGS" "Z" ∈ lw_tbl := List.mem_of_getElem? (i := 465) rfl
set_option maxRecDepth 100000 in
theorem lm_464 : Cond.code yJ0_coder_7d493 cJ0_coder_7d493 1 (some .byte) ∈ lw_tbl := List.mem_of_getElem? (i := 464) rfl
set_option maxRecDepth 100000 in
theorem lm_463 : Cond.selects RJ0 yJ0_coder_7d493 yJ0_coder_7d493 ∈ lw_tbl := List.mem_of_getElem? (i := 463) rfl
set_option maxRecDepth 100000 in
theorem lm_462 : Cond.instanceMethod yJ0_coder_7d493 ∈ lw_tbl := List.mem_of_getElem? (i := 462) rfl
set_option maxRecDepth 100000 in
theorem lm_461 : Cond.methodLink RJ0 335 yJ0_coder_7d493 ∈ lw_tbl := List.mem_of_getElem? (i := 461) rfl
set_option maxRecDepth 100000 in
theorem lm_1224 : Cond.fieldLink RJ0 9 "java/lang/String" "value" "[B" ∈ lw_tbl := List.mem_of_getElem? (i := 1224) rfl
set_option maxRecDepth 100000 in
theorem lm_460 : Cond.code yJ0_length_8abf5 cJ0_length_8abf5 1 (some .int) ∈ lw_tbl := List.mem_of_getElem? (i := 460) rfl
set_option maxRecDepth 100000 in
theorem lm_79 : Cond.initialized RJ0 ∈ lw_tbl := List.mem_of_getElem? (i := 79) rfl
set_option maxRecDepth 100000 in
theorem lm_459 : Cond.selects RJ0 yJ0_length_8abf5 yJ0_length_8abf5 ∈ lw_tbl := List.mem_of_getElem? (i := 459) rfl
set_option maxRecDepth 100000 in
theorem lm_505 : Cond.methodLink RX5 54 yX5_isSign ∈ lw_tbl := List.mem_of_getElem? (i := 505) rfl
set_option maxRecDepth 100000 in
theorem lm_503 : Cond.fieldLink RJ2 63 "java/lang/StringUTF16" "LO_BYTE_SHIFT" "I" ∈ lw_tbl := List.mem_of_getElem? (i := 503) rfl
set_option maxRecDepth 100000 in
theorem lm_501 : Cond.fieldLink RJ2 59 "java/lang/StringUTF16" "HI_BYTE_SHIFT" "I" ∈ lw_tbl := List.mem_of_getElem? (i := 501) rfl
set_option maxRecDepth 100000 in
theorem lm_499 : Cond.fieldLink RJ2 44 "java/lang/StringUTF16" "$assertionsDisabled" "Z" ∈ lw_tbl := List.mem_of_getElem? (i := 499) rfl
set_option maxRecDepth 100000 in
theorem lm_498 : Cond.code yJ2_getChar_3b067 cJ2_getChar_3b067 2 (some .char) ∈ lw_tbl := List.mem_of_getElem? (i := 498) rfl
set_option maxRecDepth 100000 in
theorem lm_497 : Cond.static yJ2_getChar_3b067 ∈ lw_tbl := List.mem_of_getElem? (i := 497) rfl
set_option maxRecDepth 100000 in
theorem lm_496 : Cond.methodLink RJ2 71 yJ2_getChar_3b067 ∈ lw_tbl := List.mem_of_getElem? (i := 496) rfl
set_option maxRecDepth 100000 in
theorem lm_495 : Cond.methodLink RJ2 414 yJ0_checkIndex_df160 ∈ lw_tbl := List.mem_of_getElem? (i := 495) rfl
set_option maxRecDepth 100000 in
theorem lm_494 : Cond.code yJ2_length_9d52b cJ2_length_9d52b 1 (some .int) ∈ lw_tbl := List.mem_of_getElem? (i := 494) rfl
set_option maxRecDepth 100000 in
theorem lm_493 : Cond.static yJ2_length_9d52b ∈ lw_tbl := List.mem_of_getElem? (i := 493) rfl
set_option maxRecDepth 100000 in
theorem lm_492 : Cond.methodLink RJ2 48 yJ2_length_9d52b ∈ lw_tbl := List.mem_of_getElem? (i := 492) rfl
set_option maxRecDepth 100000 in
theorem lm_491 : Cond.code yJ2_checkIndex_2214a cJ2_checkIndex_2214a 2 none ∈ lw_tbl := List.mem_of_getElem? (i := 491) rfl
set_option maxRecDepth 100000 in
theorem lm_490 : Cond.static yJ2_checkIndex_2214a ∈ lw_tbl := List.mem_of_getElem? (i := 490) rfl
set_option maxRecDepth 100000 in
theorem lm_489 : Cond.methodLink RJ2 67 yJ2_checkIndex_2214a ∈ lw_tbl := List.mem_of_getElem? (i := 489) rfl
set_option maxRecDepth 100000 in
theorem lm_488 : Cond.code yJ2_charAt_3b067 cJ2_charAt_3b067 2 (some .char) ∈ lw_tbl := List.mem_of_getElem? (i := 488) rfl
set_option maxRecDepth 100000 in
theorem lm_82 : Cond.initialized RJ2 ∈ lw_tbl := List.mem_of_getElem? (i := 82) rfl
set_option maxRecDepth 100000 in
theorem lm_487 : Cond.static yJ2_charAt_3b067 ∈ lw_tbl := List.mem_of_getElem? (i := 487) rfl
set_option maxRecDepth 100000 in
theorem lm_486 : Cond.methodLink RJ0 498 yJ2_charAt_3b067 ∈ lw_tbl := List.mem_of_getElem? (i := 486) rfl
set_option maxRecDepth 100000 in
theorem lm_485 : Cond.code yJ3_checkIndex_8e157 cJ3_checkIndex_8e157 3 (some .int) ∈ lw_tbl := List.mem_of_getElem? (i := 485) rfl
set_option maxRecDepth 100000 in
theorem lm_81 : Cond.initialized RJ3 ∈ lw_tbl := List.mem_of_getElem? (i := 81) rfl
set_option maxRecDepth 100000 in
theorem lm_484 : Cond.static yJ3_checkIndex_8e157 ∈ lw_tbl := List.mem_of_getElem? (i := 484) rfl
set_option maxRecDepth 100000 in
theorem lm_483 : Cond.methodLink RJ0 1059 yJ3_checkIndex_8e157 ∈ lw_tbl := List.mem_of_getElem? (i := 483) rfl
set_option maxRecDepth 100000 in
theorem lm_481 : Cond.fieldLink RJ0 1053 "jdk/internal/util/Preconditions" "SIOOBE_FORMATTER" "Ljava/util/function/BiFunction;" ∈ lw_tbl := List.mem_of_getElem? (i := 481) rfl
set_option maxRecDepth 100000 in
theorem lm_480 : Cond.code yJ0_checkIndex_df160 cJ0_checkIndex_df160 2 none ∈ lw_tbl := List.mem_of_getElem? (i := 480) rfl
set_option maxRecDepth 100000 in
theorem lm_525 : Cond.instanceMethod yX0_openShape ∈ lw_tbl := List.mem_of_getElem? (i := 525) rfl
set_option maxRecDepth 100000 in
theorem lm_524 : Cond.methodLink RX4 114 yX0_openShape ∈ lw_tbl := List.mem_of_getElem? (i := 524) rfl
set_option maxRecDepth 100000 in
theorem lm_226 : Cond.fieldLink RX0 9 "ShapeJudge$Book" "word" "[I" ∈ lw_tbl := List.mem_of_getElem? (i := 226) rfl
set_option maxRecDepth 100000 in
theorem lm_523 : Cond.code yX0_shapeOf cX0_shapeOf 3 (some .int) ∈ lw_tbl := List.mem_of_getElem? (i := 523) rfl
set_option maxRecDepth 100000 in
theorem lm_522 : Cond.selects RX0 yX0_shapeOf yX0_shapeOf ∈ lw_tbl := List.mem_of_getElem? (i := 522) rfl
set_option maxRecDepth 100000 in
theorem lm_521 : Cond.instanceMethod yX0_shapeOf ∈ lw_tbl := List.mem_of_getElem? (i := 521) rfl
set_option maxRecDepth 100000 in
theorem lm_520 : Cond.methodLink RX4 110 yX0_shapeOf ∈ lw_tbl := List.mem_of_getElem? (i := 520) rfl
set_option maxRecDepth 100000 in
theorem lm_169 : Cond.fieldLink RX4 107 "ShapeJudge$Tokens" "number" "I" ∈ lw_tbl := List.mem_of_getElem? (i := 169) rfl
set_option maxRecDepth 100000 in
theorem lm_222 : Cond.fieldLink RX4 104 "ShapeJudge$Book" "shapeCount" "I" ∈ lw_tbl := List.mem_of_getElem? (i := 222) rfl
set_option maxRecDepth 100000 in
theorem lm_519 : Cond.code yX4_takeShapeWord cX4_takeShapeWord 1 none ∈ lw_tbl := List.mem_of_getElem? (i := 519) rfl
set_option maxRecDepth 100000 in
theorem lm_6 : Cond.selects RX4 yX4_takeShapeWord yX4_takeShapeWord ∈ lw_tbl := List.mem_of_getElem? (i := 6) rfl
set_option maxRecDepth 100000 in
theorem lm_518 : Cond.instanceMethod yX4_takeShapeWord ∈ lw_tbl := List.mem_of_getElem? (i := 518) rfl
set_option maxRecDepth 100000 in
theorem lm_516 : Cond.methodLink RX4 70 yX4_takeShapeWord ∈ lw_tbl := List.mem_of_getElem? (i := 516) rfl
set_option maxRecDepth 100000 in
theorem lm_515 : Cond.code yX4_takeToken cX4_takeToken 1 none ∈ lw_tbl := List.mem_of_getElem? (i := 515) rfl
set_option maxRecDepth 100000 in
theorem lm_5 : Cond.selects RX4 yX4_takeToken yX4_takeToken ∈ lw_tbl := List.mem_of_getElem? (i := 5) rfl
set_option maxRecDepth 100000 in
theorem lm_514 : Cond.instanceMethod yX4_takeToken ∈ lw_tbl := List.mem_of_getElem? (i := 514) rfl
set_option maxRecDepth 100000 in
theorem lm_512 : Cond.methodLink RX4 61 yX4_takeToken ∈ lw_tbl := List.mem_of_getElem? (i := 512) rfl
set_option maxRecDepth 100000 in
theorem lm_166 : Cond.fieldLink RX4 67 "ShapeJudge$Tokens" "place" "I" ∈ lw_tbl := List.mem_of_getElem? (i := 166) rfl
set_option maxRecDepth 100000 in
theorem lm_511 : Cond.code yX4_fail cX4_fail 2 none ∈ lw_tbl := List.mem_of_getElem? (i := 511) rfl
set_option maxRecDepth 100000 in
theorem lm_4 : Cond.selects RX4 yX4_fail yX4_fail ∈ lw_tbl := List.mem_of_getElem? (i := 4) rfl
set_option maxRecDepth 100000 in
theorem lm_510 : Cond.instanceMethod yX4_fail ∈ lw_tbl := List.mem_of_getElem? (i := 510) rfl
set_option maxRecDepth 100000 in
theorem lm_508 : Cond.methodLink RX4 57 yX4_fail ∈ lw_tbl := List.mem_of_getElem? (i := 508) rfl
set_option maxRecDepth 100000 in
theorem lm_507 : Cond.code yX5_isSign cX5_isSign 1 (some .boolean) ∈ lw_tbl := List.mem_of_getElem? (i := 507) rfl
set_option maxRecDepth 100000 in
theorem lm_506 : Cond.static yX5_isSign ∈ lw_tbl := List.mem_of_getElem? (i := 506) rfl
set_option maxRecDepth 100000 in
theorem lm_544 : Cond.methodLink RX4 126 yX0_hasRoomForPart ∈ lw_tbl := List.mem_of_getElem? (i := 544) rfl
set_option maxRecDepth 100000 in
theorem lm_543 : Cond.code yX4_takeOpening cX4_takeOpening 1 none ∈ lw_tbl := List.mem_of_getElem? (i := 543) rfl
set_option maxRecDepth 100000 in
theorem lm_10 : Cond.selects RX4 yX4_takeOpening yX4_takeOpening ∈ lw_tbl := List.mem_of_getElem? (i := 10) rfl
set_option maxRecDepth 100000 in
theorem lm_542 : Cond.instanceMethod yX4_takeOpening ∈ lw_tbl := List.mem_of_getElem? (i := 542) rfl
set_option maxRecDepth 100000 in
theorem lm_540 : Cond.methodLink RX4 123 yX4_takeOpening ∈ lw_tbl := List.mem_of_getElem? (i := 540) rfl
set_option maxRecDepth 100000 in
theorem lm_539 : Cond.code yX4_takeOne cX4_takeOne 1 none ∈ lw_tbl := List.mem_of_getElem? (i := 539) rfl
set_option maxRecDepth 100000 in
theorem lm_9 : Cond.selects RX4 yX4_takeOne yX4_takeOne ∈ lw_tbl := List.mem_of_getElem? (i := 9) rfl
set_option maxRecDepth 100000 in
theorem lm_538 : Cond.instanceMethod yX4_takeOne ∈ lw_tbl := List.mem_of_getElem? (i := 538) rfl
set_option maxRecDepth 100000 in
theorem lm_536 : Cond.methodLink RX4 80 yX4_takeOne ∈ lw_tbl := List.mem_of_getElem? (i := 536) rfl
set_option maxRecDepth 100000 in
theorem lm_535 : Cond.code yX4_takeBody cX4_takeBody 1 none ∈ lw_tbl := List.mem_of_getElem? (i := 535) rfl
set_option maxRecDepth 100000 in
theorem lm_8 : Cond.selects RX4 yX4_takeBody yX4_takeBody ∈ lw_tbl := List.mem_of_getElem? (i := 8) rfl
set_option maxRecDepth 100000 in
theorem lm_534 : Cond.instanceMethod yX4_takeBody ∈ lw_tbl := List.mem_of_getElem? (i := 534) rfl
set_option maxRecDepth 100000 in
theorem lm_532 : Cond.methodLink RX4 77 yX4_takeBody ∈ lw_tbl := List.mem_of_getElem? (i := 532) rfl
set_option maxRecDepth 100000 in
theorem lm_531 : Cond.code yX4_takeSign cX4_takeSign 3 none ∈ lw_tbl := List.mem_of_getElem? (i := 531) rfl
set_option maxRecDepth 100000 in
theorem lm_7 : Cond.selects RX4 yX4_takeSign yX4_takeSign ∈ lw_tbl := List.mem_of_getElem? (i := 7) rfl
set_option maxRecDepth 100000 in
theorem lm_530 : Cond.instanceMethod yX4_takeSign ∈ lw_tbl := List.mem_of_getElem? (i := 530) rfl
set_option maxRecDepth 100000 in
theorem lm_528 : Cond.methodLink RX4 73 yX4_takeSign ∈ lw_tbl := List.mem_of_getElem? (i := 528) rfl
set_option maxRecDepth 100000 in
theorem lm_238 : Cond.fieldLink RX0 28 "ShapeJudge$Book" "level" "[I" ∈ lw_tbl := List.mem_of_getElem? (i := 238) rfl
set_option maxRecDepth 100000 in
theorem lm_236 : Cond.fieldLink RX0 25 "ShapeJudge$Book" "reach" "[I" ∈ lw_tbl := List.mem_of_getElem? (i := 236) rfl
set_option maxRecDepth 100000 in
theorem lm_234 : Cond.fieldLink RX0 22 "ShapeJudge$Book" "names" "[I" ∈ lw_tbl := List.mem_of_getElem? (i := 234) rfl
set_option maxRecDepth 100000 in
theorem lm_231 : Cond.fieldLink RX0 18 "ShapeJudge$Book" "closed" "[Z" ∈ lw_tbl := List.mem_of_getElem? (i := 231) rfl
set_option maxRecDepth 100000 in
theorem lm_228 : Cond.fieldLink RX0 15 "ShapeJudge$Book" "partCount" "[I" ∈ lw_tbl := List.mem_of_getElem? (i := 228) rfl
set_option maxRecDepth 100000 in
theorem lm_527 : Cond.code yX0_openShape cX0_openShape 3 none ∈ lw_tbl := List.mem_of_getElem? (i := 527) rfl
set_option maxRecDepth 100000 in
theorem lm_526 : Cond.selects RX0 yX0_openShape yX0_openShape ∈ lw_tbl := List.mem_of_getElem? (i := 526) rfl
set_option maxRecDepth 100000 in
theorem lm_566 : Cond.instanceMethod yX0_closeShape ∈ lw_tbl := List.mem_of_getElem? (i := 566) rfl
set_option maxRecDepth 100000 in
theorem lm_565 : Cond.methodLink RX4 120 yX0_closeShape ∈ lw_tbl := List.mem_of_getElem? (i := 565) rfl
set_option maxRecDepth 100000 in
theorem lm_564 : Cond.code yX4_takeShapeEnd cX4_takeShapeEnd 1 none ∈ lw_tbl := List.mem_of_getElem? (i := 564) rfl
set_option maxRecDepth 100000 in
theorem lm_11 : Cond.selects RX4 yX4_takeShapeEnd yX4_takeShapeEnd ∈ lw_tbl := List.mem_of_getElem? (i := 11) rfl
set_option maxRecDepth 100000 in
theorem lm_563 : Cond.instanceMethod yX4_takeShapeEnd ∈ lw_tbl := List.mem_of_getElem? (i := 563) rfl
set_option maxRecDepth 100000 in
theorem lm_561 : Cond.methodLink RX4 117 yX4_takeShapeEnd ∈ lw_tbl := List.mem_of_getElem? (i := 561) rfl
set_option maxRecDepth 100000 in
theorem lm_242 : Cond.fieldLink RX0 34 "ShapeJudge$Book" "steps" "[I" ∈ lw_tbl := List.mem_of_getElem? (i := 242) rfl
set_option maxRecDepth 100000 in
theorem lm_560 : Cond.code yX0_addStep cX0_addStep 3 none ∈ lw_tbl := List.mem_of_getElem? (i := 560) rfl
set_option maxRecDepth 100000 in
theorem lm_559 : Cond.selects RX0 yX0_addStep yX0_addStep ∈ lw_tbl := List.mem_of_getElem? (i := 559) rfl
set_option maxRecDepth 100000 in
theorem lm_558 : Cond.instanceMethod yX0_addStep ∈ lw_tbl := List.mem_of_getElem? (i := 558) rfl
set_option maxRecDepth 100000 in
theorem lm_557 : Cond.methodLink RX0 70 yX0_addStep ∈ lw_tbl := List.mem_of_getElem? (i := 557) rfl
set_option maxRecDepth 100000 in
theorem lm_556 : Cond.methodLink RX0 66 yX0_hasRoomForPart ∈ lw_tbl := List.mem_of_getElem? (i := 556) rfl
set_option maxRecDepth 100000 in
theorem lm_244 : Cond.fieldLink RX0 37 "ShapeJudge$Book" "partName" "[I" ∈ lw_tbl := List.mem_of_getElem? (i := 244) rfl
set_option maxRecDepth 100000 in
theorem lm_555 : Cond.code yX0_addPart cX0_addPart 4 none ∈ lw_tbl := List.mem_of_getElem? (i := 555) rfl
set_option maxRecDepth 100000 in
theorem lm_554 : Cond.selects RX0 yX0_addPart yX0_addPart ∈ lw_tbl := List.mem_of_getElem? (i := 554) rfl
set_option maxRecDepth 100000 in
theorem lm_553 : Cond.instanceMethod yX0_addPart ∈ lw_tbl := List.mem_of_getElem? (i := 553) rfl
set_option maxRecDepth 100000 in
theorem lm_552 : Cond.methodLink RX4 130 yX0_addPart ∈ lw_tbl := List.mem_of_getElem? (i := 552) rfl
set_option maxRecDepth 100000 in
theorem lm_551 : Cond.code yX0_hasShape cX0_hasShape 2 (some .boolean) ∈ lw_tbl := List.mem_of_getElem? (i := 551) rfl
set_option maxRecDepth 100000 in
theorem lm_550 : Cond.selects RX0 yX0_hasShape yX0_hasShape ∈ lw_tbl := List.mem_of_getElem? (i := 550) rfl
set_option maxRecDepth 100000 in
theorem lm_549 : Cond.instanceMethod yX0_hasShape ∈ lw_tbl := List.mem_of_getElem? (i := 549) rfl
set_option maxRecDepth 100000 in
theorem lm_548 : Cond.methodLink RX0 56 yX0_hasShape ∈ lw_tbl := List.mem_of_getElem? (i := 548) rfl
set_option maxRecDepth 100000 in
theorem lm_547 : Cond.code yX0_hasRoomForPart cX0_hasRoomForPart 1 (some .boolean) ∈ lw_tbl := List.mem_of_getElem? (i := 547) rfl
set_option maxRecDepth 100000 in
theorem lm_546 : Cond.selects RX0 yX0_hasRoomForPart yX0_hasRoomForPart ∈ lw_tbl := List.mem_of_getElem? (i := 546) rfl
set_option maxRecDepth 100000 in
theorem lm_545 : Cond.instanceMethod yX0_hasRoomForPart ∈ lw_tbl := List.mem_of_getElem? (i := 545) rfl
set_option maxRecDepth 100000 in
theorem lm_584 : Cond.code yX4_takeLastNumber cX4_takeLastNumber 1 none ∈ lw_tbl := List.mem_of_getElem? (i := 584) rfl
set_option maxRecDepth 100000 in
theorem lm_14 : Cond.selects RX4 yX4_takeLastNumber yX4_takeLastNumber ∈ lw_tbl := List.mem_of_getElem? (i := 14) rfl
set_option maxRecDepth 100000 in
theorem lm_583 : Cond.instanceMethod yX4_takeLastNumber ∈ lw_tbl := List.mem_of_getElem? (i := 583) rfl
set_option maxRecDepth 100000 in
theorem lm_581 : Cond.methodLink RX4 89 yX4_takeLastNumber ∈ lw_tbl := List.mem_of_getElem? (i := 581) rfl
set_option maxRecDepth 100000 in
theorem lm_580 : Cond.code yX4_takeReference cX4_takeReference 1 none ∈ lw_tbl := List.mem_of_getElem? (i := 580) rfl
set_option maxRecDepth 100000 in
theorem lm_13 : Cond.selects RX4 yX4_takeReference yX4_takeReference ∈ lw_tbl := List.mem_of_getElem? (i := 13) rfl
set_option maxRecDepth 100000 in
theorem lm_579 : Cond.instanceMethod yX4_takeReference ∈ lw_tbl := List.mem_of_getElem? (i := 579) rfl
set_option maxRecDepth 100000 in
theorem lm_577 : Cond.methodLink RX4 86 yX4_takeReference ∈ lw_tbl := List.mem_of_getElem? (i := 577) rfl
set_option maxRecDepth 100000 in
theorem lm_256 : Cond.fieldLink RX0 49 "ShapeJudge$Book" "partPlace" "[I" ∈ lw_tbl := List.mem_of_getElem? (i := 256) rfl
set_option maxRecDepth 100000 in
theorem lm_253 : Cond.fieldLink RX0 46 "ShapeJudge$Book" "partSecond" "[I" ∈ lw_tbl := List.mem_of_getElem? (i := 253) rfl
set_option maxRecDepth 100000 in
theorem lm_250 : Cond.fieldLink RX0 43 "ShapeJudge$Book" "partFirst" "[I" ∈ lw_tbl := List.mem_of_getElem? (i := 250) rfl
set_option maxRecDepth 100000 in
theorem lm_247 : Cond.fieldLink RX0 40 "ShapeJudge$Book" "partTest" "[I" ∈ lw_tbl := List.mem_of_getElem? (i := 247) rfl
set_option maxRecDepth 100000 in
theorem lm_576 : Cond.code yX0_tellPart cX0_tellPart 5 none ∈ lw_tbl := List.mem_of_getElem? (i := 576) rfl
set_option maxRecDepth 100000 in
theorem lm_575 : Cond.selects RX0 yX0_tellPart yX0_tellPart ∈ lw_tbl := List.mem_of_getElem? (i := 575) rfl
set_option maxRecDepth 100000 in
theorem lm_574 : Cond.instanceMethod yX0_tellPart ∈ lw_tbl := List.mem_of_getElem? (i := 574) rfl
set_option maxRecDepth 100000 in
theorem lm_573 : Cond.methodLink RX4 133 yX0_tellPart ∈ lw_tbl := List.mem_of_getElem? (i := 573) rfl
set_option maxRecDepth 100000 in
theorem lm_188 : Cond.fieldLink RX4 140 "ShapeJudge$TextReader" "firstNumber" "I" ∈ lw_tbl := List.mem_of_getElem? (i := 188) rfl
set_option maxRecDepth 100000 in
theorem lm_187 : Cond.fieldLink RX4 137 "ShapeJudge$TextReader" "test" "I" ∈ lw_tbl := List.mem_of_getElem? (i := 187) rfl
set_option maxRecDepth 100000 in
theorem lm_572 : Cond.code yX4_takeTest cX4_takeTest 1 none ∈ lw_tbl := List.mem_of_getElem? (i := 572) rfl
set_option maxRecDepth 100000 in
theorem lm_12 : Cond.selects RX4 yX4_takeTest yX4_takeTest ∈ lw_tbl := List.mem_of_getElem? (i := 12) rfl
set_option maxRecDepth 100000 in
theorem lm_571 : Cond.instanceMethod yX4_takeTest ∈ lw_tbl := List.mem_of_getElem? (i := 571) rfl
set_option maxRecDepth 100000 in
theorem lm_569 : Cond.methodLink RX4 83 yX4_takeTest ∈ lw_tbl := List.mem_of_getElem? (i := 569) rfl
set_option maxRecDepth 100000 in
theorem lm_568 : Cond.code yX0_closeShape cX0_closeShape 1 none ∈ lw_tbl := List.mem_of_getElem? (i := 568) rfl
set_option maxRecDepth 100000 in
theorem lm_567 : Cond.selects RX0 yX0_closeShape yX0_closeShape ∈ lw_tbl := List.mem_of_getElem? (i := 567) rfl
set_option maxRecDepth 100000 in
theorem lm_609 : Cond.instanceMethod yX4_takeLeast ∈ lw_tbl := List.mem_of_getElem? (i := 609) rfl
set_option maxRecDepth 100000 in
theorem lm_607 : Cond.methodLink RX4 95 yX4_takeLeast ∈ lw_tbl := List.mem_of_getElem? (i := 607) rfl
set_option maxRecDepth 100000 in
theorem lm_606 : Cond.code yX4_settleBar cX4_settleBar 1 none ∈ lw_tbl := List.mem_of_getElem? (i := 606) rfl
set_option maxRecDepth 100000 in
theorem lm_19 : Cond.selects RX4 yX4_settleBar yX4_settleBar ∈ lw_tbl := List.mem_of_getElem? (i := 19) rfl
set_option maxRecDepth 100000 in
theorem lm_605 : Cond.instanceMethod yX4_settleBar ∈ lw_tbl := List.mem_of_getElem? (i := 605) rfl
set_option maxRecDepth 100000 in
theorem lm_603 : Cond.methodLink RX4 156 yX4_settleBar ∈ lw_tbl := List.mem_of_getElem? (i := 603) rfl
set_option maxRecDepth 100000 in
theorem lm_602 : Cond.methodLink RX4 150 yX0_addStep ∈ lw_tbl := List.mem_of_getElem? (i := 602) rfl
set_option maxRecDepth 100000 in
theorem lm_601 : Cond.code yX4_settleComma cX4_settleComma 1 none ∈ lw_tbl := List.mem_of_getElem? (i := 601) rfl
set_option maxRecDepth 100000 in
theorem lm_18 : Cond.selects RX4 yX4_settleComma yX4_settleComma ∈ lw_tbl := List.mem_of_getElem? (i := 18) rfl
set_option maxRecDepth 100000 in
theorem lm_600 : Cond.instanceMethod yX4_settleComma ∈ lw_tbl := List.mem_of_getElem? (i := 600) rfl
set_option maxRecDepth 100000 in
theorem lm_598 : Cond.methodLink RX4 153 yX4_settleComma ∈ lw_tbl := List.mem_of_getElem? (i := 598) rfl
set_option maxRecDepth 100000 in
theorem lm_597 : Cond.code yX4_takeBehindItem cX4_takeBehindItem 3 none ∈ lw_tbl := List.mem_of_getElem? (i := 597) rfl
set_option maxRecDepth 100000 in
theorem lm_17 : Cond.selects RX4 yX4_takeBehindItem yX4_takeBehindItem ∈ lw_tbl := List.mem_of_getElem? (i := 17) rfl
set_option maxRecDepth 100000 in
theorem lm_596 : Cond.instanceMethod yX4_takeBehindItem ∈ lw_tbl := List.mem_of_getElem? (i := 596) rfl
set_option maxRecDepth 100000 in
theorem lm_594 : Cond.methodLink RX4 101 yX4_takeBehindItem ∈ lw_tbl := List.mem_of_getElem? (i := 594) rfl
set_option maxRecDepth 100000 in
theorem lm_593 : Cond.code yX4_takeBehindOne cX4_takeBehindOne 1 none ∈ lw_tbl := List.mem_of_getElem? (i := 593) rfl
set_option maxRecDepth 100000 in
theorem lm_16 : Cond.selects RX4 yX4_takeBehindOne yX4_takeBehindOne ∈ lw_tbl := List.mem_of_getElem? (i := 16) rfl
set_option maxRecDepth 100000 in
theorem lm_592 : Cond.instanceMethod yX4_takeBehindOne ∈ lw_tbl := List.mem_of_getElem? (i := 592) rfl
set_option maxRecDepth 100000 in
theorem lm_590 : Cond.methodLink RX4 92 yX4_takeBehindOne ∈ lw_tbl := List.mem_of_getElem? (i := 590) rfl
set_option maxRecDepth 100000 in
theorem lm_589 : Cond.code yX4_isNumberFrom cX4_isNumberFrom 3 (some .boolean) ∈ lw_tbl := List.mem_of_getElem? (i := 589) rfl
set_option maxRecDepth 100000 in
theorem lm_15 : Cond.selects RX4 yX4_isNumberFrom yX4_isNumberFrom ∈ lw_tbl := List.mem_of_getElem? (i := 15) rfl
set_option maxRecDepth 100000 in
theorem lm_588 : Cond.instanceMethod yX4_isNumberFrom ∈ lw_tbl := List.mem_of_getElem? (i := 588) rfl
set_option maxRecDepth 100000 in
theorem lm_586 : Cond.methodLink RX4 146 yX4_isNumberFrom ∈ lw_tbl := List.mem_of_getElem? (i := 586) rfl
set_option maxRecDepth 100000 in
theorem lm_585 : Cond.constant RX4 145 (2147483647) ∈ lw_tbl := List.mem_of_getElem? (i := 585) rfl
set_option maxRecDepth 100000 in
theorem lm_632 : Cond.methodLink RX4 166 yX0_placeOfCircle ∈ lw_tbl := List.mem_of_getElem? (i := 632) rfl
set_option maxRecDepth 100000 in
theorem lm_631 : Cond.code yX0_findReach cX0_findReach 3 none ∈ lw_tbl := List.mem_of_getElem? (i := 631) rfl
set_option maxRecDepth 100000 in
theorem lm_630 : Cond.selects RX0 yX0_findReach yX0_findReach ∈ lw_tbl := List.mem_of_getElem? (i := 630) rfl
set_option maxRecDepth 100000 in
theorem lm_629 : Cond.instanceMethod yX0_findReach ∈ lw_tbl := List.mem_of_getElem? (i := 629) rfl
set_option maxRecDepth 100000 in
theorem lm_628 : Cond.methodLink RX4 163 yX0_findReach ∈ lw_tbl := List.mem_of_getElem? (i := 628) rfl
set_option maxRecDepth 100000 in
theorem lm_627 : Cond.methodLink RX0 77 yX0_shapeOf ∈ lw_tbl := List.mem_of_getElem? (i := 627) rfl
set_option maxRecDepth 100000 in
theorem lm_626 : Cond.code yX0_refers cX0_refers 2 (some .boolean) ∈ lw_tbl := List.mem_of_getElem? (i := 626) rfl
set_option maxRecDepth 100000 in
theorem lm_625 : Cond.selects RX0 yX0_refers yX0_refers ∈ lw_tbl := List.mem_of_getElem? (i := 625) rfl
set_option maxRecDepth 100000 in
theorem lm_624 : Cond.instanceMethod yX0_refers ∈ lw_tbl := List.mem_of_getElem? (i := 624) rfl
set_option maxRecDepth 100000 in
theorem lm_623 : Cond.methodLink RX0 74 yX0_refers ∈ lw_tbl := List.mem_of_getElem? (i := 623) rfl
set_option maxRecDepth 100000 in
theorem lm_622 : Cond.code yX0_linkReferences cX0_linkReferences 5 (some .int) ∈ lw_tbl := List.mem_of_getElem? (i := 622) rfl
set_option maxRecDepth 100000 in
theorem lm_621 : Cond.selects RX0 yX0_linkReferences yX0_linkReferences ∈ lw_tbl := List.mem_of_getElem? (i := 621) rfl
set_option maxRecDepth 100000 in
theorem lm_620 : Cond.instanceMethod yX0_linkReferences ∈ lw_tbl := List.mem_of_getElem? (i := 620) rfl
set_option maxRecDepth 100000 in
theorem lm_619 : Cond.methodLink RX4 159 yX0_linkReferences ∈ lw_tbl := List.mem_of_getElem? (i := 619) rfl
set_option maxRecDepth 100000 in
theorem lm_618 : Cond.code yX4_linkShapes cX4_linkShapes 3 none ∈ lw_tbl := List.mem_of_getElem? (i := 618) rfl
set_option maxRecDepth 100000 in
theorem lm_22 : Cond.selects RX4 yX4_linkShapes yX4_linkShapes ∈ lw_tbl := List.mem_of_getElem? (i := 22) rfl
set_option maxRecDepth 100000 in
theorem lm_617 : Cond.instanceMethod yX4_linkShapes ∈ lw_tbl := List.mem_of_getElem? (i := 617) rfl
set_option maxRecDepth 100000 in
theorem lm_615 : Cond.methodLink RX4 64 yX4_linkShapes ∈ lw_tbl := List.mem_of_getElem? (i := 615) rfl
set_option maxRecDepth 100000 in
theorem lm_614 : Cond.code yX4_takeMost cX4_takeMost 1 none ∈ lw_tbl := List.mem_of_getElem? (i := 614) rfl
set_option maxRecDepth 100000 in
theorem lm_21 : Cond.selects RX4 yX4_takeMost yX4_takeMost ∈ lw_tbl := List.mem_of_getElem? (i := 21) rfl
set_option maxRecDepth 100000 in
theorem lm_613 : Cond.instanceMethod yX4_takeMost ∈ lw_tbl := List.mem_of_getElem? (i := 613) rfl
set_option maxRecDepth 100000 in
theorem lm_611 : Cond.methodLink RX4 98 yX4_takeMost ∈ lw_tbl := List.mem_of_getElem? (i := 611) rfl
set_option maxRecDepth 100000 in
theorem lm_610 : Cond.code yX4_takeLeast cX4_takeLeast 1 none ∈ lw_tbl := List.mem_of_getElem? (i := 610) rfl
set_option maxRecDepth 100000 in
theorem lm_20 : Cond.selects RX4 yX4_takeLeast yX4_takeLeast ∈ lw_tbl := List.mem_of_getElem? (i := 20) rfl
set_option maxRecDepth 100000 in
theorem lm_654 : Cond.code yX2_follow cX2_follow 2 none ∈ lw_tbl := List.mem_of_getElem? (i := 654) rfl
set_option maxRecDepth 100000 in
theorem lm_653 : Cond.selects RX2 yX2_follow yX2_follow ∈ lw_tbl := List.mem_of_getElem? (i := 653) rfl
set_option maxRecDepth 100000 in
theorem lm_652 : Cond.instanceMethod yX2_follow ∈ lw_tbl := List.mem_of_getElem? (i := 652) rfl
set_option maxRecDepth 100000 in
theorem lm_651 : Cond.methodLink RX6 113 yX2_follow ∈ lw_tbl := List.mem_of_getElem? (i := 651) rfl
set_option maxRecDepth 100000 in
theorem lm_650 : Cond.code Lib.Math.max.name Lib.Math.max.code 2 (some .int) ∈ lw_tbl := List.mem_of_getElem? (i := 650) rfl
set_option maxRecDepth 100000 in
theorem lm_83 : Cond.initialized "java/lang/Math" ∈ lw_tbl := List.mem_of_getElem? (i := 83) rfl
set_option maxRecDepth 100000 in
theorem lm_649 : Cond.static Lib.Math.max.name ∈ lw_tbl := List.mem_of_getElem? (i := 649) rfl
set_option maxRecDepth 100000 in
theorem lm_648 : Cond.methodLink RX0 89 Lib.Math.max.name ∈ lw_tbl := List.mem_of_getElem? (i := 648) rfl
set_option maxRecDepth 100000 in
theorem lm_647 : Cond.code yX0_raiseLevel cX0_raiseLevel 5 none ∈ lw_tbl := List.mem_of_getElem? (i := 647) rfl
set_option maxRecDepth 100000 in
theorem lm_24 : Cond.selects RX0 yX0_raiseLevel yX0_raiseLevel ∈ lw_tbl := List.mem_of_getElem? (i := 24) rfl
set_option maxRecDepth 100000 in
theorem lm_646 : Cond.instanceMethod yX0_raiseLevel ∈ lw_tbl := List.mem_of_getElem? (i := 646) rfl
set_option maxRecDepth 100000 in
theorem lm_644 : Cond.methodLink RX0 85 yX0_raiseLevel ∈ lw_tbl := List.mem_of_getElem? (i := 644) rfl
set_option maxRecDepth 100000 in
theorem lm_643 : Cond.code yX0_findLevels cX0_findLevels 3 none ∈ lw_tbl := List.mem_of_getElem? (i := 643) rfl
set_option maxRecDepth 100000 in
theorem lm_642 : Cond.selects RX0 yX0_findLevels yX0_findLevels ∈ lw_tbl := List.mem_of_getElem? (i := 642) rfl
set_option maxRecDepth 100000 in
theorem lm_641 : Cond.instanceMethod yX0_findLevels ∈ lw_tbl := List.mem_of_getElem? (i := 641) rfl
set_option maxRecDepth 100000 in
theorem lm_640 : Cond.methodLink RX4 169 yX0_findLevels ∈ lw_tbl := List.mem_of_getElem? (i := 640) rfl
set_option maxRecDepth 100000 in
theorem lm_639 : Cond.code yX0_dependsOn cX0_dependsOn 3 (some .boolean) ∈ lw_tbl := List.mem_of_getElem? (i := 639) rfl
set_option maxRecDepth 100000 in
theorem lm_23 : Cond.selects RX0 yX0_dependsOn yX0_dependsOn ∈ lw_tbl := List.mem_of_getElem? (i := 23) rfl
set_option maxRecDepth 100000 in
theorem lm_638 : Cond.instanceMethod yX0_dependsOn ∈ lw_tbl := List.mem_of_getElem? (i := 638) rfl
set_option maxRecDepth 100000 in
theorem lm_636 : Cond.methodLink RX0 81 yX0_dependsOn ∈ lw_tbl := List.mem_of_getElem? (i := 636) rfl
set_option maxRecDepth 100000 in
theorem lm_635 : Cond.code yX0_placeOfCircle cX0_placeOfCircle 4 (some .int) ∈ lw_tbl := List.mem_of_getElem? (i := 635) rfl
set_option maxRecDepth 100000 in
theorem lm_634 : Cond.selects RX0 yX0_placeOfCircle yX0_placeOfCircle ∈ lw_tbl := List.mem_of_getElem? (i := 634) rfl
set_option maxRecDepth 100000 in
theorem lm_633 : Cond.instanceMethod yX0_placeOfCircle ∈ lw_tbl := List.mem_of_getElem? (i := 633) rfl
set_option maxRecDepth 100000 in
theorem lm_655 : Cond.methodLink RX2 32 yX2_forget ∈ lw_tbl := List.mem_of_getElem? (i := 655) rfl
set_option maxRecDepth 100000 in
theorem lm_297 : Cond.fieldLink RX2 28 "ShapeJudge$Judge" "book" "LShapeJudge$Book;" ∈ lw_tbl := List.mem_of_getElem? (i := 297) rfl
set_option maxRecDepth 100000 in
theorem lm_1032 : Cond.selects RX7 yX7_shapes yX7_shapes ∈ lw_tbl := List.mem_of_getElem? (i := 1032) rfl
set_option maxRecDepth 100000 in
theorem lm_1031 : Cond.instanceMethod yX7_shapes ∈ lw_tbl := List.mem_of_getElem? (i := 1031) rfl
set_option maxRecDepth 100000 in
theorem lm_1030 : Cond.methodLink RL 46 yX7_shapes ∈ lw_tbl := List.mem_of_getElem? (i := 1030) rfl
set_option maxRecDepth 100000 in
theorem lm_1033 : Cond.code yX7_shapes cX7_shapes 3 (some .int) ∈ lw_tbl := List.mem_of_getElem? (i := 1033) rfl
set_option maxRecDepth 100000 in
theorem lm_826 : Cond.fieldLink RX7 50 "ShapeJudgeModel" "kind" "[I" ∈ lw_tbl := List.mem_of_getElem? (i := 826) rfl
set_option maxRecDepth 100000 in
theorem lm_838 : Cond.fieldLink RX7 83 "ShapeJudgeModel" "dSecond" "[I" ∈ lw_tbl := List.mem_of_getElem? (i := 838) rfl
set_option maxRecDepth 100000 in
theorem lm_824 : Cond.fieldLink RX7 44 "ShapeJudgeModel" "pSecond" "[I" ∈ lw_tbl := List.mem_of_getElem? (i := 824) rfl
set_option maxRecDepth 100000 in
theorem lm_837 : Cond.fieldLink RX7 80 "ShapeJudgeModel" "dFirst" "[I" ∈ lw_tbl := List.mem_of_getElem? (i := 837) rfl
set_option maxRecDepth 100000 in
theorem lm_823 : Cond.fieldLink RX7 41 "ShapeJudgeModel" "pFirst" "[I" ∈ lw_tbl := List.mem_of_getElem? (i := 823) rfl
set_option maxRecDepth 100000 in
theorem lm_836 : Cond.fieldLink RX7 77 "ShapeJudgeModel" "dTest" "[I" ∈ lw_tbl := List.mem_of_getElem? (i := 836) rfl
set_option maxRecDepth 100000 in
theorem lm_822 : Cond.fieldLink RX7 38 "ShapeJudgeModel" "pTest" "[I" ∈ lw_tbl := List.mem_of_getElem? (i := 822) rfl
set_option maxRecDepth 100000 in
theorem lm_835 : Cond.fieldLink RX7 74 "ShapeJudgeModel" "dName" "[I" ∈ lw_tbl := List.mem_of_getElem? (i := 835) rfl
set_option maxRecDepth 100000 in
theorem lm_821 : Cond.fieldLink RX7 35 "ShapeJudgeModel" "pName" "[I" ∈ lw_tbl := List.mem_of_getElem? (i := 821) rfl
set_option maxRecDepth 100000 in
theorem lm_840 : Cond.fieldLink RX7 89 "ShapeJudgeModel" "dSize" "[I" ∈ lw_tbl := List.mem_of_getElem? (i := 840) rfl
set_option maxRecDepth 100000 in
theorem lm_825 : Cond.fieldLink RX7 47 "ShapeJudgeModel" "size" "[I" ∈ lw_tbl := List.mem_of_getElem? (i := 825) rfl
set_option maxRecDepth 100000 in
theorem lm_834 : Cond.fieldLink RX7 71 "ShapeJudgeModel" "dParts" "[I" ∈ lw_tbl := List.mem_of_getElem? (i := 834) rfl
set_option maxRecDepth 100000 in
theorem lm_820 : Cond.fieldLink RX7 32 "ShapeJudgeModel" "parts" "[I" ∈ lw_tbl := List.mem_of_getElem? (i := 820) rfl
set_option maxRecDepth 100000 in
theorem lm_833 : Cond.fieldLink RX7 68 "ShapeJudgeModel" "dClosed" "[Z" ∈ lw_tbl := List.mem_of_getElem? (i := 833) rfl
set_option maxRecDepth 100000 in
theorem lm_819 : Cond.fieldLink RX7 29 "ShapeJudgeModel" "closed" "[Z" ∈ lw_tbl := List.mem_of_getElem? (i := 819) rfl
set_option maxRecDepth 100000 in
theorem lm_832 : Cond.fieldLink RX7 65 "ShapeJudgeModel" "dWords" "[I" ∈ lw_tbl := List.mem_of_getElem? (i := 832) rfl
set_option maxRecDepth 100000 in
theorem lm_818 : Cond.fieldLink RX7 26 "ShapeJudgeModel" "words" "[I" ∈ lw_tbl := List.mem_of_getElem? (i := 818) rfl
set_option maxRecDepth 100000 in
theorem lm_817 : Cond.fieldLink RX7 258 "ShapeJudgeModel" "shapes" "I" ∈ lw_tbl := List.mem_of_getElem? (i := 817) rfl
set_option maxRecDepth 100000 in
theorem lm_853 : Cond.fieldLink RX7 180 "ShapeJudgeModel" "wrongAt" "I" ∈ lw_tbl := List.mem_of_getElem? (i := 853) rfl
set_option maxRecDepth 100000 in
theorem lm_850 : Cond.fieldLink RX7 193 "ShapeJudgeModel" "sort" "I" ∈ lw_tbl := List.mem_of_getElem? (i := 850) rfl
set_option maxRecDepth 100000 in
theorem lm_831 : Cond.fieldLink RX7 234 "ShapeJudgeModel" "dShapes" "I" ∈ lw_tbl := List.mem_of_getElem? (i := 831) rfl
set_option maxRecDepth 100000 in
theorem lm_848 : Cond.fieldLink RX7 183 "ShapeJudgeModel" "at" "I" ∈ lw_tbl := List.mem_of_getElem? (i := 848) rfl
set_option maxRecDepth 100000 in
theorem lm_852 : Cond.fieldLink RX7 177 "ShapeJudgeModel" "fault" "I" ∈ lw_tbl := List.mem_of_getElem? (i := 852) rfl
set_option maxRecDepth 100000 in
theorem lm_1038 : Cond.methodLink RX7 189 yX7_look ∈ lw_tbl := List.mem_of_getElem? (i := 1038) rfl
set_option maxRecDepth 100000 in
theorem lm_1051 : Cond.constantLong RX7 213 (122) ∈ lw_tbl := List.mem_of_getElem? (i := 1051) rfl
set_option maxRecDepth 100000 in
theorem lm_1050 : Cond.constantLong RX7 211 (97) ∈ lw_tbl := List.mem_of_getElem? (i := 1050) rfl
set_option maxRecDepth 100000 in
theorem lm_1045 : Cond.constantLong RX7 205 (57) ∈ lw_tbl := List.mem_of_getElem? (i := 1045) rfl
set_option maxRecDepth 100000 in
theorem lm_1044 : Cond.constantLong RX7 203 (48) ∈ lw_tbl := List.mem_of_getElem? (i := 1044) rfl
set_option maxRecDepth 100000 in
theorem lm_851 : Cond.fieldLink RX7 200 "ShapeJudgeModel" "value" "I" ∈ lw_tbl := List.mem_of_getElem? (i := 851) rfl
set_option maxRecDepth 100000 in
theorem lm_1043 : Cond.constantLong RX7 198 (90) ∈ lw_tbl := List.mem_of_getElem? (i := 1043) rfl
set_option maxRecDepth 100000 in
theorem lm_1042 : Cond.constantLong RX7 196 (65) ∈ lw_tbl := List.mem_of_getElem? (i := 1042) rfl
set_option maxRecDepth 100000 in
theorem lm_849 : Cond.fieldLink RX7 186 "ShapeJudgeModel" "from" "I" ∈ lw_tbl := List.mem_of_getElem? (i := 849) rfl
set_option maxRecDepth 100000 in
theorem lm_1037 : Cond.code yX7_next cX7_next 3 none ∈ lw_tbl := List.mem_of_getElem? (i := 1037) rfl
set_option maxRecDepth 100000 in
theorem lm_41 : Cond.selects RX7 yX7_next yX7_next ∈ lw_tbl := List.mem_of_getElem? (i := 41) rfl
set_option maxRecDepth 100000 in
theorem lm_1036 : Cond.instanceMethod yX7_next ∈ lw_tbl := List.mem_of_getElem? (i := 1036) rfl
set_option maxRecDepth 100000 in
theorem lm_1034 : Cond.methodLink RX7 225 yX7_next ∈ lw_tbl := List.mem_of_getElem? (i := 1034) rfl
set_option maxRecDepth 100000 in
theorem lm_845 : Cond.fieldLink RX7 104 "ShapeJudgeModel" "dPartOf" "[I" ∈ lw_tbl := List.mem_of_getElem? (i := 845) rfl
set_option maxRecDepth 100000 in
theorem lm_830 : Cond.fieldLink RX7 62 "ShapeJudgeModel" "partOf" "[I" ∈ lw_tbl := List.mem_of_getElem? (i := 830) rfl
set_option maxRecDepth 100000 in
theorem lm_844 : Cond.fieldLink RX7 101 "ShapeJudgeModel" "dMost" "[I" ∈ lw_tbl := List.mem_of_getElem? (i := 844) rfl
set_option maxRecDepth 100000 in
theorem lm_829 : Cond.fieldLink RX7 59 "ShapeJudgeModel" "most" "[I" ∈ lw_tbl := List.mem_of_getElem? (i := 829) rfl
set_option maxRecDepth 100000 in
theorem lm_843 : Cond.fieldLink RX7 98 "ShapeJudgeModel" "dLeast" "[I" ∈ lw_tbl := List.mem_of_getElem? (i := 843) rfl
set_option maxRecDepth 100000 in
theorem lm_828 : Cond.fieldLink RX7 56 "ShapeJudgeModel" "least" "[I" ∈ lw_tbl := List.mem_of_getElem? (i := 828) rfl
set_option maxRecDepth 100000 in
theorem lm_842 : Cond.fieldLink RX7 95 "ShapeJudgeModel" "dAround" "[I" ∈ lw_tbl := List.mem_of_getElem? (i := 842) rfl
set_option maxRecDepth 100000 in
theorem lm_827 : Cond.fieldLink RX7 53 "ShapeJudgeModel" "around" "[I" ∈ lw_tbl := List.mem_of_getElem? (i := 827) rfl
set_option maxRecDepth 100000 in
theorem lm_841 : Cond.fieldLink RX7 92 "ShapeJudgeModel" "dKind" "[I" ∈ lw_tbl := List.mem_of_getElem? (i := 841) rfl
set_option maxRecDepth 100000 in
theorem lm_1065 : Cond.instanceMethod yX7_taken ∈ lw_tbl := List.mem_of_getElem? (i := 1065) rfl
set_option maxRecDepth 100000 in
theorem lm_1063 : Cond.methodLink RX7 231 yX7_taken ∈ lw_tbl := List.mem_of_getElem? (i := 1063) rfl
set_option maxRecDepth 100000 in
theorem lm_1062 : Cond.code yX7_readShape cX7_readShape 2 none ∈ lw_tbl := List.mem_of_getElem? (i := 1062) rfl
set_option maxRecDepth 100000 in
theorem lm_45 : Cond.selects RX7 yX7_readShape yX7_readShape ∈ lw_tbl := List.mem_of_getElem? (i := 45) rfl
set_option maxRecDepth 100000 in
theorem lm_1061 : Cond.instanceMethod yX7_readShape ∈ lw_tbl := List.mem_of_getElem? (i := 1061) rfl
set_option maxRecDepth 100000 in
theorem lm_1059 : Cond.methodLink RX7 268 yX7_readShape ∈ lw_tbl := List.mem_of_getElem? (i := 1059) rfl
set_option maxRecDepth 100000 in
theorem lm_1058 : Cond.code yX7_isSign cX7_isSign 1 (some .boolean) ∈ lw_tbl := List.mem_of_getElem? (i := 1058) rfl
set_option maxRecDepth 100000 in
theorem lm_1057 : Cond.static yX7_isSign ∈ lw_tbl := List.mem_of_getElem? (i := 1057) rfl
set_option maxRecDepth 100000 in
theorem lm_1056 : Cond.methodLink RX7 219 yX7_isSign ∈ lw_tbl := List.mem_of_getElem? (i := 1056) rfl
set_option maxRecDepth 100000 in
theorem lm_1055 : Cond.code yX7_isClosed cX7_isClosed 1 (some .boolean) ∈ lw_tbl := List.mem_of_getElem? (i := 1055) rfl
set_option maxRecDepth 100000 in
theorem lm_44 : Cond.selects RX7 yX7_isClosed yX7_isClosed ∈ lw_tbl := List.mem_of_getElem? (i := 44) rfl
set_option maxRecDepth 100000 in
theorem lm_1054 : Cond.instanceMethod yX7_isClosed ∈ lw_tbl := List.mem_of_getElem? (i := 1054) rfl
set_option maxRecDepth 100000 in
theorem lm_1052 : Cond.methodLink RX7 215 yX7_isClosed ∈ lw_tbl := List.mem_of_getElem? (i := 1052) rfl
set_option maxRecDepth 100000 in
theorem lm_1049 : Cond.code yX7_fails cX7_fails 3 none ∈ lw_tbl := List.mem_of_getElem? (i := 1049) rfl
set_option maxRecDepth 100000 in
theorem lm_43 : Cond.selects RX7 yX7_fails yX7_fails ∈ lw_tbl := List.mem_of_getElem? (i := 43) rfl
set_option maxRecDepth 100000 in
theorem lm_1048 : Cond.instanceMethod yX7_fails ∈ lw_tbl := List.mem_of_getElem? (i := 1048) rfl
set_option maxRecDepth 100000 in
theorem lm_1046 : Cond.methodLink RX7 207 yX7_fails ∈ lw_tbl := List.mem_of_getElem? (i := 1046) rfl
set_option maxRecDepth 100000 in
theorem lm_1041 : Cond.code yX7_look cX7_look 2 (some .int) ∈ lw_tbl := List.mem_of_getElem? (i := 1041) rfl
set_option maxRecDepth 100000 in
theorem lm_42 : Cond.selects RX7 yX7_look yX7_look ∈ lw_tbl := List.mem_of_getElem? (i := 42) rfl
set_option maxRecDepth 100000 in
theorem lm_1040 : Cond.instanceMethod yX7_look ∈ lw_tbl := List.mem_of_getElem? (i := 1040) rfl
set_option maxRecDepth 100000 in
theorem lm_51 : Cond.selects RX7 yX7_readPart yX7_readPart ∈ lw_tbl := List.mem_of_getElem? (i := 51) rfl
set_option maxRecDepth 100000 in
theorem lm_1085 : Cond.instanceMethod yX7_readPart ∈ lw_tbl := List.mem_of_getElem? (i := 1085) rfl
set_option maxRecDepth 100000 in
theorem lm_1083 : Cond.methodLink RX7 249 yX7_readPart ∈ lw_tbl := List.mem_of_getElem? (i := 1083) rfl
set_option maxRecDepth 100000 in
theorem lm_1082 : Cond.code yX7_comes cX7_comes 4 (some .int) ∈ lw_tbl := List.mem_of_getElem? (i := 1082) rfl
set_option maxRecDepth 100000 in
theorem lm_50 : Cond.selects RX7 yX7_comes yX7_comes ∈ lw_tbl := List.mem_of_getElem? (i := 50) rfl
set_option maxRecDepth 100000 in
theorem lm_1081 : Cond.instanceMethod yX7_comes ∈ lw_tbl := List.mem_of_getElem? (i := 1081) rfl
set_option maxRecDepth 100000 in
theorem lm_1079 : Cond.methodLink RX7 246 yX7_comes ∈ lw_tbl := List.mem_of_getElem? (i := 1079) rfl
set_option maxRecDepth 100000 in
theorem lm_855 : Cond.fieldLink RX7 110 "ShapeJudgeModel" "eachAt" "[I" ∈ lw_tbl := List.mem_of_getElem? (i := 855) rfl
set_option maxRecDepth 100000 in
theorem lm_856 : Cond.fieldLink RX7 113 "ShapeJudgeModel" "itemAt" "[I" ∈ lw_tbl := List.mem_of_getElem? (i := 856) rfl
set_option maxRecDepth 100000 in
theorem lm_1078 : Cond.code yX7_readAny cX7_readAny 5 none ∈ lw_tbl := List.mem_of_getElem? (i := 1078) rfl
set_option maxRecDepth 100000 in
theorem lm_49 : Cond.selects RX7 yX7_readAny yX7_readAny ∈ lw_tbl := List.mem_of_getElem? (i := 49) rfl
set_option maxRecDepth 100000 in
theorem lm_1077 : Cond.instanceMethod yX7_readAny ∈ lw_tbl := List.mem_of_getElem? (i := 1077) rfl
set_option maxRecDepth 100000 in
theorem lm_1075 : Cond.methodLink RX7 255 yX7_readAny ∈ lw_tbl := List.mem_of_getElem? (i := 1075) rfl
set_option maxRecDepth 100000 in
theorem lm_1074 : Cond.code yX7_is cX7_is 2 (some .boolean) ∈ lw_tbl := List.mem_of_getElem? (i := 1074) rfl
set_option maxRecDepth 100000 in
theorem lm_48 : Cond.selects RX7 yX7_is yX7_is ∈ lw_tbl := List.mem_of_getElem? (i := 48) rfl
set_option maxRecDepth 100000 in
theorem lm_1073 : Cond.instanceMethod yX7_is ∈ lw_tbl := List.mem_of_getElem? (i := 1073) rfl
set_option maxRecDepth 100000 in
theorem lm_1071 : Cond.methodLink RX7 228 yX7_is ∈ lw_tbl := List.mem_of_getElem? (i := 1071) rfl
set_option maxRecDepth 100000 in
theorem lm_1070 : Cond.code yX7_taken2 cX7_taken2 2 none ∈ lw_tbl := List.mem_of_getElem? (i := 1070) rfl
set_option maxRecDepth 100000 in
theorem lm_47 : Cond.selects RX7 yX7_taken2 yX7_taken2 ∈ lw_tbl := List.mem_of_getElem? (i := 47) rfl
set_option maxRecDepth 100000 in
theorem lm_1069 : Cond.instanceMethod yX7_taken2 ∈ lw_tbl := List.mem_of_getElem? (i := 1069) rfl
set_option maxRecDepth 100000 in
theorem lm_1067 : Cond.methodLink RX7 243 yX7_taken2 ∈ lw_tbl := List.mem_of_getElem? (i := 1067) rfl
set_option maxRecDepth 100000 in
theorem lm_854 : Cond.fieldLink RX7 222 "ShapeJudgeModel" "takenAt" "I" ∈ lw_tbl := List.mem_of_getElem? (i := 854) rfl
set_option maxRecDepth 100000 in
theorem lm_1066 : Cond.code yX7_taken cX7_taken 3 (some .int) ∈ lw_tbl := List.mem_of_getElem? (i := 1066) rfl
set_option maxRecDepth 100000 in
theorem lm_46 : Cond.selects RX7 yX7_taken yX7_taken ∈ lw_tbl := List.mem_of_getElem? (i := 46) rfl
set_option maxRecDepth 100000 in
theorem lm_56 : Cond.selects RX7 yX7_findLeads yX7_findLeads ∈ lw_tbl := List.mem_of_getElem? (i := 56) rfl
set_option maxRecDepth 100000 in
theorem lm_1106 : Cond.instanceMethod yX7_findLeads ∈ lw_tbl := List.mem_of_getElem? (i := 1106) rfl
set_option maxRecDepth 100000 in
theorem lm_1104 : Cond.methodLink RX7 264 yX7_findLeads ∈ lw_tbl := List.mem_of_getElem? (i := 1104) rfl
set_option maxRecDepth 100000 in
theorem lm_1103 : Cond.code yX7_wordAt cX7_wordAt 3 (some .int) ∈ lw_tbl := List.mem_of_getElem? (i := 1103) rfl
set_option maxRecDepth 100000 in
theorem lm_55 : Cond.selects RX7 yX7_wordAt yX7_wordAt ∈ lw_tbl := List.mem_of_getElem? (i := 55) rfl
set_option maxRecDepth 100000 in
theorem lm_1102 : Cond.instanceMethod yX7_wordAt ∈ lw_tbl := List.mem_of_getElem? (i := 1102) rfl
set_option maxRecDepth 100000 in
theorem lm_1100 : Cond.methodLink RX7 261 yX7_wordAt ∈ lw_tbl := List.mem_of_getElem? (i := 1100) rfl
set_option maxRecDepth 100000 in
theorem lm_857 : Cond.fieldLink RX7 116 "ShapeJudgeModel" "leads" "[Z" ∈ lw_tbl := List.mem_of_getElem? (i := 857) rfl
set_option maxRecDepth 100000 in
theorem lm_1099 : Cond.code yX7_settleWords cX7_settleWords 5 none ∈ lw_tbl := List.mem_of_getElem? (i := 1099) rfl
set_option maxRecDepth 100000 in
theorem lm_54 : Cond.selects RX7 yX7_settleWords yX7_settleWords ∈ lw_tbl := List.mem_of_getElem? (i := 54) rfl
set_option maxRecDepth 100000 in
theorem lm_1098 : Cond.instanceMethod yX7_settleWords ∈ lw_tbl := List.mem_of_getElem? (i := 1098) rfl
set_option maxRecDepth 100000 in
theorem lm_1096 : Cond.methodLink RX7 271 yX7_settleWords ∈ lw_tbl := List.mem_of_getElem? (i := 1096) rfl
set_option maxRecDepth 100000 in
theorem lm_1094 : Cond.code yX7_number cX7_number 3 (some .int) ∈ lw_tbl := List.mem_of_getElem? (i := 1094) rfl
set_option maxRecDepth 100000 in
theorem lm_53 : Cond.selects RX7 yX7_number yX7_number ∈ lw_tbl := List.mem_of_getElem? (i := 53) rfl
set_option maxRecDepth 100000 in
theorem lm_1093 : Cond.instanceMethod yX7_number ∈ lw_tbl := List.mem_of_getElem? (i := 1093) rfl
set_option maxRecDepth 100000 in
theorem lm_1091 : Cond.methodLink RX7 237 yX7_number ∈ lw_tbl := List.mem_of_getElem? (i := 1091) rfl
set_option maxRecDepth 100000 in
theorem lm_1095 : Cond.constantLong RX7 241 (5) ∈ lw_tbl := List.mem_of_getElem? (i := 1095) rfl
set_option maxRecDepth 100000 in
theorem lm_1090 : Cond.code yX7_readCount cX7_readCount 2 none ∈ lw_tbl := List.mem_of_getElem? (i := 1090) rfl
set_option maxRecDepth 100000 in
theorem lm_52 : Cond.selects RX7 yX7_readCount yX7_readCount ∈ lw_tbl := List.mem_of_getElem? (i := 52) rfl
set_option maxRecDepth 100000 in
theorem lm_1089 : Cond.instanceMethod yX7_readCount ∈ lw_tbl := List.mem_of_getElem? (i := 1089) rfl
set_option maxRecDepth 100000 in
theorem lm_1087 : Cond.methodLink RX7 252 yX7_readCount ∈ lw_tbl := List.mem_of_getElem? (i := 1087) rfl
set_option maxRecDepth 100000 in
theorem lm_839 : Cond.fieldLink RX7 86 "ShapeJudgeModel" "dPlace" "[I" ∈ lw_tbl := List.mem_of_getElem? (i := 839) rfl
set_option maxRecDepth 100000 in
theorem lm_1086 : Cond.code yX7_readPart cX7_readPart 3 none ∈ lw_tbl := List.mem_of_getElem? (i := 1086) rfl
set_option maxRecDepth 100000 in
theorem lm_1107 : Cond.code yX7_findLeads cX7_findLeads 7 none ∈ lw_tbl := List.mem_of_getElem? (i := 1107) rfl
set_option maxRecDepth 100000 in
theorem lm_658 : Cond.selects RX6 yX6_fault yX6_fault ∈ lw_tbl := List.mem_of_getElem? (i := 658) rfl
set_option maxRecDepth 100000 in
theorem lm_657 : Cond.instanceMethod yX6_fault ∈ lw_tbl := List.mem_of_getElem? (i := 657) rfl
set_option maxRecDepth 100000 in
theorem lm_656 : Cond.methodLink RL 47 yX6_fault ∈ lw_tbl := List.mem_of_getElem? (i := 656) rfl
set_option maxRecDepth 100000 in
theorem lm_659 : Cond.code yX6_fault cX6_fault 1 (some .int) ∈ lw_tbl := List.mem_of_getElem? (i := 659) rfl
set_option maxRecDepth 100000 in
theorem lm_1110 : Cond.selects RX7 yX7_fault yX7_fault ∈ lw_tbl := List.mem_of_getElem? (i := 1110) rfl
set_option maxRecDepth 100000 in
theorem lm_1109 : Cond.instanceMethod yX7_fault ∈ lw_tbl := List.mem_of_getElem? (i := 1109) rfl
set_option maxRecDepth 100000 in
theorem lm_1108 : Cond.methodLink RL 50 yX7_fault ∈ lw_tbl := List.mem_of_getElem? (i := 1108) rfl
set_option maxRecDepth 100000 in
theorem lm_1111 : Cond.code yX7_fault cX7_fault 1 (some .int) ∈ lw_tbl := List.mem_of_getElem? (i := 1111) rfl
set_option maxRecDepth 100000 in
theorem lm_662 : Cond.selects RX6 yX6_fits yX6_fits ∈ lw_tbl := List.mem_of_getElem? (i := 662) rfl
set_option maxRecDepth 100000 in
theorem lm_661 : Cond.instanceMethod yX6_fits ∈ lw_tbl := List.mem_of_getElem? (i := 661) rfl
set_option maxRecDepth 100000 in
theorem lm_660 : Cond.methodLink RL 51 yX6_fits ∈ lw_tbl := List.mem_of_getElem? (i := 660) rfl
set_option maxRecDepth 100000 in
theorem lm_663 : Cond.code yX6_fits cX6_fits 3 (some .int) ∈ lw_tbl := List.mem_of_getElem? (i := 663) rfl
set_option maxRecDepth 100000 in
theorem lm_671 : Cond.selects RX2 yX2_readFits yX2_readFits ∈ lw_tbl := List.mem_of_getElem? (i := 671) rfl
set_option maxRecDepth 100000 in
theorem lm_670 : Cond.instanceMethod yX2_readFits ∈ lw_tbl := List.mem_of_getElem? (i := 670) rfl
set_option maxRecDepth 100000 in
theorem lm_669 : Cond.methodLink RX6 123 yX2_readFits ∈ lw_tbl := List.mem_of_getElem? (i := 669) rfl
set_option maxRecDepth 100000 in
theorem lm_668 : Cond.methodLink RX6 135 yX0_hasShape ∈ lw_tbl := List.mem_of_getElem? (i := 668) rfl
set_option maxRecDepth 100000 in
theorem lm_667 : Cond.code yX6_isPair cX6_isPair 3 (some .boolean) ∈ lw_tbl := List.mem_of_getElem? (i := 667) rfl
set_option maxRecDepth 100000 in
theorem lm_25 : Cond.selects RX6 yX6_isPair yX6_isPair ∈ lw_tbl := List.mem_of_getElem? (i := 25) rfl
set_option maxRecDepth 100000 in
theorem lm_666 : Cond.instanceMethod yX6_isPair ∈ lw_tbl := List.mem_of_getElem? (i := 666) rfl
set_option maxRecDepth 100000 in
theorem lm_664 : Cond.methodLink RX6 119 yX6_isPair ∈ lw_tbl := List.mem_of_getElem? (i := 664) rfl
set_option maxRecDepth 100000 in
theorem lm_299 : Cond.fieldLink RX6 126 "ShapeJudge$Judge" "fitting" "[I" ∈ lw_tbl := List.mem_of_getElem? (i := 299) rfl
set_option maxRecDepth 100000 in
theorem lm_110 : Cond.fieldLink RX2 71 "ShapeJudge$Graph" "degrees" "[I" ∈ lw_tbl := List.mem_of_getElem? (i := 110) rfl
set_option maxRecDepth 100000 in
theorem lm_685 : Cond.code yX2_wantedEdges cX2_wantedEdges 5 (some .int) ∈ lw_tbl := List.mem_of_getElem? (i := 685) rfl
set_option maxRecDepth 100000 in
theorem lm_684 : Cond.selects RX2 yX2_wantedEdges yX2_wantedEdges ∈ lw_tbl := List.mem_of_getElem? (i := 684) rfl
set_option maxRecDepth 100000 in
theorem lm_683 : Cond.instanceMethod yX2_wantedEdges ∈ lw_tbl := List.mem_of_getElem? (i := 683) rfl
set_option maxRecDepth 100000 in
theorem lm_682 : Cond.methodLink RX2 90 yX2_wantedEdges ∈ lw_tbl := List.mem_of_getElem? (i := 682) rfl
set_option maxRecDepth 100000 in
theorem lm_232 : Cond.fieldLink RX2 94 "ShapeJudge$Book" "closed" "[Z" ∈ lw_tbl := List.mem_of_getElem? (i := 232) rfl
set_option maxRecDepth 100000 in
theorem lm_681 : Cond.code yX2_suits cX2_suits 5 (some .boolean) ∈ lw_tbl := List.mem_of_getElem? (i := 681) rfl
set_option maxRecDepth 100000 in
theorem lm_27 : Cond.selects RX2 yX2_suits yX2_suits ∈ lw_tbl := List.mem_of_getElem? (i := 27) rfl
set_option maxRecDepth 100000 in
theorem lm_680 : Cond.instanceMethod yX2_suits ∈ lw_tbl := List.mem_of_getElem? (i := 680) rfl
set_option maxRecDepth 100000 in
theorem lm_678 : Cond.methodLink RX2 63 yX2_suits ∈ lw_tbl := List.mem_of_getElem? (i := 678) rfl
set_option maxRecDepth 100000 in
theorem lm_239 : Cond.fieldLink RX2 60 "ShapeJudge$Book" "level" "[I" ∈ lw_tbl := List.mem_of_getElem? (i := 239) rfl
set_option maxRecDepth 100000 in
theorem lm_221 : Cond.fieldLink RX2 57 "ShapeJudge$Book" "shapeCount" "I" ∈ lw_tbl := List.mem_of_getElem? (i := 221) rfl
set_option maxRecDepth 100000 in
theorem lm_677 : Cond.code yX2_dropUnfit cX2_dropUnfit 5 (some .boolean) ∈ lw_tbl := List.mem_of_getElem? (i := 677) rfl
set_option maxRecDepth 100000 in
theorem lm_26 : Cond.selects RX2 yX2_dropUnfit yX2_dropUnfit ∈ lw_tbl := List.mem_of_getElem? (i := 26) rfl
set_option maxRecDepth 100000 in
theorem lm_676 : Cond.instanceMethod yX2_dropUnfit ∈ lw_tbl := List.mem_of_getElem? (i := 676) rfl
set_option maxRecDepth 100000 in
theorem lm_674 : Cond.methodLink RX2 54 yX2_dropUnfit ∈ lw_tbl := List.mem_of_getElem? (i := 674) rfl
set_option maxRecDepth 100000 in
theorem lm_673 : Cond.methodLink RX2 42 yX0_hasShape ∈ lw_tbl := List.mem_of_getElem? (i := 673) rfl
set_option maxRecDepth 100000 in
theorem lm_101 : Cond.fieldLink RX2 48 "ShapeJudge$Graph" "nodes" "I" ∈ lw_tbl := List.mem_of_getElem? (i := 101) rfl
set_option maxRecDepth 100000 in
theorem lm_296 : Cond.fieldLink RX2 24 "ShapeJudge$Judge" "graph" "LShapeJudge$Graph;" ∈ lw_tbl := List.mem_of_getElem? (i := 296) rfl
set_option maxRecDepth 100000 in
theorem lm_298 : Cond.fieldLink RX2 9 "ShapeJudge$Judge" "fitting" "[I" ∈ lw_tbl := List.mem_of_getElem? (i := 298) rfl
set_option maxRecDepth 100000 in
theorem lm_672 : Cond.code yX2_readFits cX2_readFits 4 none ∈ lw_tbl := List.mem_of_getElem? (i := 672) rfl
set_option maxRecDepth 100000 in
theorem lm_700 : Cond.instanceMethod yX2_passes ∈ lw_tbl := List.mem_of_getElem? (i := 700) rfl
set_option maxRecDepth 100000 in
theorem lm_698 : Cond.methodLink RX2 126 yX2_passes ∈ lw_tbl := List.mem_of_getElem? (i := 698) rfl
set_option maxRecDepth 100000 in
theorem lm_115 : Cond.fieldLink RX2 123 "ShapeJudge$Graph" "edgeTo" "[I" ∈ lw_tbl := List.mem_of_getElem? (i := 115) rfl
set_option maxRecDepth 100000 in
theorem lm_245 : Cond.fieldLink RX2 120 "ShapeJudge$Book" "partName" "[I" ∈ lw_tbl := List.mem_of_getElem? (i := 245) rfl
set_option maxRecDepth 100000 in
theorem lm_304 : Cond.fieldLink RX2 18 "ShapeJudge$Judge" "allowed" "[I" ∈ lw_tbl := List.mem_of_getElem? (i := 304) rfl
set_option maxRecDepth 100000 in
theorem lm_697 : Cond.code yX2_setsTaken cX2_setsTaken 9 (some .int) ∈ lw_tbl := List.mem_of_getElem? (i := 697) rfl
set_option maxRecDepth 100000 in
theorem lm_30 : Cond.selects RX2 yX2_setsTaken yX2_setsTaken ∈ lw_tbl := List.mem_of_getElem? (i := 30) rfl
set_option maxRecDepth 100000 in
theorem lm_696 : Cond.instanceMethod yX2_setsTaken ∈ lw_tbl := List.mem_of_getElem? (i := 696) rfl
set_option maxRecDepth 100000 in
theorem lm_694 : Cond.methodLink RX2 108 yX2_setsTaken ∈ lw_tbl := List.mem_of_getElem? (i := 694) rfl
set_option maxRecDepth 100000 in
theorem lm_305 : Cond.fieldLink RX2 21 "ShapeJudge$Judge" "stack" "[I" ∈ lw_tbl := List.mem_of_getElem? (i := 305) rfl
set_option maxRecDepth 100000 in
theorem lm_243 : Cond.fieldLink RX2 105 "ShapeJudge$Book" "steps" "[I" ∈ lw_tbl := List.mem_of_getElem? (i := 243) rfl
set_option maxRecDepth 100000 in
theorem lm_241 : Cond.fieldLink RX2 102 "ShapeJudge$Book" "firstStep" "[I" ∈ lw_tbl := List.mem_of_getElem? (i := 241) rfl
set_option maxRecDepth 100000 in
theorem lm_693 : Cond.code yX2_setsDealt cX2_setsDealt 8 (some .int) ∈ lw_tbl := List.mem_of_getElem? (i := 693) rfl
set_option maxRecDepth 100000 in
theorem lm_29 : Cond.selects RX2 yX2_setsDealt yX2_setsDealt ∈ lw_tbl := List.mem_of_getElem? (i := 29) rfl
set_option maxRecDepth 100000 in
theorem lm_692 : Cond.instanceMethod yX2_setsDealt ∈ lw_tbl := List.mem_of_getElem? (i := 692) rfl
set_option maxRecDepth 100000 in
theorem lm_690 : Cond.methodLink RX2 98 yX2_setsDealt ∈ lw_tbl := List.mem_of_getElem? (i := 690) rfl
set_option maxRecDepth 100000 in
theorem lm_307 : Cond.fieldLink RX2 77 "ShapeJudge$Judge" "goneEdges" "I" ∈ lw_tbl := List.mem_of_getElem? (i := 307) rfl
set_option maxRecDepth 100000 in
theorem lm_306 : Cond.fieldLink RX2 74 "ShapeJudge$Judge" "thinNode" "I" ∈ lw_tbl := List.mem_of_getElem? (i := 306) rfl
set_option maxRecDepth 100000 in
theorem lm_689 : Cond.code yX2_presentEdges cX2_presentEdges 3 (some .int) ∈ lw_tbl := List.mem_of_getElem? (i := 689) rfl
set_option maxRecDepth 100000 in
theorem lm_28 : Cond.selects RX2 yX2_presentEdges yX2_presentEdges ∈ lw_tbl := List.mem_of_getElem? (i := 28) rfl
set_option maxRecDepth 100000 in
theorem lm_688 : Cond.instanceMethod yX2_presentEdges ∈ lw_tbl := List.mem_of_getElem? (i := 688) rfl
set_option maxRecDepth 100000 in
theorem lm_686 : Cond.methodLink RX2 86 yX2_presentEdges ∈ lw_tbl := List.mem_of_getElem? (i := 686) rfl
set_option maxRecDepth 100000 in
theorem lm_112 : Cond.fieldLink RX2 83 "ShapeJudge$Graph" "edgeName" "[I" ∈ lw_tbl := List.mem_of_getElem? (i := 112) rfl
set_option maxRecDepth 100000 in
theorem lm_235 : Cond.fieldLink RX2 80 "ShapeJudge$Book" "names" "[I" ∈ lw_tbl := List.mem_of_getElem? (i := 235) rfl
set_option maxRecDepth 100000 in
theorem lm_709 : Cond.fieldLink RX2 117 "ShapeJudge$Judge" "APART" "[I" ∈ lw_tbl := List.mem_of_getElem? (i := 709) rfl
set_option maxRecDepth 100000 in
theorem lm_708 : Cond.code yX2_both cX2_both 4 (some .int) ∈ lw_tbl := List.mem_of_getElem? (i := 708) rfl
set_option maxRecDepth 100000 in
theorem lm_707 : Cond.static yX2_both ∈ lw_tbl := List.mem_of_getElem? (i := 707) rfl
set_option maxRecDepth 100000 in
theorem lm_706 : Cond.methodLink RX2 114 yX2_both ∈ lw_tbl := List.mem_of_getElem? (i := 706) rfl
set_option maxRecDepth 100000 in
theorem lm_705 : Cond.code yX2_times cX2_times 8 (some .int) ∈ lw_tbl := List.mem_of_getElem? (i := 705) rfl
set_option maxRecDepth 100000 in
theorem lm_32 : Cond.selects RX2 yX2_times yX2_times ∈ lw_tbl := List.mem_of_getElem? (i := 32) rfl
set_option maxRecDepth 100000 in
theorem lm_704 : Cond.instanceMethod yX2_times ∈ lw_tbl := List.mem_of_getElem? (i := 704) rfl
set_option maxRecDepth 100000 in
theorem lm_702 : Cond.methodLink RX2 111 yX2_times ∈ lw_tbl := List.mem_of_getElem? (i := 702) rfl
set_option maxRecDepth 100000 in
theorem lm_254 : Cond.fieldLink RX2 141 "ShapeJudge$Book" "partSecond" "[I" ∈ lw_tbl := List.mem_of_getElem? (i := 254) rfl
set_option maxRecDepth 100000 in
theorem lm_107 : Cond.fieldLink RX2 138 "ShapeJudge$Graph" "values" "[I" ∈ lw_tbl := List.mem_of_getElem? (i := 107) rfl
set_option maxRecDepth 100000 in
theorem lm_105 : Cond.fieldLink RX2 135 "ShapeJudge$Graph" "valued" "[Z" ∈ lw_tbl := List.mem_of_getElem? (i := 105) rfl
set_option maxRecDepth 100000 in
theorem lm_248 : Cond.fieldLink RX2 132 "ShapeJudge$Book" "partTest" "[I" ∈ lw_tbl := List.mem_of_getElem? (i := 248) rfl
set_option maxRecDepth 100000 in
theorem lm_251 : Cond.fieldLink RX2 129 "ShapeJudge$Book" "partFirst" "[I" ∈ lw_tbl := List.mem_of_getElem? (i := 251) rfl
set_option maxRecDepth 100000 in
theorem lm_701 : Cond.code yX2_passes cX2_passes 5 (some .boolean) ∈ lw_tbl := List.mem_of_getElem? (i := 701) rfl
set_option maxRecDepth 100000 in
theorem lm_31 : Cond.selects RX2 yX2_passes yX2_passes ∈ lw_tbl := List.mem_of_getElem? (i := 31) rfl
set_option maxRecDepth 100000 in
theorem lm_1114 : Cond.selects RX7 yX7_fits yX7_fits ∈ lw_tbl := List.mem_of_getElem? (i := 1114) rfl
set_option maxRecDepth 100000 in
theorem lm_1113 : Cond.instanceMethod yX7_fits ∈ lw_tbl := List.mem_of_getElem? (i := 1113) rfl
set_option maxRecDepth 100000 in
theorem lm_1112 : Cond.methodLink RL 55 yX7_fits ∈ lw_tbl := List.mem_of_getElem? (i := 1112) rfl
set_option maxRecDepth 100000 in
theorem lm_1115 : Cond.code yX7_fits cX7_fits 3 (some .int) ∈ lw_tbl := List.mem_of_getElem? (i := 1115) rfl
set_option maxRecDepth 100000 in
theorem lm_1127 : Cond.code yX7_read cX7_read 3 none ∈ lw_tbl := List.mem_of_getElem? (i := 1127) rfl
set_option maxRecDepth 100000 in
theorem lm_59 : Cond.selects RX7 yX7_read yX7_read ∈ lw_tbl := List.mem_of_getElem? (i := 59) rfl
set_option maxRecDepth 100000 in
theorem lm_1126 : Cond.instanceMethod yX7_read ∈ lw_tbl := List.mem_of_getElem? (i := 1126) rfl
set_option maxRecDepth 100000 in
theorem lm_1124 : Cond.methodLink RX7 315 yX7_read ∈ lw_tbl := List.mem_of_getElem? (i := 1124) rfl
set_option maxRecDepth 100000 in
theorem lm_1123 : Cond.code yX7_isShape cX7_isShape 2 (some .boolean) ∈ lw_tbl := List.mem_of_getElem? (i := 1123) rfl
set_option maxRecDepth 100000 in
theorem lm_58 : Cond.selects RX7 yX7_isShape yX7_isShape ∈ lw_tbl := List.mem_of_getElem? (i := 58) rfl
set_option maxRecDepth 100000 in
theorem lm_1122 : Cond.instanceMethod yX7_isShape ∈ lw_tbl := List.mem_of_getElem? (i := 1122) rfl
set_option maxRecDepth 100000 in
theorem lm_1120 : Cond.methodLink RX7 309 yX7_isShape ∈ lw_tbl := List.mem_of_getElem? (i := 1120) rfl
set_option maxRecDepth 100000 in
theorem lm_1119 : Cond.code yX7_areBoth cX7_areBoth 3 (some .boolean) ∈ lw_tbl := List.mem_of_getElem? (i := 1119) rfl
set_option maxRecDepth 100000 in
theorem lm_57 : Cond.selects RX7 yX7_areBoth yX7_areBoth ∈ lw_tbl := List.mem_of_getElem? (i := 57) rfl
set_option maxRecDepth 100000 in
theorem lm_1118 : Cond.instanceMethod yX7_areBoth ∈ lw_tbl := List.mem_of_getElem? (i := 1118) rfl
set_option maxRecDepth 100000 in
theorem lm_1116 : Cond.methodLink RX7 312 yX7_areBoth ∈ lw_tbl := List.mem_of_getElem? (i := 1116) rfl
set_option maxRecDepth 100000 in
theorem lm_858 : Cond.fieldLink RX7 119 "ShapeJudgeModel" "fitting" "[Z" ∈ lw_tbl := List.mem_of_getElem? (i := 858) rfl
set_option maxRecDepth 100000 in
theorem lm_1143 : Cond.code yX7_can cX7_can 5 (some .boolean) ∈ lw_tbl := List.mem_of_getElem? (i := 1143) rfl
set_option maxRecDepth 100000 in
theorem lm_63 : Cond.selects RX7 yX7_can yX7_can ∈ lw_tbl := List.mem_of_getElem? (i := 63) rfl
set_option maxRecDepth 100000 in
theorem lm_1142 : Cond.instanceMethod yX7_can ∈ lw_tbl := List.mem_of_getElem? (i := 1142) rfl
set_option maxRecDepth 100000 in
theorem lm_1140 : Cond.methodLink RX7 295 yX7_can ∈ lw_tbl := List.mem_of_getElem? (i := 1140) rfl
set_option maxRecDepth 100000 in
theorem lm_1139 : Cond.code yX7_changes cX7_changes 7 (some .boolean) ∈ lw_tbl := List.mem_of_getElem? (i := 1139) rfl
set_option maxRecDepth 100000 in
theorem lm_62 : Cond.selects RX7 yX7_changes yX7_changes ∈ lw_tbl := List.mem_of_getElem? (i := 62) rfl
set_option maxRecDepth 100000 in
theorem lm_1138 : Cond.instanceMethod yX7_changes ∈ lw_tbl := List.mem_of_getElem? (i := 1138) rfl
set_option maxRecDepth 100000 in
theorem lm_1136 : Cond.methodLink RX7 305 yX7_changes ∈ lw_tbl := List.mem_of_getElem? (i := 1136) rfl
set_option maxRecDepth 100000 in
theorem lm_862 : Cond.fieldLink RX7 131 "ShapeJudgeModel" "ranks" "[I" ∈ lw_tbl := List.mem_of_getElem? (i := 862) rfl
set_option maxRecDepth 100000 in
theorem lm_1135 : Cond.code yX7_findRanks cX7_findRanks 6 none ∈ lw_tbl := List.mem_of_getElem? (i := 1135) rfl
set_option maxRecDepth 100000 in
theorem lm_61 : Cond.selects RX7 yX7_findRanks yX7_findRanks ∈ lw_tbl := List.mem_of_getElem? (i := 61) rfl
set_option maxRecDepth 100000 in
theorem lm_1134 : Cond.instanceMethod yX7_findRanks ∈ lw_tbl := List.mem_of_getElem? (i := 1134) rfl
set_option maxRecDepth 100000 in
theorem lm_1132 : Cond.methodLink RX7 302 yX7_findRanks ∈ lw_tbl := List.mem_of_getElem? (i := 1132) rfl
set_option maxRecDepth 100000 in
theorem lm_860 : Cond.fieldLink RX7 125 "ShapeJudgeModel" "only" "[I" ∈ lw_tbl := List.mem_of_getElem? (i := 860) rfl
set_option maxRecDepth 100000 in
theorem lm_1131 : Cond.code yX7_free cX7_free 2 none ∈ lw_tbl := List.mem_of_getElem? (i := 1131) rfl
set_option maxRecDepth 100000 in
theorem lm_60 : Cond.selects RX7 yX7_free yX7_free ∈ lw_tbl := List.mem_of_getElem? (i := 60) rfl
set_option maxRecDepth 100000 in
theorem lm_1130 : Cond.instanceMethod yX7_free ∈ lw_tbl := List.mem_of_getElem? (i := 1130) rfl
set_option maxRecDepth 100000 in
theorem lm_1128 : Cond.methodLink RX7 299 yX7_free ∈ lw_tbl := List.mem_of_getElem? (i := 1128) rfl
set_option maxRecDepth 100000 in
theorem lm_859 : Cond.fieldLink RX7 122 "ShapeJudgeModel" "sure" "[Z" ∈ lw_tbl := List.mem_of_getElem? (i := 859) rfl
set_option maxRecDepth 100000 in
theorem lm_67 : Cond.selects RX7 yX7_takes yX7_takes ∈ lw_tbl := List.mem_of_getElem? (i := 67) rfl
set_option maxRecDepth 100000 in
theorem lm_1158 : Cond.instanceMethod yX7_takes ∈ lw_tbl := List.mem_of_getElem? (i := 1158) rfl
set_option maxRecDepth 100000 in
theorem lm_1156 : Cond.methodLink RX7 277 yX7_takes ∈ lw_tbl := List.mem_of_getElem? (i := 1156) rfl
set_option maxRecDepth 100000 in
theorem lm_861 : Cond.fieldLink RX7 128 "ShapeJudgeModel" "sets" "[I" ∈ lw_tbl := List.mem_of_getElem? (i := 861) rfl
set_option maxRecDepth 100000 in
theorem lm_1155 : Cond.code yX7_dealtTo cX7_dealtTo 12 (some .int) ∈ lw_tbl := List.mem_of_getElem? (i := 1155) rfl
set_option maxRecDepth 100000 in
theorem lm_66 : Cond.selects RX7 yX7_dealtTo yX7_dealtTo ∈ lw_tbl := List.mem_of_getElem? (i := 66) rfl
set_option maxRecDepth 100000 in
theorem lm_1154 : Cond.instanceMethod yX7_dealtTo ∈ lw_tbl := List.mem_of_getElem? (i := 1154) rfl
set_option maxRecDepth 100000 in
theorem lm_1152 : Cond.methodLink RX7 291 yX7_dealtTo ∈ lw_tbl := List.mem_of_getElem? (i := 1152) rfl
set_option maxRecDepth 100000 in
theorem lm_1151 : Cond.code yX7_isWanted cX7_isWanted 5 (some .boolean) ∈ lw_tbl := List.mem_of_getElem? (i := 1151) rfl
set_option maxRecDepth 100000 in
theorem lm_65 : Cond.selects RX7 yX7_isWanted yX7_isWanted ∈ lw_tbl := List.mem_of_getElem? (i := 65) rfl
set_option maxRecDepth 100000 in
theorem lm_1150 : Cond.instanceMethod yX7_isWanted ∈ lw_tbl := List.mem_of_getElem? (i := 1150) rfl
set_option maxRecDepth 100000 in
theorem lm_1148 : Cond.methodLink RX7 284 yX7_isWanted ∈ lw_tbl := List.mem_of_getElem? (i := 1148) rfl
set_option maxRecDepth 100000 in
theorem lm_1147 : Cond.code yX7_wantedSet cX7_wantedSet 5 (some .int) ∈ lw_tbl := List.mem_of_getElem? (i := 1147) rfl
set_option maxRecDepth 100000 in
theorem lm_64 : Cond.selects RX7 yX7_wantedSet yX7_wantedSet ∈ lw_tbl := List.mem_of_getElem? (i := 64) rfl
set_option maxRecDepth 100000 in
theorem lm_1146 : Cond.instanceMethod yX7_wantedSet ∈ lw_tbl := List.mem_of_getElem? (i := 1146) rfl
set_option maxRecDepth 100000 in
theorem lm_1144 : Cond.methodLink RX7 288 yX7_wantedSet ∈ lw_tbl := List.mem_of_getElem? (i := 1144) rfl
set_option maxRecDepth 100000 in
theorem lm_1166 : Cond.code yX7_joined cX7_joined 5 (some .int) ∈ lw_tbl := List.mem_of_getElem? (i := 1166) rfl
set_option maxRecDepth 100000 in
theorem lm_1165 : Cond.static yX7_joined ∈ lw_tbl := List.mem_of_getElem? (i := 1165) rfl
set_option maxRecDepth 100000 in
theorem lm_1164 : Cond.methodLink RX7 274 yX7_joined ∈ lw_tbl := List.mem_of_getElem? (i := 1164) rfl
set_option maxRecDepth 100000 in
theorem lm_1163 : Cond.code yX7_counted cX7_counted 7 (some .int) ∈ lw_tbl := List.mem_of_getElem? (i := 1163) rfl
set_option maxRecDepth 100000 in
theorem lm_68 : Cond.selects RX7 yX7_counted yX7_counted ∈ lw_tbl := List.mem_of_getElem? (i := 68) rfl
set_option maxRecDepth 100000 in
theorem lm_1162 : Cond.instanceMethod yX7_counted ∈ lw_tbl := List.mem_of_getElem? (i := 1162) rfl
set_option maxRecDepth 100000 in
theorem lm_1160 : Cond.methodLink RX7 281 yX7_counted ∈ lw_tbl := List.mem_of_getElem? (i := 1160) rfl
set_option maxRecDepth 100000 in
theorem lm_1159 : Cond.code yX7_takes cX7_takes 6 (some .boolean) ∈ lw_tbl := List.mem_of_getElem? (i := 1159) rfl
set_option maxRecDepth 100000 in
theorem lm_713 : Cond.selects RX6 yX6_surely yX6_surely ∈ lw_tbl := List.mem_of_getElem? (i := 713) rfl
set_option maxRecDepth 100000 in
theorem lm_712 : Cond.instanceMethod yX6_surely ∈ lw_tbl := List.mem_of_getElem? (i := 712) rfl
set_option maxRecDepth 100000 in
theorem lm_711 : Cond.methodLink RL 56 yX6_surely ∈ lw_tbl := List.mem_of_getElem? (i := 711) rfl
set_option maxRecDepth 100000 in
theorem lm_714 : Cond.code yX6_surely cX6_surely 3 (some .int) ∈ lw_tbl := List.mem_of_getElem? (i := 714) rfl
set_option maxRecDepth 100000 in
theorem lm_301 : Cond.fieldLink RX6 132 "ShapeJudge$Judge" "sure" "[I" ∈ lw_tbl := List.mem_of_getElem? (i := 301) rfl
set_option maxRecDepth 100000 in
theorem lm_33 : Cond.selects RX2 yX2_addSuiting yX2_addSuiting ∈ lw_tbl := List.mem_of_getElem? (i := 33) rfl
set_option maxRecDepth 100000 in
theorem lm_721 : Cond.instanceMethod yX2_addSuiting ∈ lw_tbl := List.mem_of_getElem? (i := 721) rfl
set_option maxRecDepth 100000 in
theorem lm_719 : Cond.methodLink RX2 67 yX2_addSuiting ∈ lw_tbl := List.mem_of_getElem? (i := 719) rfl
set_option maxRecDepth 100000 in
theorem lm_300 : Cond.fieldLink RX2 15 "ShapeJudge$Judge" "sure" "[I" ∈ lw_tbl := List.mem_of_getElem? (i := 300) rfl
set_option maxRecDepth 100000 in
theorem lm_718 : Cond.code yX2_readSure cX2_readSure 3 none ∈ lw_tbl := List.mem_of_getElem? (i := 718) rfl
set_option maxRecDepth 100000 in
theorem lm_717 : Cond.selects RX2 yX2_readSure yX2_readSure ∈ lw_tbl := List.mem_of_getElem? (i := 717) rfl
set_option maxRecDepth 100000 in
theorem lm_716 : Cond.instanceMethod yX2_readSure ∈ lw_tbl := List.mem_of_getElem? (i := 716) rfl
set_option maxRecDepth 100000 in
theorem lm_715 : Cond.methodLink RX6 129 yX2_readSure ∈ lw_tbl := List.mem_of_getElem? (i := 715) rfl
set_option maxRecDepth 100000 in
theorem lm_722 : Cond.code yX2_addSuiting cX2_addSuiting 4 (some .boolean) ∈ lw_tbl := List.mem_of_getElem? (i := 722) rfl
set_option maxRecDepth 100000 in
theorem lm_1169 : Cond.selects RX7 yX7_surely yX7_surely ∈ lw_tbl := List.mem_of_getElem? (i := 1169) rfl
set_option maxRecDepth 100000 in
theorem lm_1168 : Cond.instanceMethod yX7_surely ∈ lw_tbl := List.mem_of_getElem? (i := 1168) rfl
set_option maxRecDepth 100000 in
theorem lm_1167 : Cond.methodLink RL 59 yX7_surely ∈ lw_tbl := List.mem_of_getElem? (i := 1167) rfl
set_option maxRecDepth 100000 in
theorem lm_1170 : Cond.code yX7_surely cX7_surely 3 (some .int) ∈ lw_tbl := List.mem_of_getElem? (i := 1170) rfl
set_option maxRecDepth 100000 in
theorem lm_725 : Cond.selects RX6 yX6_all yX6_all ∈ lw_tbl := List.mem_of_getElem? (i := 725) rfl
set_option maxRecDepth 100000 in
theorem lm_724 : Cond.instanceMethod yX6_all ∈ lw_tbl := List.mem_of_getElem? (i := 724) rfl
set_option maxRecDepth 100000 in
theorem lm_723 : Cond.methodLink RL 60 yX6_all ∈ lw_tbl := List.mem_of_getElem? (i := 723) rfl
set_option maxRecDepth 100000 in
theorem lm_726 : Cond.code yX6_all cX6_all 2 (some .int) ∈ lw_tbl := List.mem_of_getElem? (i := 726) rfl
set_option maxRecDepth 100000 in
theorem lm_1173 : Cond.selects RX7 yX7_all yX7_all ∈ lw_tbl := List.mem_of_getElem? (i := 1173) rfl
set_option maxRecDepth 100000 in
theorem lm_1172 : Cond.instanceMethod yX7_all ∈ lw_tbl := List.mem_of_getElem? (i := 1172) rfl
set_option maxRecDepth 100000 in
theorem lm_1171 : Cond.methodLink RL 63 yX7_all ∈ lw_tbl := List.mem_of_getElem? (i := 1171) rfl
set_option maxRecDepth 100000 in
theorem lm_1174 : Cond.code yX7_all cX7_all 4 (some .int) ∈ lw_tbl := List.mem_of_getElem? (i := 1174) rfl
set_option maxRecDepth 100000 in
theorem lm_729 : Cond.selects RX6 yX6_wanted yX6_wanted ∈ lw_tbl := List.mem_of_getElem? (i := 729) rfl
set_option maxRecDepth 100000 in
theorem lm_728 : Cond.instanceMethod yX6_wanted ∈ lw_tbl := List.mem_of_getElem? (i := 728) rfl
set_option maxRecDepth 100000 in
theorem lm_727 : Cond.methodLink RL 64 yX6_wanted ∈ lw_tbl := List.mem_of_getElem? (i := 727) rfl
set_option maxRecDepth 100000 in
theorem lm_730 : Cond.code yX6_wanted cX6_wanted 3 (some .int) ∈ lw_tbl := List.mem_of_getElem? (i := 730) rfl
set_option maxRecDepth 100000 in
theorem lm_731 : Cond.methodLink RX6 138 yX2_wantedEdges ∈ lw_tbl := List.mem_of_getElem? (i := 731) rfl
set_option maxRecDepth 100000 in
theorem lm_737 : Cond.constant RJ6 267 (252645135) ∈ lw_tbl := List.mem_of_getElem? (i := 737) rfl
set_option maxRecDepth 100000 in
theorem lm_736 : Cond.constant RJ6 266 (858993459) ∈ lw_tbl := List.mem_of_getElem? (i := 736) rfl
set_option maxRecDepth 100000 in
theorem lm_735 : Cond.constant RJ6 265 (1431655765) ∈ lw_tbl := List.mem_of_getElem? (i := 735) rfl
set_option maxRecDepth 100000 in
theorem lm_734 : Cond.code yJ6_bitCount_0f7a4 cJ6_bitCount_0f7a4 1 (some .int) ∈ lw_tbl := List.mem_of_getElem? (i := 734) rfl
set_option maxRecDepth 100000 in
theorem lm_84 : Cond.initialized RJ6 ∈ lw_tbl := List.mem_of_getElem? (i := 84) rfl
set_option maxRecDepth 100000 in
theorem lm_733 : Cond.static yJ6_bitCount_0f7a4 ∈ lw_tbl := List.mem_of_getElem? (i := 733) rfl
set_option maxRecDepth 100000 in
theorem lm_732 : Cond.methodLink RX6 142 yJ6_bitCount_0f7a4 ∈ lw_tbl := List.mem_of_getElem? (i := 732) rfl
set_option maxRecDepth 100000 in
theorem lm_1177 : Cond.selects RX7 yX7_wanted yX7_wanted ∈ lw_tbl := List.mem_of_getElem? (i := 1177) rfl
set_option maxRecDepth 100000 in
theorem lm_1176 : Cond.instanceMethod yX7_wanted ∈ lw_tbl := List.mem_of_getElem? (i := 1176) rfl
set_option maxRecDepth 100000 in
theorem lm_1175 : Cond.methodLink RL 67 yX7_wanted ∈ lw_tbl := List.mem_of_getElem? (i := 1175) rfl
set_option maxRecDepth 100000 in
theorem lm_1178 : Cond.code yX7_wanted cX7_wanted 5 (some .int) ∈ lw_tbl := List.mem_of_getElem? (i := 1178) rfl
set_option maxRecDepth 100000 in
theorem lm_740 : Cond.selects RX6 yX6_dealt yX6_dealt ∈ lw_tbl := List.mem_of_getElem? (i := 740) rfl
set_option maxRecDepth 100000 in
theorem lm_739 : Cond.instanceMethod yX6_dealt ∈ lw_tbl := List.mem_of_getElem? (i := 739) rfl
set_option maxRecDepth 100000 in
theorem lm_738 : Cond.methodLink RL 68 yX6_dealt ∈ lw_tbl := List.mem_of_getElem? (i := 738) rfl
set_option maxRecDepth 100000 in
theorem lm_741 : Cond.code yX6_dealt cX6_dealt 4 (some .int) ∈ lw_tbl := List.mem_of_getElem? (i := 741) rfl
set_option maxRecDepth 100000 in
theorem lm_744 : Cond.selects RX1 yX1_hasEdge yX1_hasEdge ∈ lw_tbl := List.mem_of_getElem? (i := 744) rfl
set_option maxRecDepth 100000 in
theorem lm_743 : Cond.instanceMethod yX1_hasEdge ∈ lw_tbl := List.mem_of_getElem? (i := 743) rfl
set_option maxRecDepth 100000 in
theorem lm_742 : Cond.methodLink RX6 148 yX1_hasEdge ∈ lw_tbl := List.mem_of_getElem? (i := 742) rfl
set_option maxRecDepth 100000 in
theorem lm_745 : Cond.code yX1_hasEdge cX1_hasEdge 3 (some .boolean) ∈ lw_tbl := List.mem_of_getElem? (i := 745) rfl
set_option maxRecDepth 100000 in
theorem lm_748 : Cond.selects RX2 yX2_leastPartOf yX2_leastPartOf ∈ lw_tbl := List.mem_of_getElem? (i := 748) rfl
set_option maxRecDepth 100000 in
theorem lm_747 : Cond.instanceMethod yX2_leastPartOf ∈ lw_tbl := List.mem_of_getElem? (i := 747) rfl
set_option maxRecDepth 100000 in
theorem lm_746 : Cond.methodLink RX6 151 yX2_leastPartOf ∈ lw_tbl := List.mem_of_getElem? (i := 746) rfl
set_option maxRecDepth 100000 in
theorem lm_229 : Cond.fieldLink RX2 148 "ShapeJudge$Book" "partCount" "[I" ∈ lw_tbl := List.mem_of_getElem? (i := 229) rfl
set_option maxRecDepth 100000 in
theorem lm_753 : Cond.code yX2_bindToLeastPart cX2_bindToLeastPart 5 (some .int) ∈ lw_tbl := List.mem_of_getElem? (i := 753) rfl
set_option maxRecDepth 100000 in
theorem lm_34 : Cond.selects RX2 yX2_bindToLeastPart yX2_bindToLeastPart ∈ lw_tbl := List.mem_of_getElem? (i := 34) rfl
set_option maxRecDepth 100000 in
theorem lm_752 : Cond.instanceMethod yX2_bindToLeastPart ∈ lw_tbl := List.mem_of_getElem? (i := 752) rfl
set_option maxRecDepth 100000 in
theorem lm_750 : Cond.methodLink RX2 144 yX2_bindToLeastPart ∈ lw_tbl := List.mem_of_getElem? (i := 750) rfl
set_option maxRecDepth 100000 in
theorem lm_749 : Cond.code yX2_leastPartOf cX2_leastPartOf 7 (some .int) ∈ lw_tbl := List.mem_of_getElem? (i := 749) rfl
set_option maxRecDepth 100000 in
theorem lm_1181 : Cond.selects RX7 yX7_dealt yX7_dealt ∈ lw_tbl := List.mem_of_getElem? (i := 1181) rfl
set_option maxRecDepth 100000 in
theorem lm_1180 : Cond.instanceMethod yX7_dealt ∈ lw_tbl := List.mem_of_getElem? (i := 1180) rfl
set_option maxRecDepth 100000 in
theorem lm_1179 : Cond.methodLink RL 71 yX7_dealt ∈ lw_tbl := List.mem_of_getElem? (i := 1179) rfl
set_option maxRecDepth 100000 in
theorem lm_1182 : Cond.code yX7_dealt cX7_dealt 5 (some .int) ∈ lw_tbl := List.mem_of_getElem? (i := 1182) rfl
set_option maxRecDepth 100000 in
theorem lm_756 : Cond.selects RX6 yX6_tooMany yX6_tooMany ∈ lw_tbl := List.mem_of_getElem? (i := 756) rfl
set_option maxRecDepth 100000 in
theorem lm_755 : Cond.instanceMethod yX6_tooMany ∈ lw_tbl := List.mem_of_getElem? (i := 755) rfl
set_option maxRecDepth 100000 in
theorem lm_754 : Cond.methodLink RL 72 yX6_tooMany ∈ lw_tbl := List.mem_of_getElem? (i := 754) rfl
set_option maxRecDepth 100000 in
theorem lm_757 : Cond.code yX6_tooMany cX6_tooMany 4 (some .int) ∈ lw_tbl := List.mem_of_getElem? (i := 757) rfl
set_option maxRecDepth 100000 in
theorem lm_760 : Cond.selects RX2 yX2_surplusEdges yX2_surplusEdges ∈ lw_tbl := List.mem_of_getElem? (i := 760) rfl
set_option maxRecDepth 100000 in
theorem lm_759 : Cond.instanceMethod yX2_surplusEdges ∈ lw_tbl := List.mem_of_getElem? (i := 759) rfl
set_option maxRecDepth 100000 in
theorem lm_758 : Cond.methodLink RX6 154 yX2_surplusEdges ∈ lw_tbl := List.mem_of_getElem? (i := 758) rfl
set_option maxRecDepth 100000 in
theorem lm_762 : Cond.methodLink RX2 151 yX2_readFits ∈ lw_tbl := List.mem_of_getElem? (i := 762) rfl
set_option maxRecDepth 100000 in
theorem lm_761 : Cond.code yX2_surplusEdges cX2_surplusEdges 7 (some .int) ∈ lw_tbl := List.mem_of_getElem? (i := 761) rfl
set_option maxRecDepth 100000 in
theorem lm_763 : Cond.methodLink RX2 154 yJ6_bitCount_0f7a4 ∈ lw_tbl := List.mem_of_getElem? (i := 763) rfl
set_option maxRecDepth 100000 in
theorem lm_1185 : Cond.selects RX7 yX7_tooMany yX7_tooMany ∈ lw_tbl := List.mem_of_getElem? (i := 1185) rfl
set_option maxRecDepth 100000 in
theorem lm_1184 : Cond.instanceMethod yX7_tooMany ∈ lw_tbl := List.mem_of_getElem? (i := 1184) rfl
set_option maxRecDepth 100000 in
theorem lm_1183 : Cond.methodLink RL 75 yX7_tooMany ∈ lw_tbl := List.mem_of_getElem? (i := 1183) rfl
set_option maxRecDepth 100000 in
theorem lm_1186 : Cond.code yX7_tooMany cX7_tooMany 3 (some .int) ∈ lw_tbl := List.mem_of_getElem? (i := 1186) rfl
set_option maxRecDepth 100000 in
theorem lm_1190 : Cond.code yX7_without cX7_without 7 none ∈ lw_tbl := List.mem_of_getElem? (i := 1190) rfl
set_option maxRecDepth 100000 in
theorem lm_69 : Cond.selects RX7 yX7_without yX7_without ∈ lw_tbl := List.mem_of_getElem? (i := 69) rfl
set_option maxRecDepth 100000 in
theorem lm_1189 : Cond.instanceMethod yX7_without ∈ lw_tbl := List.mem_of_getElem? (i := 1189) rfl
set_option maxRecDepth 100000 in
theorem lm_1187 : Cond.methodLink RX7 327 yX7_without ∈ lw_tbl := List.mem_of_getElem? (i := 1187) rfl
set_option maxRecDepth 100000 in
theorem lm_863 : Cond.fieldLink RX7 318 "ShapeJudgeModel" "withoutMany" "I" ∈ lw_tbl := List.mem_of_getElem? (i := 863) rfl
set_option maxRecDepth 100000 in
theorem lm_1193 : Cond.code yX7_bits cX7_bits 3 (some .int) ∈ lw_tbl := List.mem_of_getElem? (i := 1193) rfl
set_option maxRecDepth 100000 in
theorem lm_1192 : Cond.static yX7_bits ∈ lw_tbl := List.mem_of_getElem? (i := 1192) rfl
set_option maxRecDepth 100000 in
theorem lm_1191 : Cond.methodLink RX7 324 yX7_bits ∈ lw_tbl := List.mem_of_getElem? (i := 1191) rfl
set_option maxRecDepth 100000 in
theorem lm_864 : Cond.fieldLink RX7 321 "ShapeJudgeModel" "withoutSet" "I" ∈ lw_tbl := List.mem_of_getElem? (i := 864) rfl
set_option maxRecDepth 100000 in
theorem lm_866 : Cond.fieldLink RX7 137 "ShapeJudgeModel" "keptTos" "[I" ∈ lw_tbl := List.mem_of_getElem? (i := 866) rfl
set_option maxRecDepth 100000 in
theorem lm_865 : Cond.fieldLink RX7 134 "ShapeJudgeModel" "keptNames" "[I" ∈ lw_tbl := List.mem_of_getElem? (i := 865) rfl
set_option maxRecDepth 100000 in
theorem lm_766 : Cond.selects RX6 yX6_which yX6_which ∈ lw_tbl := List.mem_of_getElem? (i := 766) rfl
set_option maxRecDepth 100000 in
theorem lm_765 : Cond.instanceMethod yX6_which ∈ lw_tbl := List.mem_of_getElem? (i := 765) rfl
set_option maxRecDepth 100000 in
theorem lm_764 : Cond.methodLink RL 76 yX6_which ∈ lw_tbl := List.mem_of_getElem? (i := 764) rfl
set_option maxRecDepth 100000 in
theorem lm_767 : Cond.code yX6_which cX6_which 4 (some .int) ∈ lw_tbl := List.mem_of_getElem? (i := 767) rfl
set_option maxRecDepth 100000 in
theorem lm_1196 : Cond.selects RX7 yX7_which yX7_which ∈ lw_tbl := List.mem_of_getElem? (i := 1196) rfl
set_option maxRecDepth 100000 in
theorem lm_1195 : Cond.instanceMethod yX7_which ∈ lw_tbl := List.mem_of_getElem? (i := 1195) rfl
set_option maxRecDepth 100000 in
theorem lm_1194 : Cond.methodLink RL 79 yX7_which ∈ lw_tbl := List.mem_of_getElem? (i := 1194) rfl
set_option maxRecDepth 100000 in
theorem lm_1197 : Cond.code yX7_which cX7_which 3 (some .int) ∈ lw_tbl := List.mem_of_getElem? (i := 1197) rfl
set_option maxRecDepth 100000 in
theorem lm_770 : Cond.selects RX6 yX6_depends yX6_depends ∈ lw_tbl := List.mem_of_getElem? (i := 770) rfl
set_option maxRecDepth 100000 in
theorem lm_769 : Cond.instanceMethod yX6_depends ∈ lw_tbl := List.mem_of_getElem? (i := 769) rfl
set_option maxRecDepth 100000 in
theorem lm_768 : Cond.methodLink RL 80 yX6_depends ∈ lw_tbl := List.mem_of_getElem? (i := 768) rfl
set_option maxRecDepth 100000 in
theorem lm_771 : Cond.code yX6_depends cX6_depends 3 (some .int) ∈ lw_tbl := List.mem_of_getElem? (i := 771) rfl
set_option maxRecDepth 100000 in
theorem lm_237 : Cond.fieldLink RX6 157 "ShapeJudge$Book" "reach" "[I" ∈ lw_tbl := List.mem_of_getElem? (i := 237) rfl
set_option maxRecDepth 100000 in
theorem lm_1200 : Cond.selects RX7 yX7_depends yX7_depends ∈ lw_tbl := List.mem_of_getElem? (i := 1200) rfl
set_option maxRecDepth 100000 in
theorem lm_1199 : Cond.instanceMethod yX7_depends ∈ lw_tbl := List.mem_of_getElem? (i := 1199) rfl
set_option maxRecDepth 100000 in
theorem lm_1198 : Cond.methodLink RL 83 yX7_depends ∈ lw_tbl := List.mem_of_getElem? (i := 1198) rfl
set_option maxRecDepth 100000 in
theorem lm_1201 : Cond.code yX7_depends cX7_depends 3 (some .int) ∈ lw_tbl := List.mem_of_getElem? (i := 1201) rfl
set_option maxRecDepth 100000 in
theorem lm_774 : Cond.selects RX6 yX6_part yX6_part ∈ lw_tbl := List.mem_of_getElem? (i := 774) rfl
set_option maxRecDepth 100000 in
theorem lm_773 : Cond.instanceMethod yX6_part ∈ lw_tbl := List.mem_of_getElem? (i := 773) rfl
set_option maxRecDepth 100000 in
theorem lm_772 : Cond.methodLink RL 84 yX6_part ∈ lw_tbl := List.mem_of_getElem? (i := 772) rfl
set_option maxRecDepth 100000 in
theorem lm_775 : Cond.code yX6_part cX6_part 5 (some .int) ∈ lw_tbl := List.mem_of_getElem? (i := 775) rfl
set_option maxRecDepth 100000 in
theorem lm_779 : Cond.code yX0_hasPart cX0_hasPart 3 (some .boolean) ∈ lw_tbl := List.mem_of_getElem? (i := 779) rfl
set_option maxRecDepth 100000 in
theorem lm_778 : Cond.selects RX0 yX0_hasPart yX0_hasPart ∈ lw_tbl := List.mem_of_getElem? (i := 778) rfl
set_option maxRecDepth 100000 in
theorem lm_777 : Cond.instanceMethod yX0_hasPart ∈ lw_tbl := List.mem_of_getElem? (i := 777) rfl
set_option maxRecDepth 100000 in
theorem lm_776 : Cond.methodLink RX6 160 yX0_hasPart ∈ lw_tbl := List.mem_of_getElem? (i := 776) rfl
set_option maxRecDepth 100000 in
theorem lm_255 : Cond.fieldLink RX6 172 "ShapeJudge$Book" "partSecond" "[I" ∈ lw_tbl := List.mem_of_getElem? (i := 255) rfl
set_option maxRecDepth 100000 in
theorem lm_252 : Cond.fieldLink RX6 169 "ShapeJudge$Book" "partFirst" "[I" ∈ lw_tbl := List.mem_of_getElem? (i := 252) rfl
set_option maxRecDepth 100000 in
theorem lm_249 : Cond.fieldLink RX6 166 "ShapeJudge$Book" "partTest" "[I" ∈ lw_tbl := List.mem_of_getElem? (i := 249) rfl
set_option maxRecDepth 100000 in
theorem lm_246 : Cond.fieldLink RX6 163 "ShapeJudge$Book" "partName" "[I" ∈ lw_tbl := List.mem_of_getElem? (i := 246) rfl
set_option maxRecDepth 100000 in
theorem lm_1204 : Cond.selects RX7 yX7_part yX7_part ∈ lw_tbl := List.mem_of_getElem? (i := 1204) rfl
set_option maxRecDepth 100000 in
theorem lm_1203 : Cond.instanceMethod yX7_part ∈ lw_tbl := List.mem_of_getElem? (i := 1203) rfl
set_option maxRecDepth 100000 in
theorem lm_1202 : Cond.methodLink RL 87 yX7_part ∈ lw_tbl := List.mem_of_getElem? (i := 1202) rfl
set_option maxRecDepth 100000 in
theorem lm_1205 : Cond.code yX7_part cX7_part 5 (some .int) ∈ lw_tbl := List.mem_of_getElem? (i := 1205) rfl
set_option maxRecDepth 100000 in
theorem lm_1206 : Cond.constantLong RX7 330 (3) ∈ lw_tbl := List.mem_of_getElem? (i := 1206) rfl
set_option maxRecDepth 100000 in
theorem lm_782 : Cond.selects RX6 yX6_told yX6_told ∈ lw_tbl := List.mem_of_getElem? (i := 782) rfl
set_option maxRecDepth 100000 in
theorem lm_781 : Cond.instanceMethod yX6_told ∈ lw_tbl := List.mem_of_getElem? (i := 781) rfl
set_option maxRecDepth 100000 in
theorem lm_780 : Cond.methodLink RL 88 yX6_told ∈ lw_tbl := List.mem_of_getElem? (i := 780) rfl
set_option maxRecDepth 100000 in
theorem lm_783 : Cond.code yX6_told cX6_told 3 (some .int) ∈ lw_tbl := List.mem_of_getElem? (i := 783) rfl
set_option maxRecDepth 100000 in
theorem lm_233 : Cond.fieldLink RX6 181 "ShapeJudge$Book" "closed" "[Z" ∈ lw_tbl := List.mem_of_getElem? (i := 233) rfl
set_option maxRecDepth 100000 in
theorem lm_230 : Cond.fieldLink RX6 178 "ShapeJudge$Book" "partCount" "[I" ∈ lw_tbl := List.mem_of_getElem? (i := 230) rfl
set_option maxRecDepth 100000 in
theorem lm_227 : Cond.fieldLink RX6 175 "ShapeJudge$Book" "word" "[I" ∈ lw_tbl := List.mem_of_getElem? (i := 227) rfl
set_option maxRecDepth 100000 in
theorem lm_1209 : Cond.selects RX7 yX7_told yX7_told ∈ lw_tbl := List.mem_of_getElem? (i := 1209) rfl
set_option maxRecDepth 100000 in
theorem lm_1208 : Cond.instanceMethod yX7_told ∈ lw_tbl := List.mem_of_getElem? (i := 1208) rfl
set_option maxRecDepth 100000 in
theorem lm_1207 : Cond.methodLink RL 91 yX7_told ∈ lw_tbl := List.mem_of_getElem? (i := 1207) rfl
set_option maxRecDepth 100000 in
theorem lm_1210 : Cond.code yX7_told cX7_told 3 (some .int) ∈ lw_tbl := List.mem_of_getElem? (i := 1210) rfl
set_option maxRecDepth 100000 in
theorem lm_1211 : Cond.constantLong RX7 332 (2) ∈ lw_tbl := List.mem_of_getElem? (i := 1211) rfl
set_option maxRecDepth 100000 in
theorem lm_786 : Cond.selects RX6 yX6_from yX6_from ∈ lw_tbl := List.mem_of_getElem? (i := 786) rfl
set_option maxRecDepth 100000 in
theorem lm_785 : Cond.instanceMethod yX6_from ∈ lw_tbl := List.mem_of_getElem? (i := 785) rfl
set_option maxRecDepth 100000 in
theorem lm_784 : Cond.methodLink RL 92 yX6_from ∈ lw_tbl := List.mem_of_getElem? (i := 784) rfl
set_option maxRecDepth 100000 in
theorem lm_787 : Cond.code yX6_from cX6_from 5 (some .int) ∈ lw_tbl := List.mem_of_getElem? (i := 787) rfl
set_option maxRecDepth 100000 in
theorem lm_116 : Cond.fieldLink RX6 188 "ShapeJudge$Graph" "edgeTo" "[I" ∈ lw_tbl := List.mem_of_getElem? (i := 116) rfl
set_option maxRecDepth 100000 in
theorem lm_113 : Cond.fieldLink RX6 185 "ShapeJudge$Graph" "edgeName" "[I" ∈ lw_tbl := List.mem_of_getElem? (i := 113) rfl
set_option maxRecDepth 100000 in
theorem lm_1214 : Cond.selects RX7 yX7_from yX7_from ∈ lw_tbl := List.mem_of_getElem? (i := 1214) rfl
set_option maxRecDepth 100000 in
theorem lm_1213 : Cond.instanceMethod yX7_from ∈ lw_tbl := List.mem_of_getElem? (i := 1213) rfl
set_option maxRecDepth 100000 in
theorem lm_1212 : Cond.methodLink RL 95 yX7_from ∈ lw_tbl := List.mem_of_getElem? (i := 1212) rfl
set_option maxRecDepth 100000 in
theorem lm_1215 : Cond.code yX7_from cX7_from 4 (some .int) ∈ lw_tbl := List.mem_of_getElem? (i := 1215) rfl
set_option maxRecDepth 100000 in
theorem lm_790 : Cond.selects RX6 yX6_reset yX6_reset ∈ lw_tbl := List.mem_of_getElem? (i := 790) rfl
set_option maxRecDepth 100000 in
theorem lm_789 : Cond.instanceMethod yX6_reset ∈ lw_tbl := List.mem_of_getElem? (i := 789) rfl
set_option maxRecDepth 100000 in
theorem lm_788 : Cond.methodLink RL 96 yX6_reset ∈ lw_tbl := List.mem_of_getElem? (i := 788) rfl
set_option maxRecDepth 100000 in
theorem lm_791 : Cond.code yX6_reset cX6_reset 2 (some .int) ∈ lw_tbl := List.mem_of_getElem? (i := 791) rfl
set_option maxRecDepth 100000 in
theorem lm_795 : Cond.code yX1_clear cX1_clear 1 none ∈ lw_tbl := List.mem_of_getElem? (i := 795) rfl
set_option maxRecDepth 100000 in
theorem lm_794 : Cond.selects RX1 yX1_clear yX1_clear ∈ lw_tbl := List.mem_of_getElem? (i := 794) rfl
set_option maxRecDepth 100000 in
theorem lm_793 : Cond.instanceMethod yX1_clear ∈ lw_tbl := List.mem_of_getElem? (i := 793) rfl
set_option maxRecDepth 100000 in
theorem lm_792 : Cond.methodLink RX6 191 yX1_clear ∈ lw_tbl := List.mem_of_getElem? (i := 792) rfl
set_option maxRecDepth 100000 in
theorem lm_1218 : Cond.selects RX7 yX7_reset yX7_reset ∈ lw_tbl := List.mem_of_getElem? (i := 1218) rfl
set_option maxRecDepth 100000 in
theorem lm_1217 : Cond.instanceMethod yX7_reset ∈ lw_tbl := List.mem_of_getElem? (i := 1217) rfl
set_option maxRecDepth 100000 in
theorem lm_1216 : Cond.methodLink RL 99 yX7_reset ∈ lw_tbl := List.mem_of_getElem? (i := 1216) rfl
set_option maxRecDepth 100000 in
theorem lm_1219 : Cond.code yX7_reset cX7_reset 2 (some .int) ∈ lw_tbl := List.mem_of_getElem? (i := 1219) rfl
set_option maxRecDepth 100000 in
theorem lm_798 : Cond.selects RX6 yX6_count yX6_count ∈ lw_tbl := List.mem_of_getElem? (i := 798) rfl
set_option maxRecDepth 100000 in
theorem lm_797 : Cond.instanceMethod yX6_count ∈ lw_tbl := List.mem_of_getElem? (i := 797) rfl
set_option maxRecDepth 100000 in
theorem lm_796 : Cond.methodLink RL 100 yX6_count ∈ lw_tbl := List.mem_of_getElem? (i := 796) rfl
set_option maxRecDepth 100000 in
theorem lm_799 : Cond.code yX6_count cX6_count 2 (some .int) ∈ lw_tbl := List.mem_of_getElem? (i := 799) rfl
set_option maxRecDepth 100000 in
theorem lm_803 : Cond.code yX6_pairsIn cX6_pairsIn 4 (some .int) ∈ lw_tbl := List.mem_of_getElem? (i := 803) rfl
set_option maxRecDepth 100000 in
theorem lm_35 : Cond.selects RX6 yX6_pairsIn yX6_pairsIn ∈ lw_tbl := List.mem_of_getElem? (i := 35) rfl
set_option maxRecDepth 100000 in
theorem lm_802 : Cond.instanceMethod yX6_pairsIn ∈ lw_tbl := List.mem_of_getElem? (i := 802) rfl
set_option maxRecDepth 100000 in
theorem lm_800 : Cond.methodLink RX6 194 yX6_pairsIn ∈ lw_tbl := List.mem_of_getElem? (i := 800) rfl
set_option maxRecDepth 100000 in
theorem lm_1222 : Cond.selects RX7 yX7_count yX7_count ∈ lw_tbl := List.mem_of_getElem? (i := 1222) rfl
set_option maxRecDepth 100000 in
theorem lm_1221 : Cond.instanceMethod yX7_count ∈ lw_tbl := List.mem_of_getElem? (i := 1221) rfl
set_option maxRecDepth 100000 in
theorem lm_1220 : Cond.methodLink RL 103 yX7_count ∈ lw_tbl := List.mem_of_getElem? (i := 1220) rfl
set_option maxRecDepth 100000 in
theorem lm_1223 : Cond.code yX7_count cX7_count 6 (some .int) ∈ lw_tbl := List.mem_of_getElem? (i := 1223) rfl
set_option maxRecDepth 100000 in
theorem lm_89 : Cond.code yX6_init cX6_init 1 none ∈ lw_tbl := List.mem_of_getElem? (i := 89) rfl
set_option maxRecDepth 100000 in
theorem lm_291 : Cond.instantiable RX2 10 ∈ lw_tbl := List.mem_of_getElem? (i := 291) rfl
set_option maxRecDepth 100000 in
theorem lm_290 : Cond.classLink RX6 42 RX2 ∈ lw_tbl := List.mem_of_getElem? (i := 290) rfl
set_option maxRecDepth 100000 in
theorem lm_215 : Cond.instantiable RX0 16 ∈ lw_tbl := List.mem_of_getElem? (i := 215) rfl
set_option maxRecDepth 100000 in
theorem lm_214 : Cond.classLink RX6 32 RX0 ∈ lw_tbl := List.mem_of_getElem? (i := 214) rfl
set_option maxRecDepth 100000 in
theorem lm_151 : Cond.instantiable RX4 10 ∈ lw_tbl := List.mem_of_getElem? (i := 151) rfl
set_option maxRecDepth 100000 in
theorem lm_150 : Cond.classLink RX6 23 RX4 ∈ lw_tbl := List.mem_of_getElem? (i := 150) rfl
set_option maxRecDepth 100000 in
theorem lm_135 : Cond.instantiable RX3 2 ∈ lw_tbl := List.mem_of_getElem? (i := 135) rfl
set_option maxRecDepth 100000 in
theorem lm_134 : Cond.classLink RX6 16 RX3 ∈ lw_tbl := List.mem_of_getElem? (i := 134) rfl
set_option maxRecDepth 100000 in
theorem lm_94 : Cond.instantiable RX1 7 ∈ lw_tbl := List.mem_of_getElem? (i := 94) rfl
set_option maxRecDepth 100000 in
theorem lm_93 : Cond.classLink RX6 7 RX1 ∈ lw_tbl := List.mem_of_getElem? (i := 93) rfl
set_option maxRecDepth 100000 in
theorem lm_92 : Cond.code objectInit ⟨#[0xb1]⟩ 1 none ∈ lw_tbl := List.mem_of_getElem? (i := 92) rfl
set_option maxRecDepth 100000 in
theorem lm_91 : Cond.instanceMethod objectInit ∈ lw_tbl := List.mem_of_getElem? (i := 91) rfl
set_option maxRecDepth 100000 in
theorem lm_90 : Cond.methodLink RX6 1 objectInit ∈ lw_tbl := List.mem_of_getElem? (i := 90) rfl
set_option maxRecDepth 100000 in
theorem lm_157 : Cond.instantiable RX5 5 ∈ lw_tbl := List.mem_of_getElem? (i := 157) rfl
set_option maxRecDepth 100000 in
theorem lm_156 : Cond.classLink RX4 9 RX5 ∈ lw_tbl := List.mem_of_getElem? (i := 156) rfl
set_option maxRecDepth 100000 in
theorem lm_155 : Cond.methodLink RX4 3 objectInit ∈ lw_tbl := List.mem_of_getElem? (i := 155) rfl
set_option maxRecDepth 100000 in
theorem lm_154 : Cond.code yX4_init cX4_init 2 none ∈ lw_tbl := List.mem_of_getElem? (i := 154) rfl
set_option maxRecDepth 100000 in
theorem lm_153 : Cond.instanceMethod yX4_init ∈ lw_tbl := List.mem_of_getElem? (i := 153) rfl
set_option maxRecDepth 100000 in
theorem lm_152 : Cond.methodLink RX6 25 yX4_init ∈ lw_tbl := List.mem_of_getElem? (i := 152) rfl
set_option maxRecDepth 100000 in
theorem lm_149 : Cond.arrayClass .byte ∈ lw_tbl := List.mem_of_getElem? (i := 149) rfl
set_option maxRecDepth 100000 in
theorem lm_139 : Cond.methodLink RX3 3 objectInit ∈ lw_tbl := List.mem_of_getElem? (i := 139) rfl
set_option maxRecDepth 100000 in
theorem lm_138 : Cond.code yX3_init cX3_init 1 none ∈ lw_tbl := List.mem_of_getElem? (i := 138) rfl
set_option maxRecDepth 100000 in
theorem lm_137 : Cond.instanceMethod yX3_init ∈ lw_tbl := List.mem_of_getElem? (i := 137) rfl
set_option maxRecDepth 100000 in
theorem lm_133 : Cond.arrayClass .int ∈ lw_tbl := List.mem_of_getElem? (i := 133) rfl
set_option maxRecDepth 100000 in
theorem lm_132 : Cond.arrayClass .boolean ∈ lw_tbl := List.mem_of_getElem? (i := 132) rfl
set_option maxRecDepth 100000 in
theorem lm_98 : Cond.methodLink RX1 3 objectInit ∈ lw_tbl := List.mem_of_getElem? (i := 98) rfl
set_option maxRecDepth 100000 in
theorem lm_97 : Cond.code yX1_init cX1_init 1 none ∈ lw_tbl := List.mem_of_getElem? (i := 97) rfl
set_option maxRecDepth 100000 in
theorem lm_96 : Cond.instanceMethod yX1_init ∈ lw_tbl := List.mem_of_getElem? (i := 96) rfl
set_option maxRecDepth 100000 in
theorem lm_294 : Cond.code yX2_init cX2_init 4 none ∈ lw_tbl := List.mem_of_getElem? (i := 294) rfl
set_option maxRecDepth 100000 in
theorem lm_293 : Cond.instanceMethod yX2_init ∈ lw_tbl := List.mem_of_getElem? (i := 293) rfl
set_option maxRecDepth 100000 in
theorem lm_292 : Cond.methodLink RX6 44 yX2_init ∈ lw_tbl := List.mem_of_getElem? (i := 292) rfl
set_option maxRecDepth 100000 in
theorem lm_219 : Cond.methodLink RX0 3 objectInit ∈ lw_tbl := List.mem_of_getElem? (i := 219) rfl
set_option maxRecDepth 100000 in
theorem lm_218 : Cond.code yX0_init cX0_init 1 none ∈ lw_tbl := List.mem_of_getElem? (i := 218) rfl
set_option maxRecDepth 100000 in
theorem lm_217 : Cond.instanceMethod yX0_init ∈ lw_tbl := List.mem_of_getElem? (i := 217) rfl
set_option maxRecDepth 100000 in
theorem lm_161 : Cond.methodLink RX5 1 objectInit ∈ lw_tbl := List.mem_of_getElem? (i := 161) rfl
set_option maxRecDepth 100000 in
theorem lm_160 : Cond.code yX5_init cX5_init 2 none ∈ lw_tbl := List.mem_of_getElem? (i := 160) rfl
set_option maxRecDepth 100000 in
theorem lm_159 : Cond.instanceMethod yX5_init ∈ lw_tbl := List.mem_of_getElem? (i := 159) rfl
set_option maxRecDepth 100000 in
theorem lm_158 : Cond.methodLink RX4 11 yX5_init ∈ lw_tbl := List.mem_of_getElem? (i := 158) rfl
set_option maxRecDepth 100000 in
theorem lm_295 : Cond.methodLink RX2 3 objectInit ∈ lw_tbl := List.mem_of_getElem? (i := 295) rfl
set_option maxRecDepth 100000 in
theorem lm_808 : Cond.code yX7_init cX7_init 1 none ∈ lw_tbl := List.mem_of_getElem? (i := 808) rfl
set_option maxRecDepth 100000 in
theorem lm_809 : Cond.methodLink RX7 1 objectInit ∈ lw_tbl := List.mem_of_getElem? (i := 809) rfl
set_option maxRecDepth 100000 in
theorem gLi_X6 : GoodIn lw_tbl wsX6_init := goodIn_sub (List.forall_mem_cons.mpr ⟨lm_89, (List.forall_mem_append.mpr ⟨(List.forall_mem_append.mpr ⟨(List.forall_mem_append.mpr ⟨(List.forall_mem_append.mpr ⟨(List.forall_mem_append.mpr ⟨(List.forall_mem_append.mpr ⟨(List.forall_mem_append.mpr ⟨(List.forall_mem_append.mpr ⟨(show ∀ w ∈ wsX6_init_r1, w ∈ lw_tbl from (List.forall_mem_cons.mpr ⟨lm_90, (List.forall_mem_cons.mpr ⟨lm_91, (List.forall_mem_cons.mpr ⟨lm_92, (List.forall_mem_cons.mpr ⟨lm_93, (List.forall_mem_cons.mpr ⟨lm_94, (List.forall_mem_cons.mpr ⟨lm_72, (List.forall_mem_cons.mpr ⟨lm_329, (List.forall_mem_cons.mpr ⟨lm_134, (List.forall_mem_cons.mpr ⟨lm_135, (List.forall_mem_cons.mpr ⟨lm_73, (List.forall_mem_cons.mpr ⟨lm_330, (List.forall_mem_cons.mpr ⟨lm_150, (List.forall_mem_cons.mpr ⟨lm_151, (List.forall_mem_cons.mpr ⟨lm_74, (List.forall_mem_cons.mpr ⟨lm_331, (List.forall_mem_cons.mpr ⟨lm_214, (List.forall_mem_cons.mpr ⟨lm_215, (List.forall_mem_cons.mpr ⟨lm_76, (List.forall_mem_cons.mpr ⟨lm_333, (List.forall_mem_cons.mpr ⟨lm_334, (List.forall_mem_cons.mpr ⟨lm_290, (List.forall_mem_cons.mpr ⟨lm_291, (List.forall_mem_cons.mpr ⟨lm_77, (List.forall_mem_cons.mpr ⟨lm_332, (fun _ h => absurd h List.not_mem_nil)⟩)⟩)⟩)⟩)⟩)⟩)⟩)⟩)⟩)⟩)⟩)⟩)⟩)⟩)⟩)⟩)⟩)⟩)⟩)⟩)⟩)⟩)⟩)⟩)), (List.forall_mem_append.mpr ⟨(show ∀ w ∈ wsX6_init_r2, w ∈ lw_tbl from (List.forall_mem_cons.mpr ⟨lm_335, (List.forall_mem_cons.mpr ⟨lm_96, (List.forall_mem_cons.mpr ⟨lm_97, (List.forall_mem_cons.mpr ⟨lm_98, (List.forall_mem_cons.mpr ⟨lm_132, (List.forall_mem_cons.mpr ⟨lm_104, (List.forall_mem_cons.mpr ⟨lm_133, (List.forall_mem_cons.mpr ⟨lm_106, (List.forall_mem_cons.mpr ⟨lm_108, (List.forall_mem_cons.mpr ⟨lm_111, (List.forall_mem_cons.mpr ⟨lm_114, (List.forall_mem_cons.mpr ⟨lm_137, (List.forall_mem_cons.mpr ⟨lm_138, (List.forall_mem_cons.mpr ⟨lm_139, (List.forall_mem_cons.mpr ⟨lm_149, (List.forall_mem_cons.mpr ⟨lm_140, (List.forall_mem_cons.mpr ⟨lm_152, (List.forall_mem_cons.mpr ⟨lm_153, (List.forall_mem_cons.mpr ⟨lm_154, (List.forall_mem_cons.mpr ⟨lm_155, (List.forall_mem_cons.mpr ⟨lm_156, (List.forall_mem_cons.mpr ⟨lm_157, (List.forall_mem_cons.mpr ⟨lm_75, (List.forall_mem_cons.mpr ⟨lm_181, (fun _ h => absurd h List.not_mem_nil)⟩)⟩)⟩)⟩)⟩)⟩)⟩)⟩)⟩)⟩)⟩)⟩)⟩)⟩)⟩)⟩)⟩)⟩)⟩)⟩)⟩)⟩)⟩)⟩)), (List.forall_mem_append.mpr ⟨(show ∀ w ∈ wsX6_init_r3, w ∈ lw_tbl from (List.forall_mem_cons.mpr ⟨lm_158, (List.forall_mem_cons.mpr ⟨lm_159, (List.forall_mem_cons.mpr ⟨lm_160, (List.forall_mem_cons.mpr ⟨lm_161, (List.forall_mem_cons.mpr ⟨lm_162, (List.forall_mem_cons.mpr ⟨lm_217, (List.forall_mem_cons.mpr ⟨lm_218, (List.forall_mem_cons.mpr ⟨lm_219, (List.forall_mem_cons.mpr ⟨lm_226, (List.forall_mem_cons.mpr ⟨lm_228, (List.forall_mem_cons.mpr ⟨lm_231, (List.forall_mem_cons.mpr ⟨lm_234, (List.forall_mem_cons.mpr ⟨lm_236, (List.forall_mem_cons.mpr ⟨lm_238, (List.forall_mem_cons.mpr ⟨lm_240, (List.forall_mem_cons.mpr ⟨lm_242, (List.forall_mem_cons.mpr ⟨lm_244, (List.forall_mem_cons.mpr ⟨lm_247, (List.forall_mem_cons.mpr ⟨lm_250, (List.forall_mem_cons.mpr ⟨lm_253, (List.forall_mem_cons.mpr ⟨lm_256, (List.forall_mem_cons.mpr ⟨lm_292, (List.forall_mem_cons.mpr ⟨lm_293, (List.forall_mem_cons.mpr ⟨lm_294, (fun _ h => absurd h List.not_mem_nil)⟩)⟩)⟩)⟩)⟩)⟩)⟩)⟩)⟩)⟩)⟩)⟩)⟩)⟩)⟩)⟩)⟩)⟩)⟩)⟩)⟩)⟩)⟩)⟩)), (show ∀ w ∈ wsX6_init_r4, w ∈ lw_tbl from (List.forall_mem_cons.mpr ⟨lm_295, (List.forall_mem_cons.mpr ⟨lm_298, (List.forall_mem_cons.mpr ⟨lm_300, (List.forall_mem_cons.mpr ⟨lm_304, (List.forall_mem_cons.mpr ⟨lm_305, (List.forall_mem_cons.mpr ⟨lm_296, (List.forall_mem_cons.mpr ⟨lm_297, (fun _ h => absurd h List.not_mem_nil)⟩)⟩)⟩)⟩)⟩)⟩)⟩))⟩)⟩)⟩), iw1⟩), iw6⟩), iw3⟩), iw4⟩), iw0⟩), iw2⟩), iw5⟩)⟩) (by decide +kernel)
set_option maxRecDepth 100000 in
theorem gLi_X7 : GoodIn lw_tbl wsX7_init := goodIn_sub (List.forall_mem_cons.mpr ⟨lm_808, (List.forall_mem_append.mpr ⟨(List.forall_mem_append.mpr ⟨(show ∀ w ∈ wsX7_init_r1, w ∈ lw_tbl from (List.forall_mem_cons.mpr ⟨lm_809, (List.forall_mem_cons.mpr ⟨lm_91, (List.forall_mem_cons.mpr ⟨lm_92, (List.forall_mem_cons.mpr ⟨lm_132, (List.forall_mem_cons.mpr ⟨lm_811, (List.forall_mem_cons.mpr ⟨lm_133, (List.forall_mem_cons.mpr ⟨lm_812, (List.forall_mem_cons.mpr ⟨lm_813, (List.forall_mem_cons.mpr ⟨lm_814, (List.forall_mem_cons.mpr ⟨lm_815, (List.forall_mem_cons.mpr ⟨lm_818, (List.forall_mem_cons.mpr ⟨lm_819, (List.forall_mem_cons.mpr ⟨lm_820, (List.forall_mem_cons.mpr ⟨lm_821, (List.forall_mem_cons.mpr ⟨lm_822, (List.forall_mem_cons.mpr ⟨lm_823, (List.forall_mem_cons.mpr ⟨lm_824, (List.forall_mem_cons.mpr ⟨lm_825, (List.forall_mem_cons.mpr ⟨lm_826, (List.forall_mem_cons.mpr ⟨lm_827, (List.forall_mem_cons.mpr ⟨lm_828, (List.forall_mem_cons.mpr ⟨lm_829, (List.forall_mem_cons.mpr ⟨lm_830, (List.forall_mem_cons.mpr ⟨lm_832, (fun _ h => absurd h List.not_mem_nil)⟩)⟩)⟩)⟩)⟩)⟩)⟩)⟩)⟩)⟩)⟩)⟩)⟩)⟩)⟩)⟩)⟩)⟩)⟩)⟩)⟩)⟩)⟩)⟩)), (show ∀ w ∈ wsX7_init_r2, w ∈ lw_tbl from (List.forall_mem_cons.mpr ⟨lm_833, (List.forall_mem_cons.mpr ⟨lm_834, (List.forall_mem_cons.mpr ⟨lm_835, (List.forall_mem_cons.mpr ⟨lm_836, (List.forall_mem_cons.mpr ⟨lm_837, (List.forall_mem_cons.mpr ⟨lm_838, (List.forall_mem_cons.mpr ⟨lm_839, (List.forall_mem_cons.mpr ⟨lm_840, (List.forall_mem_cons.mpr ⟨lm_841, (List.forall_mem_cons.mpr ⟨lm_842, (List.forall_mem_cons.mpr ⟨lm_843, (List.forall_mem_cons.mpr ⟨lm_844, (List.forall_mem_cons.mpr ⟨lm_845, (List.forall_mem_cons.mpr ⟨lm_846, (List.forall_mem_cons.mpr ⟨lm_855, (List.forall_mem_cons.mpr ⟨lm_856, (List.forall_mem_cons.mpr ⟨lm_857, (List.forall_mem_cons.mpr ⟨lm_858, (List.forall_mem_cons.mpr ⟨lm_859, (List.forall_mem_cons.mpr ⟨lm_860, (List.forall_mem_cons.mpr ⟨lm_861, (List.forall_mem_cons.mpr ⟨lm_862, (List.forall_mem_cons.mpr ⟨lm_865, (List.forall_mem_cons.mpr ⟨lm_866, (fun _ h => absurd h List.not_mem_nil)⟩)⟩)⟩)⟩)⟩)⟩)⟩)⟩)⟩)⟩)⟩)⟩)⟩)⟩)⟩)⟩)⟩)⟩)⟩)⟩)⟩)⟩)⟩)⟩))⟩), iw7⟩)⟩) (by decide +kernel)
set_option maxRecDepth 100000 in
theorem gLw_X6_node : GoodIn lw_tbl (wsV RL 13 RX6 yX6_node wsX6_node) := goodIn_app (goodIn_sub (List.forall_mem_cons.mpr ⟨lm_351, (List.forall_mem_cons.mpr ⟨lm_352, (List.forall_mem_cons.mpr ⟨lm_353, (List.forall_mem_cons.mpr ⟨lm_71, (fun _ h => absurd h List.not_mem_nil)⟩)⟩)⟩)⟩) (by decide +kernel)) (goodIn_sub (List.forall_mem_cons.mpr ⟨lm_354, (List.forall_mem_append.mpr ⟨(List.forall_mem_append.mpr ⟨(List.forall_mem_append.mpr ⟨(List.forall_mem_cons.mpr ⟨lm_329, (List.forall_mem_cons.mpr ⟨lm_99, (List.forall_mem_cons.mpr ⟨lm_332, (List.forall_mem_cons.mpr ⟨lm_355, (List.forall_mem_cons.mpr ⟨lm_356, (List.forall_mem_cons.mpr ⟨lm_357, (List.forall_mem_cons.mpr ⟨lm_77, (List.forall_mem_cons.mpr ⟨lm_358, (List.forall_mem_cons.mpr ⟨lm_302, (List.forall_mem_cons.mpr ⟨lm_303, (List.forall_mem_cons.mpr ⟨lm_359, (List.forall_mem_cons.mpr ⟨lm_360, (List.forall_mem_cons.mpr ⟨lm_361, (List.forall_mem_cons.mpr ⟨lm_72, (List.forall_mem_cons.mpr ⟨lm_362, (List.forall_mem_cons.mpr ⟨lm_100, (List.forall_mem_cons.mpr ⟨lm_108, (List.forall_mem_cons.mpr ⟨lm_363, (List.forall_mem_cons.mpr ⟨lm_364, (List.forall_mem_cons.mpr ⟨lm_365, (List.forall_mem_cons.mpr ⟨lm_366, (List.forall_mem_cons.mpr ⟨lm_104, (List.forall_mem_cons.mpr ⟨lm_106, (fun _ h => absurd h List.not_mem_nil)⟩)⟩)⟩)⟩)⟩)⟩)⟩)⟩)⟩)⟩)⟩)⟩)⟩)⟩)⟩)⟩)⟩)⟩)⟩)⟩)⟩)⟩)⟩), iw6⟩), iw1⟩), iw2⟩)⟩) (by decide +kernel))
set_option maxRecDepth 100000 in
theorem gLw_X7_node : GoodIn lw_tbl (wsV RL 17 RX7 yX7_node wsX7_node) := goodIn_app (goodIn_sub (List.forall_mem_cons.mpr ⟨lm_982, (List.forall_mem_cons.mpr ⟨lm_983, (List.forall_mem_cons.mpr ⟨lm_984, (List.forall_mem_cons.mpr ⟨lm_78, (fun _ h => absurd h List.not_mem_nil)⟩)⟩)⟩)⟩) (by decide +kernel)) (goodIn_sub (List.forall_mem_cons.mpr ⟨lm_985, (List.forall_mem_append.mpr ⟨(List.forall_mem_cons.mpr ⟨lm_810, (List.forall_mem_cons.mpr ⟨lm_811, (List.forall_mem_cons.mpr ⟨lm_812, (List.forall_mem_cons.mpr ⟨lm_813, (List.forall_mem_cons.mpr ⟨lm_816, (fun _ h => absurd h List.not_mem_nil)⟩)⟩)⟩)⟩)⟩), iw7⟩)⟩) (by decide +kernel))
set_option maxRecDepth 100000 in
theorem gLw_X6_value : GoodIn lw_tbl (wsV RL 18 RX6 yX6_value wsX6_value) := goodIn_app (goodIn_sub (List.forall_mem_cons.mpr ⟨lm_367, (List.forall_mem_cons.mpr ⟨lm_368, (List.forall_mem_cons.mpr ⟨lm_369, (List.forall_mem_cons.mpr ⟨lm_71, (fun _ h => absurd h List.not_mem_nil)⟩)⟩)⟩)⟩) (by decide +kernel)) (goodIn_sub (List.forall_mem_cons.mpr ⟨lm_370, (List.forall_mem_append.mpr ⟨(List.forall_mem_append.mpr ⟨(List.forall_mem_append.mpr ⟨(List.forall_mem_cons.mpr ⟨lm_329, (List.forall_mem_cons.mpr ⟨lm_332, (List.forall_mem_cons.mpr ⟨lm_371, (List.forall_mem_cons.mpr ⟨lm_372, (List.forall_mem_cons.mpr ⟨lm_373, (List.forall_mem_cons.mpr ⟨lm_72, (List.forall_mem_cons.mpr ⟨lm_374, (List.forall_mem_cons.mpr ⟨lm_100, (List.forall_mem_cons.mpr ⟨lm_355, (List.forall_mem_cons.mpr ⟨lm_356, (List.forall_mem_cons.mpr ⟨lm_357, (List.forall_mem_cons.mpr ⟨lm_77, (List.forall_mem_cons.mpr ⟨lm_358, (List.forall_mem_cons.mpr ⟨lm_302, (List.forall_mem_cons.mpr ⟨lm_303, (List.forall_mem_cons.mpr ⟨lm_375, (List.forall_mem_cons.mpr ⟨lm_364, (List.forall_mem_cons.mpr ⟨lm_365, (List.forall_mem_cons.mpr ⟨lm_366, (List.forall_mem_cons.mpr ⟨lm_104, (List.forall_mem_cons.mpr ⟨lm_106, (fun _ h => absurd h List.not_mem_nil)⟩)⟩)⟩)⟩)⟩)⟩)⟩)⟩)⟩)⟩)⟩)⟩)⟩)⟩)⟩)⟩)⟩)⟩)⟩)⟩)⟩), iw6⟩), iw1⟩), iw2⟩)⟩) (by decide +kernel))
set_option maxRecDepth 100000 in
theorem gLw_X7_value : GoodIn lw_tbl (wsV RL 22 RX7 yX7_value wsX7_value) := goodIn_app (goodIn_sub (List.forall_mem_cons.mpr ⟨lm_986, (List.forall_mem_cons.mpr ⟨lm_987, (List.forall_mem_cons.mpr ⟨lm_988, (List.forall_mem_cons.mpr ⟨lm_78, (fun _ h => absurd h List.not_mem_nil)⟩)⟩)⟩)⟩) (by decide +kernel)) (goodIn_sub (List.forall_mem_cons.mpr ⟨lm_989, (List.forall_mem_append.mpr ⟨(List.forall_mem_cons.mpr ⟨lm_811, (List.forall_mem_cons.mpr ⟨lm_812, (List.forall_mem_cons.mpr ⟨lm_816, (List.forall_mem_cons.mpr ⟨lm_990, (List.forall_mem_cons.mpr ⟨lm_992, (List.forall_mem_cons.mpr ⟨lm_36, (List.forall_mem_cons.mpr ⟨lm_78, (List.forall_mem_cons.mpr ⟨lm_993, (List.forall_mem_cons.mpr ⟨lm_810, (List.forall_mem_cons.mpr ⟨lm_994, (List.forall_mem_cons.mpr ⟨lm_995, (List.forall_mem_cons.mpr ⟨lm_996, (fun _ h => absurd h List.not_mem_nil)⟩)⟩)⟩)⟩)⟩)⟩)⟩)⟩)⟩)⟩)⟩)⟩), iw7⟩)⟩) (by decide +kernel))
set_option maxRecDepth 100000 in
theorem gLw_X6_edge : GoodIn lw_tbl (wsV RL 23 RX6 yX6_edge wsX6_edge) := goodIn_app (goodIn_sub (List.forall_mem_cons.mpr ⟨lm_376, (List.forall_mem_cons.mpr ⟨lm_377, (List.forall_mem_cons.mpr ⟨lm_378, (List.forall_mem_cons.mpr ⟨lm_71, (fun _ h => absurd h List.not_mem_nil)⟩)⟩)⟩)⟩) (by decide +kernel)) (goodIn_sub (List.forall_mem_cons.mpr ⟨lm_379, (List.forall_mem_append.mpr ⟨(List.forall_mem_append.mpr ⟨(List.forall_mem_append.mpr ⟨(List.forall_mem_append.mpr ⟨(show ∀ w ∈ wsX6_edge_r1, w ∈ lw_tbl from (List.forall_mem_cons.mpr ⟨lm_329, (List.forall_mem_cons.mpr ⟨lm_102, (List.forall_mem_cons.mpr ⟨lm_109, (List.forall_mem_cons.mpr ⟨lm_332, (List.forall_mem_cons.mpr ⟨lm_380, (List.forall_mem_cons.mpr ⟨lm_381, (List.forall_mem_cons.mpr ⟨lm_382, (List.forall_mem_cons.mpr ⟨lm_72, (List.forall_mem_cons.mpr ⟨lm_383, (List.forall_mem_cons.mpr ⟨lm_384, (List.forall_mem_cons.mpr ⟨lm_372, (List.forall_mem_cons.mpr ⟨lm_373, (List.forall_mem_cons.mpr ⟨lm_374, (List.forall_mem_cons.mpr ⟨lm_100, (List.forall_mem_cons.mpr ⟨lm_385, (List.forall_mem_cons.mpr ⟨lm_386, (List.forall_mem_cons.mpr ⟨lm_387, (List.forall_mem_cons.mpr ⟨lm_388, (List.forall_mem_cons.mpr ⟨lm_108, (List.forall_mem_cons.mpr ⟨lm_111, (List.forall_mem_cons.mpr ⟨lm_114, (List.forall_mem_cons.mpr ⟨lm_355, (List.forall_mem_cons.mpr ⟨lm_356, (List.forall_mem_cons.mpr ⟨lm_357, (fun _ h => absurd h List.not_mem_nil)⟩)⟩)⟩)⟩)⟩)⟩)⟩)⟩)⟩)⟩)⟩)⟩)⟩)⟩)⟩)⟩)⟩)⟩)⟩)⟩)⟩)⟩)⟩)⟩)), (show ∀ w ∈ wsX6_edge_r2, w ∈ lw_tbl from (List.forall_mem_cons.mpr ⟨lm_77, (List.forall_mem_cons.mpr ⟨lm_358, (List.forall_mem_cons.mpr ⟨lm_302, (List.forall_mem_cons.mpr ⟨lm_303, (List.forall_mem_cons.mpr ⟨lm_389, (List.forall_mem_cons.mpr ⟨lm_390, (List.forall_mem_cons.mpr ⟨lm_391, (List.forall_mem_cons.mpr ⟨lm_392, (List.forall_mem_cons.mpr ⟨lm_103, (List.forall_mem_cons.mpr ⟨lm_393, (List.forall_mem_cons.mpr ⟨lm_395, (List.forall_mem_cons.mpr ⟨lm_0, (List.forall_mem_cons.mpr ⟨lm_396, (fun _ h => absurd h List.not_mem_nil)⟩)⟩)⟩)⟩)⟩)⟩)⟩)⟩)⟩)⟩)⟩)⟩)⟩))⟩), iw6⟩), iw1⟩), iw2⟩)⟩) (by decide +kernel))
set_option maxRecDepth 100000 in
theorem gLw_X7_edge : GoodIn lw_tbl (wsV RL 27 RX7 yX7_edge wsX7_edge) := goodIn_app (goodIn_sub (List.forall_mem_cons.mpr ⟨lm_997, (List.forall_mem_cons.mpr ⟨lm_998, (List.forall_mem_cons.mpr ⟨lm_999, (List.forall_mem_cons.mpr ⟨lm_78, (fun _ h => absurd h List.not_mem_nil)⟩)⟩)⟩)⟩) (by decide +kernel)) (goodIn_sub (List.forall_mem_cons.mpr ⟨lm_1000, (List.forall_mem_append.mpr ⟨(List.forall_mem_append.mpr ⟨(show ∀ w ∈ wsX7_edge_r1, w ∈ lw_tbl from (List.forall_mem_cons.mpr ⟨lm_1001, (List.forall_mem_cons.mpr ⟨lm_813, (List.forall_mem_cons.mpr ⟨lm_814, (List.forall_mem_cons.mpr ⟨lm_815, (List.forall_mem_cons.mpr ⟨lm_816, (List.forall_mem_cons.mpr ⟨lm_990, (List.forall_mem_cons.mpr ⟨lm_992, (List.forall_mem_cons.mpr ⟨lm_36, (List.forall_mem_cons.mpr ⟨lm_78, (List.forall_mem_cons.mpr ⟨lm_993, (List.forall_mem_cons.mpr ⟨lm_810, (List.forall_mem_cons.mpr ⟨lm_994, (List.forall_mem_cons.mpr ⟨lm_995, (List.forall_mem_cons.mpr ⟨lm_996, (List.forall_mem_cons.mpr ⟨lm_1002, (List.forall_mem_cons.mpr ⟨lm_1004, (List.forall_mem_cons.mpr ⟨lm_37, (List.forall_mem_cons.mpr ⟨lm_1005, (List.forall_mem_cons.mpr ⟨lm_1006, (List.forall_mem_cons.mpr ⟨lm_1008, (List.forall_mem_cons.mpr ⟨lm_38, (List.forall_mem_cons.mpr ⟨lm_1009, (List.forall_mem_cons.mpr ⟨lm_1010, (List.forall_mem_cons.mpr ⟨lm_1012, (fun _ h => absurd h List.not_mem_nil)⟩)⟩)⟩)⟩)⟩)⟩)⟩)⟩)⟩)⟩)⟩)⟩)⟩)⟩)⟩)⟩)⟩)⟩)⟩)⟩)⟩)⟩)⟩)⟩)), (show ∀ w ∈ wsX7_edge_r2, w ∈ lw_tbl from (List.forall_mem_cons.mpr ⟨lm_39, (List.forall_mem_cons.mpr ⟨lm_1013, (fun _ h => absurd h List.not_mem_nil)⟩)⟩))⟩), iw7⟩)⟩) (by decide +kernel))
set_option maxRecDepth 100000 in
theorem gLw_X6_cut : GoodIn lw_tbl (wsV RL 28 RX6 yX6_cut wsX6_cut) := goodIn_app (goodIn_sub (List.forall_mem_cons.mpr ⟨lm_397, (List.forall_mem_cons.mpr ⟨lm_398, (List.forall_mem_cons.mpr ⟨lm_399, (List.forall_mem_cons.mpr ⟨lm_71, (fun _ h => absurd h List.not_mem_nil)⟩)⟩)⟩)⟩) (by decide +kernel)) (goodIn_sub (List.forall_mem_cons.mpr ⟨lm_400, (List.forall_mem_append.mpr ⟨(List.forall_mem_append.mpr ⟨(List.forall_mem_append.mpr ⟨(List.forall_mem_append.mpr ⟨(show ∀ w ∈ wsX6_cut_r1, w ∈ lw_tbl from (List.forall_mem_cons.mpr ⟨lm_329, (List.forall_mem_cons.mpr ⟨lm_332, (List.forall_mem_cons.mpr ⟨lm_102, (List.forall_mem_cons.mpr ⟨lm_380, (List.forall_mem_cons.mpr ⟨lm_381, (List.forall_mem_cons.mpr ⟨lm_382, (List.forall_mem_cons.mpr ⟨lm_72, (List.forall_mem_cons.mpr ⟨lm_383, (List.forall_mem_cons.mpr ⟨lm_384, (List.forall_mem_cons.mpr ⟨lm_372, (List.forall_mem_cons.mpr ⟨lm_373, (List.forall_mem_cons.mpr ⟨lm_374, (List.forall_mem_cons.mpr ⟨lm_100, (List.forall_mem_cons.mpr ⟨lm_385, (List.forall_mem_cons.mpr ⟨lm_386, (List.forall_mem_cons.mpr ⟨lm_387, (List.forall_mem_cons.mpr ⟨lm_388, (List.forall_mem_cons.mpr ⟨lm_108, (List.forall_mem_cons.mpr ⟨lm_111, (List.forall_mem_cons.mpr ⟨lm_114, (List.forall_mem_cons.mpr ⟨lm_355, (List.forall_mem_cons.mpr ⟨lm_356, (List.forall_mem_cons.mpr ⟨lm_357, (List.forall_mem_cons.mpr ⟨lm_77, (fun _ h => absurd h List.not_mem_nil)⟩)⟩)⟩)⟩)⟩)⟩)⟩)⟩)⟩)⟩)⟩)⟩)⟩)⟩)⟩)⟩)⟩)⟩)⟩)⟩)⟩)⟩)⟩)⟩)), (show ∀ w ∈ wsX6_cut_r2, w ∈ lw_tbl from (List.forall_mem_cons.mpr ⟨lm_358, (List.forall_mem_cons.mpr ⟨lm_302, (List.forall_mem_cons.mpr ⟨lm_303, (List.forall_mem_cons.mpr ⟨lm_401, (List.forall_mem_cons.mpr ⟨lm_402, (List.forall_mem_cons.mpr ⟨lm_403, (List.forall_mem_cons.mpr ⟨lm_404, (List.forall_mem_cons.mpr ⟨lm_103, (fun _ h => absurd h List.not_mem_nil)⟩)⟩)⟩)⟩)⟩)⟩)⟩)⟩))⟩), iw6⟩), iw1⟩), iw2⟩)⟩) (by decide +kernel))
set_option maxRecDepth 100000 in
theorem gLw_X7_cut : GoodIn lw_tbl (wsV RL 31 RX7 yX7_cut wsX7_cut) := goodIn_app (goodIn_sub (List.forall_mem_cons.mpr ⟨lm_1014, (List.forall_mem_cons.mpr ⟨lm_1015, (List.forall_mem_cons.mpr ⟨lm_1016, (List.forall_mem_cons.mpr ⟨lm_78, (fun _ h => absurd h List.not_mem_nil)⟩)⟩)⟩)⟩) (by decide +kernel)) (goodIn_sub (List.forall_mem_cons.mpr ⟨lm_1017, (List.forall_mem_append.mpr ⟨(List.forall_mem_append.mpr ⟨(show ∀ w ∈ wsX7_cut_r1, w ∈ lw_tbl from (List.forall_mem_cons.mpr ⟨lm_1001, (List.forall_mem_cons.mpr ⟨lm_813, (List.forall_mem_cons.mpr ⟨lm_814, (List.forall_mem_cons.mpr ⟨lm_815, (List.forall_mem_cons.mpr ⟨lm_816, (List.forall_mem_cons.mpr ⟨lm_990, (List.forall_mem_cons.mpr ⟨lm_992, (List.forall_mem_cons.mpr ⟨lm_36, (List.forall_mem_cons.mpr ⟨lm_78, (List.forall_mem_cons.mpr ⟨lm_993, (List.forall_mem_cons.mpr ⟨lm_810, (List.forall_mem_cons.mpr ⟨lm_994, (List.forall_mem_cons.mpr ⟨lm_995, (List.forall_mem_cons.mpr ⟨lm_996, (List.forall_mem_cons.mpr ⟨lm_1002, (List.forall_mem_cons.mpr ⟨lm_1004, (List.forall_mem_cons.mpr ⟨lm_37, (List.forall_mem_cons.mpr ⟨lm_1005, (List.forall_mem_cons.mpr ⟨lm_1006, (List.forall_mem_cons.mpr ⟨lm_1008, (List.forall_mem_cons.mpr ⟨lm_38, (List.forall_mem_cons.mpr ⟨lm_1009, (List.forall_mem_cons.mpr ⟨lm_1010, (List.forall_mem_cons.mpr ⟨lm_1012, (fun _ h => absurd h List.not_mem_nil)⟩)⟩)⟩)⟩)⟩)⟩)⟩)⟩)⟩)⟩)⟩)⟩)⟩)⟩)⟩)⟩)⟩)⟩)⟩)⟩)⟩)⟩)⟩)⟩)), (show ∀ w ∈ wsX7_cut_r2, w ∈ lw_tbl from (List.forall_mem_cons.mpr ⟨lm_39, (List.forall_mem_cons.mpr ⟨lm_1013, (fun _ h => absurd h List.not_mem_nil)⟩)⟩))⟩), iw7⟩)⟩) (by decide +kernel))
set_option maxRecDepth 100000 in
theorem gLw_X6_feed : GoodIn lw_tbl (wsV RL 32 RX6 yX6_feed wsX6_feed) := goodIn_app (goodIn_sub (List.forall_mem_cons.mpr ⟨lm_405, (List.forall_mem_cons.mpr ⟨lm_406, (List.forall_mem_cons.mpr ⟨lm_407, (List.forall_mem_cons.mpr ⟨lm_71, (fun _ h => absurd h List.not_mem_nil)⟩)⟩)⟩)⟩) (by decide +kernel)) (goodIn_sub (List.forall_mem_cons.mpr ⟨lm_408, (List.forall_mem_append.mpr ⟨(List.forall_mem_append.mpr ⟨(List.forall_mem_cons.mpr ⟨lm_330, (List.forall_mem_cons.mpr ⟨lm_143, (List.forall_mem_cons.mpr ⟨lm_409, (List.forall_mem_cons.mpr ⟨lm_410, (List.forall_mem_cons.mpr ⟨lm_411, (List.forall_mem_cons.mpr ⟨lm_73, (List.forall_mem_cons.mpr ⟨lm_412, (List.forall_mem_cons.mpr ⟨lm_141, (List.forall_mem_cons.mpr ⟨lm_140, (fun _ h => absurd h List.not_mem_nil)⟩)⟩)⟩)⟩)⟩)⟩)⟩)⟩)⟩), iw6⟩), iw3⟩)⟩) (by decide +kernel))
set_option maxRecDepth 100000 in
theorem gLw_X7_feed : GoodIn lw_tbl (wsV RL 36 RX7 yX7_feed wsX7_feed) := goodIn_app (goodIn_sub (List.forall_mem_cons.mpr ⟨lm_1018, (List.forall_mem_cons.mpr ⟨lm_1019, (List.forall_mem_cons.mpr ⟨lm_1020, (List.forall_mem_cons.mpr ⟨lm_78, (fun _ h => absurd h List.not_mem_nil)⟩)⟩)⟩)⟩) (by decide +kernel)) (goodIn_sub (List.forall_mem_cons.mpr ⟨lm_1021, (List.forall_mem_append.mpr ⟨(List.forall_mem_cons.mpr ⟨lm_847, (List.forall_mem_cons.mpr ⟨lm_1022, (List.forall_mem_cons.mpr ⟨lm_1024, (List.forall_mem_cons.mpr ⟨lm_40, (List.forall_mem_cons.mpr ⟨lm_78, (List.forall_mem_cons.mpr ⟨lm_1025, (List.forall_mem_cons.mpr ⟨lm_846, (fun _ h => absurd h List.not_mem_nil)⟩)⟩)⟩)⟩)⟩)⟩)⟩), iw7⟩)⟩) (by decide +kernel))
set_option maxRecDepth 100000 in
theorem gLw_X6_end : GoodIn lw_tbl (wsV RL 37 RX6 yX6_end wsX6_end) := goodIn_app (goodIn_sub (List.forall_mem_cons.mpr ⟨lm_413, (List.forall_mem_cons.mpr ⟨lm_414, (List.forall_mem_cons.mpr ⟨lm_415, (List.forall_mem_cons.mpr ⟨lm_71, (fun _ h => absurd h List.not_mem_nil)⟩)⟩)⟩)⟩) (by decide +kernel)) (goodIn_sub (List.forall_mem_cons.mpr ⟨lm_416, (List.forall_mem_append.mpr ⟨(List.forall_mem_append.mpr ⟨(List.forall_mem_cons.mpr ⟨lm_330, (List.forall_mem_cons.mpr ⟨lm_143, (fun _ h => absurd h List.not_mem_nil)⟩)⟩), iw6⟩), iw3⟩)⟩) (by decide +kernel))
set_option maxRecDepth 100000 in
theorem gLw_X7_end : GoodIn lw_tbl (wsV RL 41 RX7 yX7_end wsX7_end) := goodIn_app (goodIn_sub (List.forall_mem_cons.mpr ⟨lm_1026, (List.forall_mem_cons.mpr ⟨lm_1027, (List.forall_mem_cons.mpr ⟨lm_1028, (List.forall_mem_cons.mpr ⟨lm_78, (fun _ h => absurd h List.not_mem_nil)⟩)⟩)⟩)⟩) (by decide +kernel)) (goodIn_sub (List.forall_mem_cons.mpr ⟨lm_1029, (List.forall_mem_append.mpr ⟨(List.forall_mem_cons.mpr ⟨lm_847, (List.forall_mem_cons.mpr ⟨lm_994, (List.forall_mem_cons.mpr ⟨lm_995, (List.forall_mem_cons.mpr ⟨lm_78, (List.forall_mem_cons.mpr ⟨lm_996, (fun _ h => absurd h List.not_mem_nil)⟩)⟩)⟩)⟩)⟩), iw7⟩)⟩) (by decide +kernel))
set_option maxRecDepth 100000 in
theorem gLw_X6_shapes : GoodIn lw_tbl (wsV RL 42 RX6 yX6_shapes wsX6_shapes) := goodIn_app (goodIn_sub (List.forall_mem_cons.mpr ⟨lm_417, (List.forall_mem_cons.mpr ⟨lm_418, (List.forall_mem_cons.mpr ⟨lm_419, (List.forall_mem_cons.mpr ⟨lm_71, (fun _ h => absurd h List.not_mem_nil)⟩)⟩)⟩)⟩) (by decide +kernel)) (goodIn_sub (List.forall_mem_cons.mpr ⟨lm_420, (List.forall_mem_append.mpr ⟨(List.forall_mem_append.mpr ⟨(List.forall_mem_append.mpr ⟨(List.forall_mem_append.mpr ⟨(List.forall_mem_append.mpr ⟨(List.forall_mem_append.mpr ⟨(List.forall_mem_append.mpr ⟨(show ∀ w ∈ wsX6_shapes_r1, w ∈ lw_tbl from (List.forall_mem_cons.mpr ⟨lm_331, (List.forall_mem_cons.mpr ⟨lm_334, (List.forall_mem_cons.mpr ⟨lm_330, (List.forall_mem_cons.mpr ⟨lm_143, (List.forall_mem_cons.mpr ⟨lm_190, (List.forall_mem_cons.mpr ⟨lm_335, (List.forall_mem_cons.mpr ⟨lm_192, (List.forall_mem_cons.mpr ⟨lm_333, (List.forall_mem_cons.mpr ⟨lm_332, (List.forall_mem_cons.mpr ⟨lm_223, (List.forall_mem_cons.mpr ⟨lm_421, (List.forall_mem_cons.mpr ⟨lm_422, (List.forall_mem_cons.mpr ⟨lm_423, (List.forall_mem_cons.mpr ⟨lm_74, (List.forall_mem_cons.mpr ⟨lm_424, (List.forall_mem_cons.mpr ⟨lm_182, (List.forall_mem_cons.mpr ⟨lm_181, (List.forall_mem_cons.mpr ⟨lm_183, (List.forall_mem_cons.mpr ⟨lm_184, (List.forall_mem_cons.mpr ⟨lm_185, (List.forall_mem_cons.mpr ⟨lm_186, (List.forall_mem_cons.mpr ⟨lm_189, (List.forall_mem_cons.mpr ⟨lm_191, (List.forall_mem_cons.mpr ⟨lm_164, (fun _ h => absurd h List.not_mem_nil)⟩)⟩)⟩)⟩)⟩)⟩)⟩)⟩)⟩)⟩)⟩)⟩)⟩)⟩)⟩)⟩)⟩)⟩)⟩)⟩)⟩)⟩)⟩)⟩)), (List.forall_mem_append.mpr ⟨(show ∀ w ∈ wsX6_shapes_r2, w ∈ lw_tbl from (List.forall_mem_cons.mpr ⟨lm_425, (List.forall_mem_cons.mpr ⟨lm_426, (List.forall_mem_cons.mpr ⟨lm_427, (List.forall_mem_cons.mpr ⟨lm_76, (List.forall_mem_cons.mpr ⟨lm_428, (List.forall_mem_cons.mpr ⟨lm_220, (List.forall_mem_cons.mpr ⟨lm_224, (List.forall_mem_cons.mpr ⟨lm_225, (List.forall_mem_cons.mpr ⟨lm_240, (List.forall_mem_cons.mpr ⟨lm_429, (List.forall_mem_cons.mpr ⟨lm_430, (List.forall_mem_cons.mpr ⟨lm_431, (List.forall_mem_cons.mpr ⟨lm_75, (List.forall_mem_cons.mpr ⟨lm_432, (List.forall_mem_cons.mpr ⟨lm_163, (List.forall_mem_cons.mpr ⟨lm_433, (List.forall_mem_cons.mpr ⟨lm_434, (List.forall_mem_cons.mpr ⟨lm_435, (List.forall_mem_cons.mpr ⟨lm_436, (List.forall_mem_cons.mpr ⟨lm_162, (List.forall_mem_cons.mpr ⟨lm_142, (List.forall_mem_cons.mpr ⟨lm_167, (List.forall_mem_cons.mpr ⟨lm_168, (List.forall_mem_cons.mpr ⟨lm_437, (fun _ h => absurd h List.not_mem_nil)⟩)⟩)⟩)⟩)⟩)⟩)⟩)⟩)⟩)⟩)⟩)⟩)⟩)⟩)⟩)⟩)⟩)⟩)⟩)⟩)⟩)⟩)⟩)⟩)), (List.forall_mem_append.mpr ⟨(show ∀ w ∈ wsX6_shapes_r3, w ∈ lw_tbl from (List.forall_mem_cons.mpr ⟨lm_438, (List.forall_mem_cons.mpr ⟨lm_439, (List.forall_mem_cons.mpr ⟨lm_73, (List.forall_mem_cons.mpr ⟨lm_440, (List.forall_mem_cons.mpr ⟨lm_141, (List.forall_mem_cons.mpr ⟨lm_140, (List.forall_mem_cons.mpr ⟨lm_441, (List.forall_mem_cons.mpr ⟨lm_443, (List.forall_mem_cons.mpr ⟨lm_1, (List.forall_mem_cons.mpr ⟨lm_444, (List.forall_mem_cons.mpr ⟨lm_165, (List.forall_mem_cons.mpr ⟨lm_445, (List.forall_mem_cons.mpr ⟨lm_446, (List.forall_mem_cons.mpr ⟨lm_447, (List.forall_mem_cons.mpr ⟨lm_448, (List.forall_mem_cons.mpr ⟨lm_450, (List.forall_mem_cons.mpr ⟨lm_2, (List.forall_mem_cons.mpr ⟨lm_451, (List.forall_mem_cons.mpr ⟨lm_452, (List.forall_mem_cons.mpr ⟨lm_454, (List.forall_mem_cons.mpr ⟨lm_3, (List.forall_mem_cons.mpr ⟨lm_455, (List.forall_mem_cons.mpr ⟨lm_457, (List.forall_mem_cons.mpr ⟨lm_458, (fun _ h => absurd h List.not_mem_nil)⟩)⟩)⟩)⟩)⟩)⟩)⟩)⟩)⟩)⟩)⟩)⟩)⟩)⟩)⟩)⟩)⟩)⟩)⟩)⟩)⟩)⟩)⟩)⟩)), (List.forall_mem_append.mpr ⟨(show ∀ w ∈ wsX6_shapes_r4, w ∈ lw_tbl from (List.forall_mem_cons.mpr ⟨lm_459, (List.forall_mem_cons.mpr ⟨lm_79, (List.forall_mem_cons.mpr ⟨lm_460, (List.forall_mem_cons.mpr ⟨lm_1224, (List.forall_mem_cons.mpr ⟨lm_461, (List.forall_mem_cons.mpr ⟨lm_462, (List.forall_mem_cons.mpr ⟨lm_463, (List.forall_mem_cons.mpr ⟨lm_464, (List.forall_mem_cons.mpr ⟨lm_465, (List.forall_mem_cons.mpr ⟨lm_1225, (List.forall_mem_cons.mpr ⟨lm_467, (List.forall_mem_cons.mpr ⟨lm_468, (List.forall_mem_cons.mpr ⟨lm_469, (List.forall_mem_cons.mpr ⟨lm_470, (List.forall_mem_cons.mpr ⟨lm_471, (List.forall_mem_cons.mpr ⟨lm_472, (List.forall_mem_cons.mpr ⟨lm_473, (List.forall_mem_cons.mpr ⟨lm_474, (List.forall_mem_cons.mpr ⟨lm_475, (List.forall_mem_cons.mpr ⟨lm_476, (List.forall_mem_cons.mpr ⟨lm_80, (List.forall_mem_cons.mpr ⟨lm_477, (List.forall_mem_cons.mpr ⟨lm_478, (List.forall_mem_cons.mpr ⟨lm_479, (fun _ h => absurd h List.not_mem_nil)⟩)⟩)⟩)⟩)⟩)⟩)⟩)⟩)⟩)⟩)⟩)⟩)⟩)⟩)⟩)⟩)⟩)⟩)⟩)⟩)⟩)⟩)⟩)⟩)), (List.forall_mem_append.mpr ⟨(show ∀ w ∈ wsX6_shapes_r5, w ∈ lw_tbl from (List.forall_mem_cons.mpr ⟨lm_480, (List.forall_mem_cons.mpr ⟨lm_481, (List.forall_mem_cons.mpr ⟨lm_483, (List.forall_mem_cons.mpr ⟨lm_484, (List.forall_mem_cons.mpr ⟨lm_81, (List.forall_mem_cons.mpr ⟨lm_485, (List.forall_mem_cons.mpr ⟨lm_486, (List.forall_mem_cons.mpr ⟨lm_487, (List.forall_mem_cons.mpr ⟨lm_82, (List.forall_mem_cons.mpr ⟨lm_488, (List.forall_mem_cons.mpr ⟨lm_489, (List.forall_mem_cons.mpr ⟨lm_490, (List.forall_mem_cons.mpr ⟨lm_491, (List.forall_mem_cons.mpr ⟨lm_492, (List.forall_mem_cons.mpr ⟨lm_493, (List.forall_mem_cons.mpr ⟨lm_494, (List.forall_mem_cons.mpr ⟨lm_495, (List.forall_mem_cons.mpr ⟨lm_496, (List.forall_mem_cons.mpr ⟨lm_497, (List.forall_mem_cons.mpr ⟨lm_498, (List.forall_mem_cons.mpr ⟨lm_499, (List.forall_mem_cons.mpr ⟨lm_501, (List.forall_mem_cons.mpr ⟨lm_503, (List.forall_mem_cons.mpr ⟨lm_505, (fun _ h => absurd h List.not_mem_nil)⟩)⟩)⟩)⟩)⟩)⟩)⟩)⟩)⟩)⟩)⟩)⟩)⟩)⟩)⟩)⟩)⟩)⟩)⟩)⟩)⟩)⟩)⟩)⟩)), (List.forall_mem_append.mpr ⟨(show ∀ w ∈ wsX6_shapes_r6, w ∈ lw_tbl from (List.forall_mem_cons.mpr ⟨lm_506, (List.forall_mem_cons.mpr ⟨lm_507, (List.forall_mem_cons.mpr ⟨lm_508, (List.forall_mem_cons.mpr ⟨lm_510, (List.forall_mem_cons.mpr ⟨lm_4, (List.forall_mem_cons.mpr ⟨lm_511, (List.forall_mem_cons.mpr ⟨lm_166, (List.forall_mem_cons.mpr ⟨lm_512, (List.forall_mem_cons.mpr ⟨lm_514, (List.forall_mem_cons.mpr ⟨lm_5, (List.forall_mem_cons.mpr ⟨lm_515, (List.forall_mem_cons.mpr ⟨lm_516, (List.forall_mem_cons.mpr ⟨lm_518, (List.forall_mem_cons.mpr ⟨lm_6, (List.forall_mem_cons.mpr ⟨lm_519, (List.forall_mem_cons.mpr ⟨lm_222, (List.forall_mem_cons.mpr ⟨lm_169, (List.forall_mem_cons.mpr ⟨lm_520, (List.forall_mem_cons.mpr ⟨lm_521, (List.forall_mem_cons.mpr ⟨lm_522, (List.forall_mem_cons.mpr ⟨lm_523, (List.forall_mem_cons.mpr ⟨lm_226, (List.forall_mem_cons.mpr ⟨lm_524, (List.forall_mem_cons.mpr ⟨lm_525, (fun _ h => absurd h List.not_mem_nil)⟩)⟩)⟩)⟩)⟩)⟩)⟩)⟩)⟩)⟩)⟩)⟩)⟩)⟩)⟩)⟩)⟩)⟩)⟩)⟩)⟩)⟩)⟩)⟩)), (List.forall_mem_append.mpr ⟨(show ∀ w ∈ wsX6_shapes_r7, w ∈ lw_tbl from (List.forall_mem_cons.mpr ⟨lm_526, (List.forall_mem_cons.mpr ⟨lm_527, (List.forall_mem_cons.mpr ⟨lm_228, (List.forall_mem_cons.mpr ⟨lm_231, (List.forall_mem_cons.mpr ⟨lm_234, (List.forall_mem_cons.mpr ⟨lm_236, (List.forall_mem_cons.mpr ⟨lm_238, (List.forall_mem_cons.mpr ⟨lm_528, (List.forall_mem_cons.mpr ⟨lm_530, (List.forall_mem_cons.mpr ⟨lm_7, (List.forall_mem_cons.mpr ⟨lm_531, (List.forall_mem_cons.mpr ⟨lm_532, (List.forall_mem_cons.mpr ⟨lm_534, (List.forall_mem_cons.mpr ⟨lm_8, (List.forall_mem_cons.mpr ⟨lm_535, (List.forall_mem_cons.mpr ⟨lm_536, (List.forall_mem_cons.mpr ⟨lm_538, (List.forall_mem_cons.mpr ⟨lm_9, (List.forall_mem_cons.mpr ⟨lm_539, (List.forall_mem_cons.mpr ⟨lm_540, (List.forall_mem_cons.mpr ⟨lm_542, (List.forall_mem_cons.mpr ⟨lm_10, (List.forall_mem_cons.mpr ⟨lm_543, (List.forall_mem_cons.mpr ⟨lm_544, (fun _ h => absurd h List.not_mem_nil)⟩)⟩)⟩)⟩)⟩)⟩)⟩)⟩)⟩)⟩)⟩)⟩)⟩)⟩)⟩)⟩)⟩)⟩)⟩)⟩)⟩)⟩)⟩)⟩)), (List.forall_mem_append.mpr ⟨(show ∀ w ∈ wsX6_shapes_r8, w ∈ lw_tbl from (List.forall_mem_cons.mpr ⟨lm_545, (List.forall_mem_cons.mpr ⟨lm_546, (List.forall_mem_cons.mpr ⟨lm_547, (List.forall_mem_cons.mpr ⟨lm_548, (List.forall_mem_cons.mpr ⟨lm_549, (List.forall_mem_cons.mpr ⟨lm_550, (List.forall_mem_cons.mpr ⟨lm_551, (List.forall_mem_cons.mpr ⟨lm_552, (List.forall_mem_cons.mpr ⟨lm_553, (List.forall_mem_cons.mpr ⟨lm_554, (List.forall_mem_cons.mpr ⟨lm_555, (List.forall_mem_cons.mpr ⟨lm_244, (List.forall_mem_cons.mpr ⟨lm_556, (List.forall_mem_cons.mpr ⟨lm_557, (List.forall_mem_cons.mpr ⟨lm_558, (List.forall_mem_cons.mpr ⟨lm_559, (List.forall_mem_cons.mpr ⟨lm_560, (List.forall_mem_cons.mpr ⟨lm_242, (List.forall_mem_cons.mpr ⟨lm_561, (List.forall_mem_cons.mpr ⟨lm_563, (List.forall_mem_cons.mpr ⟨lm_11, (List.forall_mem_cons.mpr ⟨lm_564, (List.forall_mem_cons.mpr ⟨lm_565, (List.forall_mem_cons.mpr ⟨lm_566, (fun _ h => absurd h List.not_mem_nil)⟩)⟩)⟩)⟩)⟩)⟩)⟩)⟩)⟩)⟩)⟩)⟩)⟩)⟩)⟩)⟩)⟩)⟩)⟩)⟩)⟩)⟩)⟩)⟩)), (List.forall_mem_append.mpr ⟨(show ∀ w ∈ wsX6_shapes_r9, w ∈ lw_tbl from (List.forall_mem_cons.mpr ⟨lm_567, (List.forall_mem_cons.mpr ⟨lm_568, (List.forall_mem_cons.mpr ⟨lm_569, (List.forall_mem_cons.mpr ⟨lm_571, (List.forall_mem_cons.mpr ⟨lm_12, (List.forall_mem_cons.mpr ⟨lm_572, (List.forall_mem_cons.mpr ⟨lm_187, (List.forall_mem_cons.mpr ⟨lm_188, (List.forall_mem_cons.mpr ⟨lm_573, (List.forall_mem_cons.mpr ⟨lm_574, (List.forall_mem_cons.mpr ⟨lm_575, (List.forall_mem_cons.mpr ⟨lm_576, (List.forall_mem_cons.mpr ⟨lm_247, (List.forall_mem_cons.mpr ⟨lm_250, (List.forall_mem_cons.mpr ⟨lm_253, (List.forall_mem_cons.mpr ⟨lm_256, (List.forall_mem_cons.mpr ⟨lm_577, (List.forall_mem_cons.mpr ⟨lm_579, (List.forall_mem_cons.mpr ⟨lm_13, (List.forall_mem_cons.mpr ⟨lm_580, (List.forall_mem_cons.mpr ⟨lm_581, (List.forall_mem_cons.mpr ⟨lm_583, (List.forall_mem_cons.mpr ⟨lm_14, (List.forall_mem_cons.mpr ⟨lm_584, (fun _ h => absurd h List.not_mem_nil)⟩)⟩)⟩)⟩)⟩)⟩)⟩)⟩)⟩)⟩)⟩)⟩)⟩)⟩)⟩)⟩)⟩)⟩)⟩)⟩)⟩)⟩)⟩)⟩)), (List.forall_mem_append.mpr ⟨(show ∀ w ∈ wsX6_shapes_r10, w ∈ lw_tbl from (List.forall_mem_cons.mpr ⟨lm_585, (List.forall_mem_cons.mpr ⟨lm_586, (List.forall_mem_cons.mpr ⟨lm_588, (List.forall_mem_cons.mpr ⟨lm_15, (List.forall_mem_cons.mpr ⟨lm_589, (List.forall_mem_cons.mpr ⟨lm_590, (List.forall_mem_cons.mpr ⟨lm_592, (List.forall_mem_cons.mpr ⟨lm_16, (List.forall_mem_cons.mpr ⟨lm_593, (List.forall_mem_cons.mpr ⟨lm_594, (List.forall_mem_cons.mpr ⟨lm_596, (List.forall_mem_cons.mpr ⟨lm_17, (List.forall_mem_cons.mpr ⟨lm_597, (List.forall_mem_cons.mpr ⟨lm_598, (List.forall_mem_cons.mpr ⟨lm_600, (List.forall_mem_cons.mpr ⟨lm_18, (List.forall_mem_cons.mpr ⟨lm_601, (List.forall_mem_cons.mpr ⟨lm_602, (List.forall_mem_cons.mpr ⟨lm_603, (List.forall_mem_cons.mpr ⟨lm_605, (List.forall_mem_cons.mpr ⟨lm_19, (List.forall_mem_cons.mpr ⟨lm_606, (List.forall_mem_cons.mpr ⟨lm_607, (List.forall_mem_cons.mpr ⟨lm_609, (fun _ h => absurd h List.not_mem_nil)⟩)⟩)⟩)⟩)⟩)⟩)⟩)⟩)⟩)⟩)⟩)⟩)⟩)⟩)⟩)⟩)⟩)⟩)⟩)⟩)⟩)⟩)⟩)⟩)), (List.forall_mem_append.mpr ⟨(show ∀ w ∈ wsX6_shapes_r11, w ∈ lw_tbl from (List.forall_mem_cons.mpr ⟨lm_20, (List.forall_mem_cons.mpr ⟨lm_610, (List.forall_mem_cons.mpr ⟨lm_611, (List.forall_mem_cons.mpr ⟨lm_613, (List.forall_mem_cons.mpr ⟨lm_21, (List.forall_mem_cons.mpr ⟨lm_614, (List.forall_mem_cons.mpr ⟨lm_615, (List.forall_mem_cons.mpr ⟨lm_617, (List.forall_mem_cons.mpr ⟨lm_22, (List.forall_mem_cons.mpr ⟨lm_618, (List.forall_mem_cons.mpr ⟨lm_619, (List.forall_mem_cons.mpr ⟨lm_620, (List.forall_mem_cons.mpr ⟨lm_621, (List.forall_mem_cons.mpr ⟨lm_622, (List.forall_mem_cons.mpr ⟨lm_623, (List.forall_mem_cons.mpr ⟨lm_624, (List.forall_mem_cons.mpr ⟨lm_625, (List.forall_mem_cons.mpr ⟨lm_626, (List.forall_mem_cons.mpr ⟨lm_627, (List.forall_mem_cons.mpr ⟨lm_628, (List.forall_mem_cons.mpr ⟨lm_629, (List.forall_mem_cons.mpr ⟨lm_630, (List.forall_mem_cons.mpr ⟨lm_631, (List.forall_mem_cons.mpr ⟨lm_632, (fun _ h => absurd h List.not_mem_nil)⟩)⟩)⟩)⟩)⟩)⟩)⟩)⟩)⟩)⟩)⟩)⟩)⟩)⟩)⟩)⟩)⟩)⟩)⟩)⟩)⟩)⟩)⟩)⟩)), (List.forall_mem_append.mpr ⟨(show ∀ w ∈ wsX6_shapes_r12, w ∈ lw_tbl from (List.forall_mem_cons.mpr ⟨lm_633, (List.forall_mem_cons.mpr ⟨lm_634, (List.forall_mem_cons.mpr ⟨lm_635, (List.forall_mem_cons.mpr ⟨lm_636, (List.forall_mem_cons.mpr ⟨lm_638, (List.forall_mem_cons.mpr ⟨lm_23, (List.forall_mem_cons.mpr ⟨lm_639, (List.forall_mem_cons.mpr ⟨lm_640, (List.forall_mem_cons.mpr ⟨lm_641, (List.forall_mem_cons.mpr ⟨lm_642, (List.forall_mem_cons.mpr ⟨lm_643, (List.forall_mem_cons.mpr ⟨lm_644, (List.forall_mem_cons.mpr ⟨lm_646, (List.forall_mem_cons.mpr ⟨lm_24, (List.forall_mem_cons.mpr ⟨lm_647, (List.forall_mem_cons.mpr ⟨lm_648, (List.forall_mem_cons.mpr ⟨lm_649, (List.forall_mem_cons.mpr ⟨lm_83, (List.forall_mem_cons.mpr ⟨lm_650, (List.forall_mem_cons.mpr ⟨lm_651, (List.forall_mem_cons.mpr ⟨lm_652, (List.forall_mem_cons.mpr ⟨lm_653, (List.forall_mem_cons.mpr ⟨lm_77, (List.forall_mem_cons.mpr ⟨lm_654, (fun _ h => absurd h List.not_mem_nil)⟩)⟩)⟩)⟩)⟩)⟩)⟩)⟩)⟩)⟩)⟩)⟩)⟩)⟩)⟩)⟩)⟩)⟩)⟩)⟩)⟩)⟩)⟩)⟩)), (show ∀ w ∈ wsX6_shapes_r13, w ∈ lw_tbl from (List.forall_mem_cons.mpr ⟨lm_297, (List.forall_mem_cons.mpr ⟨lm_655, (List.forall_mem_cons.mpr ⟨lm_356, (List.forall_mem_cons.mpr ⟨lm_357, (List.forall_mem_cons.mpr ⟨lm_358, (List.forall_mem_cons.mpr ⟨lm_302, (List.forall_mem_cons.mpr ⟨lm_303, (fun _ h => absurd h List.not_mem_nil)⟩)⟩)⟩)⟩)⟩)⟩)⟩))⟩)⟩)⟩)⟩)⟩)⟩)⟩)⟩)⟩)⟩)⟩)⟩), iw6⟩), iw3⟩), iw4⟩), iw0⟩), iw5⟩), iw2⟩)⟩) (by decide +kernel))
set_option maxRecDepth 100000 in
theorem gLw_X7_shapes : GoodIn lw_tbl (wsV RL 46 RX7 yX7_shapes wsX7_shapes) := goodIn_app (goodIn_sub (List.forall_mem_cons.mpr ⟨lm_1030, (List.forall_mem_cons.mpr ⟨lm_1031, (List.forall_mem_cons.mpr ⟨lm_1032, (List.forall_mem_cons.mpr ⟨lm_78, (fun _ h => absurd h List.not_mem_nil)⟩)⟩)⟩)⟩) (by decide +kernel)) (goodIn_sub (List.forall_mem_cons.mpr ⟨lm_1033, (List.forall_mem_append.mpr ⟨(List.forall_mem_append.mpr ⟨(show ∀ w ∈ wsX7_shapes_r1, w ∈ lw_tbl from (List.forall_mem_cons.mpr ⟨lm_852, (List.forall_mem_cons.mpr ⟨lm_848, (List.forall_mem_cons.mpr ⟨lm_831, (List.forall_mem_cons.mpr ⟨lm_850, (List.forall_mem_cons.mpr ⟨lm_847, (List.forall_mem_cons.mpr ⟨lm_853, (List.forall_mem_cons.mpr ⟨lm_817, (List.forall_mem_cons.mpr ⟨lm_818, (List.forall_mem_cons.mpr ⟨lm_832, (List.forall_mem_cons.mpr ⟨lm_819, (List.forall_mem_cons.mpr ⟨lm_833, (List.forall_mem_cons.mpr ⟨lm_820, (List.forall_mem_cons.mpr ⟨lm_834, (List.forall_mem_cons.mpr ⟨lm_825, (List.forall_mem_cons.mpr ⟨lm_840, (List.forall_mem_cons.mpr ⟨lm_821, (List.forall_mem_cons.mpr ⟨lm_835, (List.forall_mem_cons.mpr ⟨lm_822, (List.forall_mem_cons.mpr ⟨lm_836, (List.forall_mem_cons.mpr ⟨lm_823, (List.forall_mem_cons.mpr ⟨lm_837, (List.forall_mem_cons.mpr ⟨lm_824, (List.forall_mem_cons.mpr ⟨lm_838, (List.forall_mem_cons.mpr ⟨lm_826, (fun _ h => absurd h List.not_mem_nil)⟩)⟩)⟩)⟩)⟩)⟩)⟩)⟩)⟩)⟩)⟩)⟩)⟩)⟩)⟩)⟩)⟩)⟩)⟩)⟩)⟩)⟩)⟩)⟩)), (List.forall_mem_append.mpr ⟨(show ∀ w ∈ wsX7_shapes_r2, w ∈ lw_tbl from (List.forall_mem_cons.mpr ⟨lm_841, (List.forall_mem_cons.mpr ⟨lm_827, (List.forall_mem_cons.mpr ⟨lm_842, (List.forall_mem_cons.mpr ⟨lm_828, (List.forall_mem_cons.mpr ⟨lm_843, (List.forall_mem_cons.mpr ⟨lm_829, (List.forall_mem_cons.mpr ⟨lm_844, (List.forall_mem_cons.mpr ⟨lm_830, (List.forall_mem_cons.mpr ⟨lm_845, (List.forall_mem_cons.mpr ⟨lm_816, (List.forall_mem_cons.mpr ⟨lm_1034, (List.forall_mem_cons.mpr ⟨lm_1036, (List.forall_mem_cons.mpr ⟨lm_41, (List.forall_mem_cons.mpr ⟨lm_78, (List.forall_mem_cons.mpr ⟨lm_1037, (List.forall_mem_cons.mpr ⟨lm_849, (List.forall_mem_cons.mpr ⟨lm_1042, (List.forall_mem_cons.mpr ⟨lm_1043, (List.forall_mem_cons.mpr ⟨lm_851, (List.forall_mem_cons.mpr ⟨lm_1044, (List.forall_mem_cons.mpr ⟨lm_1045, (List.forall_mem_cons.mpr ⟨lm_1050, (List.forall_mem_cons.mpr ⟨lm_1051, (List.forall_mem_cons.mpr ⟨lm_1038, (fun _ h => absurd h List.not_mem_nil)⟩)⟩)⟩)⟩)⟩)⟩)⟩)⟩)⟩)⟩)⟩)⟩)⟩)⟩)⟩)⟩)⟩)⟩)⟩)⟩)⟩)⟩)⟩)⟩)), (List.forall_mem_append.mpr ⟨(show ∀ w ∈ wsX7_shapes_r3, w ∈ lw_tbl from (List.forall_mem_cons.mpr ⟨lm_1040, (List.forall_mem_cons.mpr ⟨lm_42, (List.forall_mem_cons.mpr ⟨lm_1041, (List.forall_mem_cons.mpr ⟨lm_846, (List.forall_mem_cons.mpr ⟨lm_994, (List.forall_mem_cons.mpr ⟨lm_995, (List.forall_mem_cons.mpr ⟨lm_996, (List.forall_mem_cons.mpr ⟨lm_1046, (List.forall_mem_cons.mpr ⟨lm_1048, (List.forall_mem_cons.mpr ⟨lm_43, (List.forall_mem_cons.mpr ⟨lm_1049, (List.forall_mem_cons.mpr ⟨lm_1052, (List.forall_mem_cons.mpr ⟨lm_1054, (List.forall_mem_cons.mpr ⟨lm_44, (List.forall_mem_cons.mpr ⟨lm_1055, (List.forall_mem_cons.mpr ⟨lm_1056, (List.forall_mem_cons.mpr ⟨lm_1057, (List.forall_mem_cons.mpr ⟨lm_1058, (List.forall_mem_cons.mpr ⟨lm_1059, (List.forall_mem_cons.mpr ⟨lm_1061, (List.forall_mem_cons.mpr ⟨lm_45, (List.forall_mem_cons.mpr ⟨lm_1062, (List.forall_mem_cons.mpr ⟨lm_1063, (List.forall_mem_cons.mpr ⟨lm_1065, (fun _ h => absurd h List.not_mem_nil)⟩)⟩)⟩)⟩)⟩)⟩)⟩)⟩)⟩)⟩)⟩)⟩)⟩)⟩)⟩)⟩)⟩)⟩)⟩)⟩)⟩)⟩)⟩)⟩)), (List.forall_mem_append.mpr ⟨(show ∀ w ∈ wsX7_shapes_r4, w ∈ lw_tbl from (List.forall_mem_cons.mpr ⟨lm_46, (List.forall_mem_cons.mpr ⟨lm_1066, (List.forall_mem_cons.mpr ⟨lm_854, (List.forall_mem_cons.mpr ⟨lm_1067, (List.forall_mem_cons.mpr ⟨lm_1069, (List.forall_mem_cons.mpr ⟨lm_47, (List.forall_mem_cons.mpr ⟨lm_1070, (List.forall_mem_cons.mpr ⟨lm_1071, (List.forall_mem_cons.mpr ⟨lm_1073, (List.forall_mem_cons.mpr ⟨lm_48, (List.forall_mem_cons.mpr ⟨lm_1074, (List.forall_mem_cons.mpr ⟨lm_1075, (List.forall_mem_cons.mpr ⟨lm_1077, (List.forall_mem_cons.mpr ⟨lm_49, (List.forall_mem_cons.mpr ⟨lm_1078, (List.forall_mem_cons.mpr ⟨lm_856, (List.forall_mem_cons.mpr ⟨lm_855, (List.forall_mem_cons.mpr ⟨lm_1079, (List.forall_mem_cons.mpr ⟨lm_1081, (List.forall_mem_cons.mpr ⟨lm_50, (List.forall_mem_cons.mpr ⟨lm_1082, (List.forall_mem_cons.mpr ⟨lm_1083, (List.forall_mem_cons.mpr ⟨lm_1085, (List.forall_mem_cons.mpr ⟨lm_51, (fun _ h => absurd h List.not_mem_nil)⟩)⟩)⟩)⟩)⟩)⟩)⟩)⟩)⟩)⟩)⟩)⟩)⟩)⟩)⟩)⟩)⟩)⟩)⟩)⟩)⟩)⟩)⟩)⟩)), (List.forall_mem_append.mpr ⟨(show ∀ w ∈ wsX7_shapes_r5, w ∈ lw_tbl from (List.forall_mem_cons.mpr ⟨lm_1086, (List.forall_mem_cons.mpr ⟨lm_1001, (List.forall_mem_cons.mpr ⟨lm_839, (List.forall_mem_cons.mpr ⟨lm_1087, (List.forall_mem_cons.mpr ⟨lm_1089, (List.forall_mem_cons.mpr ⟨lm_52, (List.forall_mem_cons.mpr ⟨lm_1090, (List.forall_mem_cons.mpr ⟨lm_1095, (List.forall_mem_cons.mpr ⟨lm_1091, (List.forall_mem_cons.mpr ⟨lm_1093, (List.forall_mem_cons.mpr ⟨lm_53, (List.forall_mem_cons.mpr ⟨lm_1094, (List.forall_mem_cons.mpr ⟨lm_1096, (List.forall_mem_cons.mpr ⟨lm_1098, (List.forall_mem_cons.mpr ⟨lm_54, (List.forall_mem_cons.mpr ⟨lm_1099, (List.forall_mem_cons.mpr ⟨lm_857, (List.forall_mem_cons.mpr ⟨lm_1100, (List.forall_mem_cons.mpr ⟨lm_1102, (List.forall_mem_cons.mpr ⟨lm_55, (List.forall_mem_cons.mpr ⟨lm_1103, (List.forall_mem_cons.mpr ⟨lm_1104, (List.forall_mem_cons.mpr ⟨lm_1106, (List.forall_mem_cons.mpr ⟨lm_56, (fun _ h => absurd h List.not_mem_nil)⟩)⟩)⟩)⟩)⟩)⟩)⟩)⟩)⟩)⟩)⟩)⟩)⟩)⟩)⟩)⟩)⟩)⟩)⟩)⟩)⟩)⟩)⟩)⟩)), (show ∀ w ∈ wsX7_shapes_r6, w ∈ lw_tbl from (List.forall_mem_cons.mpr ⟨lm_1107, (fun _ h => absurd h List.not_mem_nil)⟩))⟩)⟩)⟩)⟩)⟩), iw7⟩)⟩) (by decide +kernel))
set_option maxRecDepth 100000 in
theorem gLw_X6_fault : GoodIn lw_tbl (wsV RL 47 RX6 yX6_fault wsX6_fault) := goodIn_app (goodIn_sub (List.forall_mem_cons.mpr ⟨lm_656, (List.forall_mem_cons.mpr ⟨lm_657, (List.forall_mem_cons.mpr ⟨lm_658, (List.forall_mem_cons.mpr ⟨lm_71, (fun _ h => absurd h List.not_mem_nil)⟩)⟩)⟩)⟩) (by decide +kernel)) (goodIn_sub (List.forall_mem_cons.mpr ⟨lm_659, (List.forall_mem_append.mpr ⟨(List.forall_mem_cons.mpr ⟨lm_335, (fun _ h => absurd h List.not_mem_nil)⟩), iw6⟩)⟩) (by decide +kernel))
set_option maxRecDepth 100000 in
theorem gLw_X7_fault : GoodIn lw_tbl (wsV RL 50 RX7 yX7_fault wsX7_fault) := goodIn_app (goodIn_sub (List.forall_mem_cons.mpr ⟨lm_1108, (List.forall_mem_cons.mpr ⟨lm_1109, (List.forall_mem_cons.mpr ⟨lm_1110, (List.forall_mem_cons.mpr ⟨lm_78, (fun _ h => absurd h List.not_mem_nil)⟩)⟩)⟩)⟩) (by decide +kernel)) (goodIn_sub (List.forall_mem_cons.mpr ⟨lm_1111, (List.forall_mem_append.mpr ⟨(List.forall_mem_cons.mpr ⟨lm_852, (fun _ h => absurd h List.not_mem_nil)⟩), iw7⟩)⟩) (by decide +kernel))
set_option maxRecDepth 100000 in
theorem gLw_X6_fits : GoodIn lw_tbl (wsV RL 51 RX6 yX6_fits wsX6_fits) := goodIn_app (goodIn_sub (List.forall_mem_cons.mpr ⟨lm_660, (List.forall_mem_cons.mpr ⟨lm_661, (List.forall_mem_cons.mpr ⟨lm_662, (List.forall_mem_cons.mpr ⟨lm_71, (fun _ h => absurd h List.not_mem_nil)⟩)⟩)⟩)⟩) (by decide +kernel)) (goodIn_sub (List.forall_mem_cons.mpr ⟨lm_663, (List.forall_mem_append.mpr ⟨(List.forall_mem_append.mpr ⟨(List.forall_mem_append.mpr ⟨(List.forall_mem_append.mpr ⟨(List.forall_mem_append.mpr ⟨(show ∀ w ∈ wsX6_fits_r1, w ∈ lw_tbl from (List.forall_mem_cons.mpr ⟨lm_332, (List.forall_mem_cons.mpr ⟨lm_299, (List.forall_mem_cons.mpr ⟨lm_664, (List.forall_mem_cons.mpr ⟨lm_666, (List.forall_mem_cons.mpr ⟨lm_25, (List.forall_mem_cons.mpr ⟨lm_71, (List.forall_mem_cons.mpr ⟨lm_667, (List.forall_mem_cons.mpr ⟨lm_329, (List.forall_mem_cons.mpr ⟨lm_333, (List.forall_mem_cons.mpr ⟨lm_371, (List.forall_mem_cons.mpr ⟨lm_372, (List.forall_mem_cons.mpr ⟨lm_373, (List.forall_mem_cons.mpr ⟨lm_72, (List.forall_mem_cons.mpr ⟨lm_374, (List.forall_mem_cons.mpr ⟨lm_100, (List.forall_mem_cons.mpr ⟨lm_668, (List.forall_mem_cons.mpr ⟨lm_549, (List.forall_mem_cons.mpr ⟨lm_550, (List.forall_mem_cons.mpr ⟨lm_76, (List.forall_mem_cons.mpr ⟨lm_551, (List.forall_mem_cons.mpr ⟨lm_220, (List.forall_mem_cons.mpr ⟨lm_669, (List.forall_mem_cons.mpr ⟨lm_670, (List.forall_mem_cons.mpr ⟨lm_671, (fun _ h => absurd h List.not_mem_nil)⟩)⟩)⟩)⟩)⟩)⟩)⟩)⟩)⟩)⟩)⟩)⟩)⟩)⟩)⟩)⟩)⟩)⟩)⟩)⟩)⟩)⟩)⟩)⟩)), (List.forall_mem_append.mpr ⟨(show ∀ w ∈ wsX6_fits_r2, w ∈ lw_tbl from (List.forall_mem_cons.mpr ⟨lm_77, (List.forall_mem_cons.mpr ⟨lm_672, (List.forall_mem_cons.mpr ⟨lm_302, (List.forall_mem_cons.mpr ⟨lm_298, (List.forall_mem_cons.mpr ⟨lm_297, (List.forall_mem_cons.mpr ⟨lm_296, (List.forall_mem_cons.mpr ⟨lm_101, (List.forall_mem_cons.mpr ⟨lm_673, (List.forall_mem_cons.mpr ⟨lm_674, (List.forall_mem_cons.mpr ⟨lm_676, (List.forall_mem_cons.mpr ⟨lm_26, (List.forall_mem_cons.mpr ⟨lm_677, (List.forall_mem_cons.mpr ⟨lm_221, (List.forall_mem_cons.mpr ⟨lm_239, (List.forall_mem_cons.mpr ⟨lm_678, (List.forall_mem_cons.mpr ⟨lm_680, (List.forall_mem_cons.mpr ⟨lm_27, (List.forall_mem_cons.mpr ⟨lm_681, (List.forall_mem_cons.mpr ⟨lm_232, (List.forall_mem_cons.mpr ⟨lm_682, (List.forall_mem_cons.mpr ⟨lm_683, (List.forall_mem_cons.mpr ⟨lm_684, (List.forall_mem_cons.mpr ⟨lm_685, (List.forall_mem_cons.mpr ⟨lm_110, (fun _ h => absurd h List.not_mem_nil)⟩)⟩)⟩)⟩)⟩)⟩)⟩)⟩)⟩)⟩)⟩)⟩)⟩)⟩)⟩)⟩)⟩)⟩)⟩)⟩)⟩)⟩)⟩)⟩)), (List.forall_mem_append.mpr ⟨(show ∀ w ∈ wsX6_fits_r3, w ∈ lw_tbl from (List.forall_mem_cons.mpr ⟨lm_235, (List.forall_mem_cons.mpr ⟨lm_112, (List.forall_mem_cons.mpr ⟨lm_686, (List.forall_mem_cons.mpr ⟨lm_688, (List.forall_mem_cons.mpr ⟨lm_28, (List.forall_mem_cons.mpr ⟨lm_689, (List.forall_mem_cons.mpr ⟨lm_306, (List.forall_mem_cons.mpr ⟨lm_307, (List.forall_mem_cons.mpr ⟨lm_690, (List.forall_mem_cons.mpr ⟨lm_692, (List.forall_mem_cons.mpr ⟨lm_29, (List.forall_mem_cons.mpr ⟨lm_693, (List.forall_mem_cons.mpr ⟨lm_241, (List.forall_mem_cons.mpr ⟨lm_243, (List.forall_mem_cons.mpr ⟨lm_305, (List.forall_mem_cons.mpr ⟨lm_694, (List.forall_mem_cons.mpr ⟨lm_696, (List.forall_mem_cons.mpr ⟨lm_30, (List.forall_mem_cons.mpr ⟨lm_697, (List.forall_mem_cons.mpr ⟨lm_304, (List.forall_mem_cons.mpr ⟨lm_245, (List.forall_mem_cons.mpr ⟨lm_115, (List.forall_mem_cons.mpr ⟨lm_698, (List.forall_mem_cons.mpr ⟨lm_700, (fun _ h => absurd h List.not_mem_nil)⟩)⟩)⟩)⟩)⟩)⟩)⟩)⟩)⟩)⟩)⟩)⟩)⟩)⟩)⟩)⟩)⟩)⟩)⟩)⟩)⟩)⟩)⟩)⟩)), (show ∀ w ∈ wsX6_fits_r4, w ∈ lw_tbl from (List.forall_mem_cons.mpr ⟨lm_31, (List.forall_mem_cons.mpr ⟨lm_701, (List.forall_mem_cons.mpr ⟨lm_251, (List.forall_mem_cons.mpr ⟨lm_248, (List.forall_mem_cons.mpr ⟨lm_105, (List.forall_mem_cons.mpr ⟨lm_107, (List.forall_mem_cons.mpr ⟨lm_254, (List.forall_mem_cons.mpr ⟨lm_702, (List.forall_mem_cons.mpr ⟨lm_704, (List.forall_mem_cons.mpr ⟨lm_32, (List.forall_mem_cons.mpr ⟨lm_705, (List.forall_mem_cons.mpr ⟨lm_706, (List.forall_mem_cons.mpr ⟨lm_707, (List.forall_mem_cons.mpr ⟨lm_708, (List.forall_mem_cons.mpr ⟨lm_709, (fun _ h => absurd h List.not_mem_nil)⟩)⟩)⟩)⟩)⟩)⟩)⟩)⟩)⟩)⟩)⟩)⟩)⟩)⟩)⟩))⟩)⟩)⟩), iw6⟩), iw2⟩), iw1⟩), iw0⟩)⟩) (by decide +kernel))
set_option maxRecDepth 100000 in
theorem gLw_X7_fits : GoodIn lw_tbl (wsV RL 55 RX7 yX7_fits wsX7_fits) := goodIn_app (goodIn_sub (List.forall_mem_cons.mpr ⟨lm_1112, (List.forall_mem_cons.mpr ⟨lm_1113, (List.forall_mem_cons.mpr ⟨lm_1114, (List.forall_mem_cons.mpr ⟨lm_78, (fun _ h => absurd h List.not_mem_nil)⟩)⟩)⟩)⟩) (by decide +kernel)) (goodIn_sub (List.forall_mem_cons.mpr ⟨lm_1115, (List.forall_mem_append.mpr ⟨(List.forall_mem_append.mpr ⟨(show ∀ w ∈ wsX7_fits_r1, w ∈ lw_tbl from (List.forall_mem_cons.mpr ⟨lm_858, (List.forall_mem_cons.mpr ⟨lm_1116, (List.forall_mem_cons.mpr ⟨lm_1118, (List.forall_mem_cons.mpr ⟨lm_57, (List.forall_mem_cons.mpr ⟨lm_78, (List.forall_mem_cons.mpr ⟨lm_1119, (List.forall_mem_cons.mpr ⟨lm_990, (List.forall_mem_cons.mpr ⟨lm_992, (List.forall_mem_cons.mpr ⟨lm_36, (List.forall_mem_cons.mpr ⟨lm_993, (List.forall_mem_cons.mpr ⟨lm_810, (List.forall_mem_cons.mpr ⟨lm_994, (List.forall_mem_cons.mpr ⟨lm_995, (List.forall_mem_cons.mpr ⟨lm_996, (List.forall_mem_cons.mpr ⟨lm_1120, (List.forall_mem_cons.mpr ⟨lm_1122, (List.forall_mem_cons.mpr ⟨lm_58, (List.forall_mem_cons.mpr ⟨lm_1123, (List.forall_mem_cons.mpr ⟨lm_817, (List.forall_mem_cons.mpr ⟨lm_1124, (List.forall_mem_cons.mpr ⟨lm_1126, (List.forall_mem_cons.mpr ⟨lm_59, (List.forall_mem_cons.mpr ⟨lm_1127, (List.forall_mem_cons.mpr ⟨lm_816, (fun _ h => absurd h List.not_mem_nil)⟩)⟩)⟩)⟩)⟩)⟩)⟩)⟩)⟩)⟩)⟩)⟩)⟩)⟩)⟩)⟩)⟩)⟩)⟩)⟩)⟩)⟩)⟩)⟩)), (List.forall_mem_append.mpr ⟨(show ∀ w ∈ wsX7_fits_r2, w ∈ lw_tbl from (List.forall_mem_cons.mpr ⟨lm_859, (List.forall_mem_cons.mpr ⟨lm_1128, (List.forall_mem_cons.mpr ⟨lm_1130, (List.forall_mem_cons.mpr ⟨lm_60, (List.forall_mem_cons.mpr ⟨lm_1131, (List.forall_mem_cons.mpr ⟨lm_860, (List.forall_mem_cons.mpr ⟨lm_1132, (List.forall_mem_cons.mpr ⟨lm_1134, (List.forall_mem_cons.mpr ⟨lm_61, (List.forall_mem_cons.mpr ⟨lm_1135, (List.forall_mem_cons.mpr ⟨lm_862, (List.forall_mem_cons.mpr ⟨lm_820, (List.forall_mem_cons.mpr ⟨lm_822, (List.forall_mem_cons.mpr ⟨lm_823, (List.forall_mem_cons.mpr ⟨lm_1136, (List.forall_mem_cons.mpr ⟨lm_1138, (List.forall_mem_cons.mpr ⟨lm_62, (List.forall_mem_cons.mpr ⟨lm_1139, (List.forall_mem_cons.mpr ⟨lm_1140, (List.forall_mem_cons.mpr ⟨lm_1142, (List.forall_mem_cons.mpr ⟨lm_63, (List.forall_mem_cons.mpr ⟨lm_1143, (List.forall_mem_cons.mpr ⟨lm_819, (List.forall_mem_cons.mpr ⟨lm_813, (fun _ h => absurd h List.not_mem_nil)⟩)⟩)⟩)⟩)⟩)⟩)⟩)⟩)⟩)⟩)⟩)⟩)⟩)⟩)⟩)⟩)⟩)⟩)⟩)⟩)⟩)⟩)⟩)⟩)), (List.forall_mem_append.mpr ⟨(show ∀ w ∈ wsX7_fits_r3, w ∈ lw_tbl from (List.forall_mem_cons.mpr ⟨lm_1144, (List.forall_mem_cons.mpr ⟨lm_1146, (List.forall_mem_cons.mpr ⟨lm_64, (List.forall_mem_cons.mpr ⟨lm_1147, (List.forall_mem_cons.mpr ⟨lm_814, (List.forall_mem_cons.mpr ⟨lm_1148, (List.forall_mem_cons.mpr ⟨lm_1150, (List.forall_mem_cons.mpr ⟨lm_65, (List.forall_mem_cons.mpr ⟨lm_1151, (List.forall_mem_cons.mpr ⟨lm_821, (List.forall_mem_cons.mpr ⟨lm_1152, (List.forall_mem_cons.mpr ⟨lm_1154, (List.forall_mem_cons.mpr ⟨lm_66, (List.forall_mem_cons.mpr ⟨lm_1155, (List.forall_mem_cons.mpr ⟨lm_825, (List.forall_mem_cons.mpr ⟨lm_861, (List.forall_mem_cons.mpr ⟨lm_826, (List.forall_mem_cons.mpr ⟨lm_827, (List.forall_mem_cons.mpr ⟨lm_830, (List.forall_mem_cons.mpr ⟨lm_828, (List.forall_mem_cons.mpr ⟨lm_829, (List.forall_mem_cons.mpr ⟨lm_1156, (List.forall_mem_cons.mpr ⟨lm_1158, (List.forall_mem_cons.mpr ⟨lm_67, (fun _ h => absurd h List.not_mem_nil)⟩)⟩)⟩)⟩)⟩)⟩)⟩)⟩)⟩)⟩)⟩)⟩)⟩)⟩)⟩)⟩)⟩)⟩)⟩)⟩)⟩)⟩)⟩)⟩)), (show ∀ w ∈ wsX7_fits_r4, w ∈ lw_tbl from (List.forall_mem_cons.mpr ⟨lm_1159, (List.forall_mem_cons.mpr ⟨lm_815, (List.forall_mem_cons.mpr ⟨lm_811, (List.forall_mem_cons.mpr ⟨lm_812, (List.forall_mem_cons.mpr ⟨lm_824, (List.forall_mem_cons.mpr ⟨lm_1160, (List.forall_mem_cons.mpr ⟨lm_1162, (List.forall_mem_cons.mpr ⟨lm_68, (List.forall_mem_cons.mpr ⟨lm_1163, (List.forall_mem_cons.mpr ⟨lm_1164, (List.forall_mem_cons.mpr ⟨lm_1165, (List.forall_mem_cons.mpr ⟨lm_1166, (fun _ h => absurd h List.not_mem_nil)⟩)⟩)⟩)⟩)⟩)⟩)⟩)⟩)⟩)⟩)⟩)⟩))⟩)⟩)⟩), iw7⟩)⟩) (by decide +kernel))
set_option maxRecDepth 100000 in
theorem gLw_X6_surely : GoodIn lw_tbl (wsV RL 56 RX6 yX6_surely wsX6_surely) := goodIn_app (goodIn_sub (List.forall_mem_cons.mpr ⟨lm_711, (List.forall_mem_cons.mpr ⟨lm_712, (List.forall_mem_cons.mpr ⟨lm_713, (List.forall_mem_cons.mpr ⟨lm_71, (fun _ h => absurd h List.not_mem_nil)⟩)⟩)⟩)⟩) (by decide +kernel)) (goodIn_sub (List.forall_mem_cons.mpr ⟨lm_714, (List.forall_mem_append.mpr ⟨(List.forall_mem_append.mpr ⟨(List.forall_mem_append.mpr ⟨(List.forall_mem_append.mpr ⟨(List.forall_mem_append.mpr ⟨(show ∀ w ∈ wsX6_surely_r1, w ∈ lw_tbl from (List.forall_mem_cons.mpr ⟨lm_332, (List.forall_mem_cons.mpr ⟨lm_301, (List.forall_mem_cons.mpr ⟨lm_664, (List.forall_mem_cons.mpr ⟨lm_666, (List.forall_mem_cons.mpr ⟨lm_25, (List.forall_mem_cons.mpr ⟨lm_71, (List.forall_mem_cons.mpr ⟨lm_667, (List.forall_mem_cons.mpr ⟨lm_329, (List.forall_mem_cons.mpr ⟨lm_333, (List.forall_mem_cons.mpr ⟨lm_371, (List.forall_mem_cons.mpr ⟨lm_372, (List.forall_mem_cons.mpr ⟨lm_373, (List.forall_mem_cons.mpr ⟨lm_72, (List.forall_mem_cons.mpr ⟨lm_374, (List.forall_mem_cons.mpr ⟨lm_100, (List.forall_mem_cons.mpr ⟨lm_668, (List.forall_mem_cons.mpr ⟨lm_549, (List.forall_mem_cons.mpr ⟨lm_550, (List.forall_mem_cons.mpr ⟨lm_76, (List.forall_mem_cons.mpr ⟨lm_551, (List.forall_mem_cons.mpr ⟨lm_220, (List.forall_mem_cons.mpr ⟨lm_669, (List.forall_mem_cons.mpr ⟨lm_670, (List.forall_mem_cons.mpr ⟨lm_671, (fun _ h => absurd h List.not_mem_nil)⟩)⟩)⟩)⟩)⟩)⟩)⟩)⟩)⟩)⟩)⟩)⟩)⟩)⟩)⟩)⟩)⟩)⟩)⟩)⟩)⟩)⟩)⟩)⟩)), (List.forall_mem_append.mpr ⟨(show ∀ w ∈ wsX6_surely_r2, w ∈ lw_tbl from (List.forall_mem_cons.mpr ⟨lm_77, (List.forall_mem_cons.mpr ⟨lm_672, (List.forall_mem_cons.mpr ⟨lm_302, (List.forall_mem_cons.mpr ⟨lm_298, (List.forall_mem_cons.mpr ⟨lm_297, (List.forall_mem_cons.mpr ⟨lm_296, (List.forall_mem_cons.mpr ⟨lm_101, (List.forall_mem_cons.mpr ⟨lm_673, (List.forall_mem_cons.mpr ⟨lm_674, (List.forall_mem_cons.mpr ⟨lm_676, (List.forall_mem_cons.mpr ⟨lm_26, (List.forall_mem_cons.mpr ⟨lm_677, (List.forall_mem_cons.mpr ⟨lm_221, (List.forall_mem_cons.mpr ⟨lm_239, (List.forall_mem_cons.mpr ⟨lm_678, (List.forall_mem_cons.mpr ⟨lm_680, (List.forall_mem_cons.mpr ⟨lm_27, (List.forall_mem_cons.mpr ⟨lm_681, (List.forall_mem_cons.mpr ⟨lm_232, (List.forall_mem_cons.mpr ⟨lm_682, (List.forall_mem_cons.mpr ⟨lm_683, (List.forall_mem_cons.mpr ⟨lm_684, (List.forall_mem_cons.mpr ⟨lm_685, (List.forall_mem_cons.mpr ⟨lm_110, (fun _ h => absurd h List.not_mem_nil)⟩)⟩)⟩)⟩)⟩)⟩)⟩)⟩)⟩)⟩)⟩)⟩)⟩)⟩)⟩)⟩)⟩)⟩)⟩)⟩)⟩)⟩)⟩)⟩)), (List.forall_mem_append.mpr ⟨(show ∀ w ∈ wsX6_surely_r3, w ∈ lw_tbl from (List.forall_mem_cons.mpr ⟨lm_235, (List.forall_mem_cons.mpr ⟨lm_112, (List.forall_mem_cons.mpr ⟨lm_686, (List.forall_mem_cons.mpr ⟨lm_688, (List.forall_mem_cons.mpr ⟨lm_28, (List.forall_mem_cons.mpr ⟨lm_689, (List.forall_mem_cons.mpr ⟨lm_306, (List.forall_mem_cons.mpr ⟨lm_307, (List.forall_mem_cons.mpr ⟨lm_690, (List.forall_mem_cons.mpr ⟨lm_692, (List.forall_mem_cons.mpr ⟨lm_29, (List.forall_mem_cons.mpr ⟨lm_693, (List.forall_mem_cons.mpr ⟨lm_241, (List.forall_mem_cons.mpr ⟨lm_243, (List.forall_mem_cons.mpr ⟨lm_305, (List.forall_mem_cons.mpr ⟨lm_694, (List.forall_mem_cons.mpr ⟨lm_696, (List.forall_mem_cons.mpr ⟨lm_30, (List.forall_mem_cons.mpr ⟨lm_697, (List.forall_mem_cons.mpr ⟨lm_304, (List.forall_mem_cons.mpr ⟨lm_245, (List.forall_mem_cons.mpr ⟨lm_115, (List.forall_mem_cons.mpr ⟨lm_698, (List.forall_mem_cons.mpr ⟨lm_700, (fun _ h => absurd h List.not_mem_nil)⟩)⟩)⟩)⟩)⟩)⟩)⟩)⟩)⟩)⟩)⟩)⟩)⟩)⟩)⟩)⟩)⟩)⟩)⟩)⟩)⟩)⟩)⟩)⟩)), (List.forall_mem_append.mpr ⟨(show ∀ w ∈ wsX6_surely_r4, w ∈ lw_tbl from (List.forall_mem_cons.mpr ⟨lm_31, (List.forall_mem_cons.mpr ⟨lm_701, (List.forall_mem_cons.mpr ⟨lm_251, (List.forall_mem_cons.mpr ⟨lm_248, (List.forall_mem_cons.mpr ⟨lm_105, (List.forall_mem_cons.mpr ⟨lm_107, (List.forall_mem_cons.mpr ⟨lm_254, (List.forall_mem_cons.mpr ⟨lm_702, (List.forall_mem_cons.mpr ⟨lm_704, (List.forall_mem_cons.mpr ⟨lm_32, (List.forall_mem_cons.mpr ⟨lm_705, (List.forall_mem_cons.mpr ⟨lm_706, (List.forall_mem_cons.mpr ⟨lm_707, (List.forall_mem_cons.mpr ⟨lm_708, (List.forall_mem_cons.mpr ⟨lm_709, (List.forall_mem_cons.mpr ⟨lm_715, (List.forall_mem_cons.mpr ⟨lm_716, (List.forall_mem_cons.mpr ⟨lm_717, (List.forall_mem_cons.mpr ⟨lm_718, (List.forall_mem_cons.mpr ⟨lm_303, (List.forall_mem_cons.mpr ⟨lm_300, (List.forall_mem_cons.mpr ⟨lm_719, (List.forall_mem_cons.mpr ⟨lm_721, (List.forall_mem_cons.mpr ⟨lm_33, (fun _ h => absurd h List.not_mem_nil)⟩)⟩)⟩)⟩)⟩)⟩)⟩)⟩)⟩)⟩)⟩)⟩)⟩)⟩)⟩)⟩)⟩)⟩)⟩)⟩)⟩)⟩)⟩)⟩)), (show ∀ w ∈ wsX6_surely_r5, w ∈ lw_tbl from (List.forall_mem_cons.mpr ⟨lm_722, (fun _ h => absurd h List.not_mem_nil)⟩))⟩)⟩)⟩)⟩), iw6⟩), iw2⟩), iw1⟩), iw0⟩)⟩) (by decide +kernel))
set_option maxRecDepth 100000 in
theorem gLw_X7_surely : GoodIn lw_tbl (wsV RL 59 RX7 yX7_surely wsX7_surely) := goodIn_app (goodIn_sub (List.forall_mem_cons.mpr ⟨lm_1167, (List.forall_mem_cons.mpr ⟨lm_1168, (List.forall_mem_cons.mpr ⟨lm_1169, (List.forall_mem_cons.mpr ⟨lm_78, (fun _ h => absurd h List.not_mem_nil)⟩)⟩)⟩)⟩) (by decide +kernel)) (goodIn_sub (List.forall_mem_cons.mpr ⟨lm_1170, (List.forall_mem_append.mpr ⟨(List.forall_mem_append.mpr ⟨(show ∀ w ∈ wsX7_surely_r1, w ∈ lw_tbl from (List.forall_mem_cons.mpr ⟨lm_859, (List.forall_mem_cons.mpr ⟨lm_1116, (List.forall_mem_cons.mpr ⟨lm_1118, (List.forall_mem_cons.mpr ⟨lm_57, (List.forall_mem_cons.mpr ⟨lm_78, (List.forall_mem_cons.mpr ⟨lm_1119, (List.forall_mem_cons.mpr ⟨lm_990, (List.forall_mem_cons.mpr ⟨lm_992, (List.forall_mem_cons.mpr ⟨lm_36, (List.forall_mem_cons.mpr ⟨lm_993, (List.forall_mem_cons.mpr ⟨lm_810, (List.forall_mem_cons.mpr ⟨lm_994, (List.forall_mem_cons.mpr ⟨lm_995, (List.forall_mem_cons.mpr ⟨lm_996, (List.forall_mem_cons.mpr ⟨lm_1120, (List.forall_mem_cons.mpr ⟨lm_1122, (List.forall_mem_cons.mpr ⟨lm_58, (List.forall_mem_cons.mpr ⟨lm_1123, (List.forall_mem_cons.mpr ⟨lm_817, (List.forall_mem_cons.mpr ⟨lm_1124, (List.forall_mem_cons.mpr ⟨lm_1126, (List.forall_mem_cons.mpr ⟨lm_59, (List.forall_mem_cons.mpr ⟨lm_1127, (List.forall_mem_cons.mpr ⟨lm_816, (fun _ h => absurd h List.not_mem_nil)⟩)⟩)⟩)⟩)⟩)⟩)⟩)⟩)⟩)⟩)⟩)⟩)⟩)⟩)⟩)⟩)⟩)⟩)⟩)⟩)⟩)⟩)⟩)⟩)), (List.forall_mem_append.mpr ⟨(show ∀ w ∈ wsX7_surely_r2, w ∈ lw_tbl from (List.forall_mem_cons.mpr ⟨lm_858, (List.forall_mem_cons.mpr ⟨lm_1128, (List.forall_mem_cons.mpr ⟨lm_1130, (List.forall_mem_cons.mpr ⟨lm_60, (List.forall_mem_cons.mpr ⟨lm_1131, (List.forall_mem_cons.mpr ⟨lm_860, (List.forall_mem_cons.mpr ⟨lm_1132, (List.forall_mem_cons.mpr ⟨lm_1134, (List.forall_mem_cons.mpr ⟨lm_61, (List.forall_mem_cons.mpr ⟨lm_1135, (List.forall_mem_cons.mpr ⟨lm_862, (List.forall_mem_cons.mpr ⟨lm_820, (List.forall_mem_cons.mpr ⟨lm_822, (List.forall_mem_cons.mpr ⟨lm_823, (List.forall_mem_cons.mpr ⟨lm_1136, (List.forall_mem_cons.mpr ⟨lm_1138, (List.forall_mem_cons.mpr ⟨lm_62, (List.forall_mem_cons.mpr ⟨lm_1139, (List.forall_mem_cons.mpr ⟨lm_1140, (List.forall_mem_cons.mpr ⟨lm_1142, (List.forall_mem_cons.mpr ⟨lm_63, (List.forall_mem_cons.mpr ⟨lm_1143, (List.forall_mem_cons.mpr ⟨lm_819, (List.forall_mem_cons.mpr ⟨lm_813, (fun _ h => absurd h List.not_mem_nil)⟩)⟩)⟩)⟩)⟩)⟩)⟩)⟩)⟩)⟩)⟩)⟩)⟩)⟩)⟩)⟩)⟩)⟩)⟩)⟩)⟩)⟩)⟩)⟩)), (List.forall_mem_append.mpr ⟨(show ∀ w ∈ wsX7_surely_r3, w ∈ lw_tbl from (List.forall_mem_cons.mpr ⟨lm_1144, (List.forall_mem_cons.mpr ⟨lm_1146, (List.forall_mem_cons.mpr ⟨lm_64, (List.forall_mem_cons.mpr ⟨lm_1147, (List.forall_mem_cons.mpr ⟨lm_814, (List.forall_mem_cons.mpr ⟨lm_1148, (List.forall_mem_cons.mpr ⟨lm_1150, (List.forall_mem_cons.mpr ⟨lm_65, (List.forall_mem_cons.mpr ⟨lm_1151, (List.forall_mem_cons.mpr ⟨lm_821, (List.forall_mem_cons.mpr ⟨lm_1152, (List.forall_mem_cons.mpr ⟨lm_1154, (List.forall_mem_cons.mpr ⟨lm_66, (List.forall_mem_cons.mpr ⟨lm_1155, (List.forall_mem_cons.mpr ⟨lm_825, (List.forall_mem_cons.mpr ⟨lm_861, (List.forall_mem_cons.mpr ⟨lm_826, (List.forall_mem_cons.mpr ⟨lm_827, (List.forall_mem_cons.mpr ⟨lm_830, (List.forall_mem_cons.mpr ⟨lm_828, (List.forall_mem_cons.mpr ⟨lm_829, (List.forall_mem_cons.mpr ⟨lm_1156, (List.forall_mem_cons.mpr ⟨lm_1158, (List.forall_mem_cons.mpr ⟨lm_67, (fun _ h => absurd h List.not_mem_nil)⟩)⟩)⟩)⟩)⟩)⟩)⟩)⟩)⟩)⟩)⟩)⟩)⟩)⟩)⟩)⟩)⟩)⟩)⟩)⟩)⟩)⟩)⟩)⟩)), (show ∀ w ∈ wsX7_surely_r4, w ∈ lw_tbl from (List.forall_mem_cons.mpr ⟨lm_1159, (List.forall_mem_cons.mpr ⟨lm_815, (List.forall_mem_cons.mpr ⟨lm_811, (List.forall_mem_cons.mpr ⟨lm_812, (List.forall_mem_cons.mpr ⟨lm_824, (List.forall_mem_cons.mpr ⟨lm_1160, (List.forall_mem_cons.mpr ⟨lm_1162, (List.forall_mem_cons.mpr ⟨lm_68, (List.forall_mem_cons.mpr ⟨lm_1163, (List.forall_mem_cons.mpr ⟨lm_1164, (List.forall_mem_cons.mpr ⟨lm_1165, (List.forall_mem_cons.mpr ⟨lm_1166, (fun _ h => absurd h List.not_mem_nil)⟩)⟩)⟩)⟩)⟩)⟩)⟩)⟩)⟩)⟩)⟩)⟩))⟩)⟩)⟩), iw7⟩)⟩) (by decide +kernel))
set_option maxRecDepth 100000 in
theorem gLw_X6_all : GoodIn lw_tbl (wsV RL 60 RX6 yX6_all wsX6_all) := goodIn_app (goodIn_sub (List.forall_mem_cons.mpr ⟨lm_723, (List.forall_mem_cons.mpr ⟨lm_724, (List.forall_mem_cons.mpr ⟨lm_725, (List.forall_mem_cons.mpr ⟨lm_71, (fun _ h => absurd h List.not_mem_nil)⟩)⟩)⟩)⟩) (by decide +kernel)) (goodIn_sub (List.forall_mem_cons.mpr ⟨lm_726, (List.forall_mem_append.mpr ⟨(List.forall_mem_append.mpr ⟨(List.forall_mem_append.mpr ⟨(List.forall_mem_append.mpr ⟨(List.forall_mem_append.mpr ⟨(show ∀ w ∈ wsX6_all_r1, w ∈ lw_tbl from (List.forall_mem_cons.mpr ⟨lm_333, (List.forall_mem_cons.mpr ⟨lm_332, (List.forall_mem_cons.mpr ⟨lm_299, (List.forall_mem_cons.mpr ⟨lm_668, (List.forall_mem_cons.mpr ⟨lm_549, (List.forall_mem_cons.mpr ⟨lm_550, (List.forall_mem_cons.mpr ⟨lm_76, (List.forall_mem_cons.mpr ⟨lm_551, (List.forall_mem_cons.mpr ⟨lm_220, (List.forall_mem_cons.mpr ⟨lm_669, (List.forall_mem_cons.mpr ⟨lm_670, (List.forall_mem_cons.mpr ⟨lm_671, (List.forall_mem_cons.mpr ⟨lm_77, (List.forall_mem_cons.mpr ⟨lm_672, (List.forall_mem_cons.mpr ⟨lm_302, (List.forall_mem_cons.mpr ⟨lm_298, (List.forall_mem_cons.mpr ⟨lm_297, (List.forall_mem_cons.mpr ⟨lm_296, (List.forall_mem_cons.mpr ⟨lm_101, (List.forall_mem_cons.mpr ⟨lm_673, (List.forall_mem_cons.mpr ⟨lm_674, (List.forall_mem_cons.mpr ⟨lm_676, (List.forall_mem_cons.mpr ⟨lm_26, (List.forall_mem_cons.mpr ⟨lm_677, (fun _ h => absurd h List.not_mem_nil)⟩)⟩)⟩)⟩)⟩)⟩)⟩)⟩)⟩)⟩)⟩)⟩)⟩)⟩)⟩)⟩)⟩)⟩)⟩)⟩)⟩)⟩)⟩)⟩)), (List.forall_mem_append.mpr ⟨(show ∀ w ∈ wsX6_all_r2, w ∈ lw_tbl from (List.forall_mem_cons.mpr ⟨lm_221, (List.forall_mem_cons.mpr ⟨lm_239, (List.forall_mem_cons.mpr ⟨lm_678, (List.forall_mem_cons.mpr ⟨lm_680, (List.forall_mem_cons.mpr ⟨lm_27, (List.forall_mem_cons.mpr ⟨lm_681, (List.forall_mem_cons.mpr ⟨lm_232, (List.forall_mem_cons.mpr ⟨lm_682, (List.forall_mem_cons.mpr ⟨lm_683, (List.forall_mem_cons.mpr ⟨lm_684, (List.forall_mem_cons.mpr ⟨lm_685, (List.forall_mem_cons.mpr ⟨lm_110, (List.forall_mem_cons.mpr ⟨lm_235, (List.forall_mem_cons.mpr ⟨lm_112, (List.forall_mem_cons.mpr ⟨lm_686, (List.forall_mem_cons.mpr ⟨lm_688, (List.forall_mem_cons.mpr ⟨lm_28, (List.forall_mem_cons.mpr ⟨lm_689, (List.forall_mem_cons.mpr ⟨lm_306, (List.forall_mem_cons.mpr ⟨lm_307, (List.forall_mem_cons.mpr ⟨lm_690, (List.forall_mem_cons.mpr ⟨lm_692, (List.forall_mem_cons.mpr ⟨lm_29, (List.forall_mem_cons.mpr ⟨lm_693, (fun _ h => absurd h List.not_mem_nil)⟩)⟩)⟩)⟩)⟩)⟩)⟩)⟩)⟩)⟩)⟩)⟩)⟩)⟩)⟩)⟩)⟩)⟩)⟩)⟩)⟩)⟩)⟩)⟩)), (List.forall_mem_append.mpr ⟨(show ∀ w ∈ wsX6_all_r3, w ∈ lw_tbl from (List.forall_mem_cons.mpr ⟨lm_241, (List.forall_mem_cons.mpr ⟨lm_243, (List.forall_mem_cons.mpr ⟨lm_305, (List.forall_mem_cons.mpr ⟨lm_694, (List.forall_mem_cons.mpr ⟨lm_696, (List.forall_mem_cons.mpr ⟨lm_30, (List.forall_mem_cons.mpr ⟨lm_697, (List.forall_mem_cons.mpr ⟨lm_304, (List.forall_mem_cons.mpr ⟨lm_245, (List.forall_mem_cons.mpr ⟨lm_115, (List.forall_mem_cons.mpr ⟨lm_698, (List.forall_mem_cons.mpr ⟨lm_700, (List.forall_mem_cons.mpr ⟨lm_31, (List.forall_mem_cons.mpr ⟨lm_701, (List.forall_mem_cons.mpr ⟨lm_251, (List.forall_mem_cons.mpr ⟨lm_248, (List.forall_mem_cons.mpr ⟨lm_105, (List.forall_mem_cons.mpr ⟨lm_107, (List.forall_mem_cons.mpr ⟨lm_254, (List.forall_mem_cons.mpr ⟨lm_702, (List.forall_mem_cons.mpr ⟨lm_704, (List.forall_mem_cons.mpr ⟨lm_32, (List.forall_mem_cons.mpr ⟨lm_705, (List.forall_mem_cons.mpr ⟨lm_706, (fun _ h => absurd h List.not_mem_nil)⟩)⟩)⟩)⟩)⟩)⟩)⟩)⟩)⟩)⟩)⟩)⟩)⟩)⟩)⟩)⟩)⟩)⟩)⟩)⟩)⟩)⟩)⟩)⟩)), (show ∀ w ∈ wsX6_all_r4, w ∈ lw_tbl from (List.forall_mem_cons.mpr ⟨lm_707, (List.forall_mem_cons.mpr ⟨lm_708, (List.forall_mem_cons.mpr ⟨lm_709, (fun _ h => absurd h List.not_mem_nil)⟩)⟩)⟩))⟩)⟩)⟩), iw6⟩), iw2⟩), iw0⟩), iw1⟩)⟩) (by decide +kernel))
set_option maxRecDepth 100000 in
theorem gLw_X7_all : GoodIn lw_tbl (wsV RL 63 RX7 yX7_all wsX7_all) := goodIn_app (goodIn_sub (List.forall_mem_cons.mpr ⟨lm_1171, (List.forall_mem_cons.mpr ⟨lm_1172, (List.forall_mem_cons.mpr ⟨lm_1173, (List.forall_mem_cons.mpr ⟨lm_78, (fun _ h => absurd h List.not_mem_nil)⟩)⟩)⟩)⟩) (by decide +kernel)) (goodIn_sub (List.forall_mem_cons.mpr ⟨lm_1174, (List.forall_mem_append.mpr ⟨(List.forall_mem_append.mpr ⟨(show ∀ w ∈ wsX7_all_r1, w ∈ lw_tbl from (List.forall_mem_cons.mpr ⟨lm_810, (List.forall_mem_cons.mpr ⟨lm_858, (List.forall_mem_cons.mpr ⟨lm_1120, (List.forall_mem_cons.mpr ⟨lm_1122, (List.forall_mem_cons.mpr ⟨lm_58, (List.forall_mem_cons.mpr ⟨lm_78, (List.forall_mem_cons.mpr ⟨lm_1123, (List.forall_mem_cons.mpr ⟨lm_817, (List.forall_mem_cons.mpr ⟨lm_994, (List.forall_mem_cons.mpr ⟨lm_995, (List.forall_mem_cons.mpr ⟨lm_996, (List.forall_mem_cons.mpr ⟨lm_1124, (List.forall_mem_cons.mpr ⟨lm_1126, (List.forall_mem_cons.mpr ⟨lm_59, (List.forall_mem_cons.mpr ⟨lm_1127, (List.forall_mem_cons.mpr ⟨lm_816, (List.forall_mem_cons.mpr ⟨lm_859, (List.forall_mem_cons.mpr ⟨lm_1128, (List.forall_mem_cons.mpr ⟨lm_1130, (List.forall_mem_cons.mpr ⟨lm_60, (List.forall_mem_cons.mpr ⟨lm_1131, (List.forall_mem_cons.mpr ⟨lm_860, (List.forall_mem_cons.mpr ⟨lm_1132, (List.forall_mem_cons.mpr ⟨lm_1134, (fun _ h => absurd h List.not_mem_nil)⟩)⟩)⟩)⟩)⟩)⟩)⟩)⟩)⟩)⟩)⟩)⟩)⟩)⟩)⟩)⟩)⟩)⟩)⟩)⟩)⟩)⟩)⟩)⟩)), (List.forall_mem_append.mpr ⟨(show ∀ w ∈ wsX7_all_r2, w ∈ lw_tbl from (List.forall_mem_cons.mpr ⟨lm_61, (List.forall_mem_cons.mpr ⟨lm_1135, (List.forall_mem_cons.mpr ⟨lm_862, (List.forall_mem_cons.mpr ⟨lm_820, (List.forall_mem_cons.mpr ⟨lm_822, (List.forall_mem_cons.mpr ⟨lm_823, (List.forall_mem_cons.mpr ⟨lm_1136, (List.forall_mem_cons.mpr ⟨lm_1138, (List.forall_mem_cons.mpr ⟨lm_62, (List.forall_mem_cons.mpr ⟨lm_1139, (List.forall_mem_cons.mpr ⟨lm_1140, (List.forall_mem_cons.mpr ⟨lm_1142, (List.forall_mem_cons.mpr ⟨lm_63, (List.forall_mem_cons.mpr ⟨lm_1143, (List.forall_mem_cons.mpr ⟨lm_819, (List.forall_mem_cons.mpr ⟨lm_813, (List.forall_mem_cons.mpr ⟨lm_1144, (List.forall_mem_cons.mpr ⟨lm_1146, (List.forall_mem_cons.mpr ⟨lm_64, (List.forall_mem_cons.mpr ⟨lm_1147, (List.forall_mem_cons.mpr ⟨lm_814, (List.forall_mem_cons.mpr ⟨lm_1148, (List.forall_mem_cons.mpr ⟨lm_1150, (List.forall_mem_cons.mpr ⟨lm_65, (fun _ h => absurd h List.not_mem_nil)⟩)⟩)⟩)⟩)⟩)⟩)⟩)⟩)⟩)⟩)⟩)⟩)⟩)⟩)⟩)⟩)⟩)⟩)⟩)⟩)⟩)⟩)⟩)⟩)), (List.forall_mem_append.mpr ⟨(show ∀ w ∈ wsX7_all_r3, w ∈ lw_tbl from (List.forall_mem_cons.mpr ⟨lm_1151, (List.forall_mem_cons.mpr ⟨lm_821, (List.forall_mem_cons.mpr ⟨lm_1152, (List.forall_mem_cons.mpr ⟨lm_1154, (List.forall_mem_cons.mpr ⟨lm_66, (List.forall_mem_cons.mpr ⟨lm_1155, (List.forall_mem_cons.mpr ⟨lm_825, (List.forall_mem_cons.mpr ⟨lm_861, (List.forall_mem_cons.mpr ⟨lm_826, (List.forall_mem_cons.mpr ⟨lm_827, (List.forall_mem_cons.mpr ⟨lm_830, (List.forall_mem_cons.mpr ⟨lm_828, (List.forall_mem_cons.mpr ⟨lm_829, (List.forall_mem_cons.mpr ⟨lm_1156, (List.forall_mem_cons.mpr ⟨lm_1158, (List.forall_mem_cons.mpr ⟨lm_67, (List.forall_mem_cons.mpr ⟨lm_1159, (List.forall_mem_cons.mpr ⟨lm_815, (List.forall_mem_cons.mpr ⟨lm_811, (List.forall_mem_cons.mpr ⟨lm_812, (List.forall_mem_cons.mpr ⟨lm_824, (List.forall_mem_cons.mpr ⟨lm_1160, (List.forall_mem_cons.mpr ⟨lm_1162, (List.forall_mem_cons.mpr ⟨lm_68, (fun _ h => absurd h List.not_mem_nil)⟩)⟩)⟩)⟩)⟩)⟩)⟩)⟩)⟩)⟩)⟩)⟩)⟩)⟩)⟩)⟩)⟩)⟩)⟩)⟩)⟩)⟩)⟩)⟩)), (show ∀ w ∈ wsX7_all_r4, w ∈ lw_tbl from (List.forall_mem_cons.mpr ⟨lm_1163, (List.forall_mem_cons.mpr ⟨lm_1164, (List.forall_mem_cons.mpr ⟨lm_1165, (List.forall_mem_cons.mpr ⟨lm_1166, (fun _ h => absurd h List.not_mem_nil)⟩)⟩)⟩)⟩))⟩)⟩)⟩), iw7⟩)⟩) (by decide +kernel))
set_option maxRecDepth 100000 in
theorem gLw_X6_wanted : GoodIn lw_tbl (wsV RL 64 RX6 yX6_wanted wsX6_wanted) := goodIn_app (goodIn_sub (List.forall_mem_cons.mpr ⟨lm_727, (List.forall_mem_cons.mpr ⟨lm_728, (List.forall_mem_cons.mpr ⟨lm_729, (List.forall_mem_cons.mpr ⟨lm_71, (fun _ h => absurd h List.not_mem_nil)⟩)⟩)⟩)⟩) (by decide +kernel)) (goodIn_sub (List.forall_mem_cons.mpr ⟨lm_730, (List.forall_mem_append.mpr ⟨(List.forall_mem_append.mpr ⟨(List.forall_mem_append.mpr ⟨(List.forall_mem_append.mpr ⟨(List.forall_mem_append.mpr ⟨(show ∀ w ∈ wsX6_wanted_r1, w ∈ lw_tbl from (List.forall_mem_cons.mpr ⟨lm_332, (List.forall_mem_cons.mpr ⟨lm_664, (List.forall_mem_cons.mpr ⟨lm_666, (List.forall_mem_cons.mpr ⟨lm_25, (List.forall_mem_cons.mpr ⟨lm_71, (List.forall_mem_cons.mpr ⟨lm_667, (List.forall_mem_cons.mpr ⟨lm_329, (List.forall_mem_cons.mpr ⟨lm_333, (List.forall_mem_cons.mpr ⟨lm_371, (List.forall_mem_cons.mpr ⟨lm_372, (List.forall_mem_cons.mpr ⟨lm_373, (List.forall_mem_cons.mpr ⟨lm_72, (List.forall_mem_cons.mpr ⟨lm_374, (List.forall_mem_cons.mpr ⟨lm_100, (List.forall_mem_cons.mpr ⟨lm_668, (List.forall_mem_cons.mpr ⟨lm_549, (List.forall_mem_cons.mpr ⟨lm_550, (List.forall_mem_cons.mpr ⟨lm_76, (List.forall_mem_cons.mpr ⟨lm_551, (List.forall_mem_cons.mpr ⟨lm_220, (List.forall_mem_cons.mpr ⟨lm_731, (List.forall_mem_cons.mpr ⟨lm_683, (List.forall_mem_cons.mpr ⟨lm_684, (List.forall_mem_cons.mpr ⟨lm_77, (fun _ h => absurd h List.not_mem_nil)⟩)⟩)⟩)⟩)⟩)⟩)⟩)⟩)⟩)⟩)⟩)⟩)⟩)⟩)⟩)⟩)⟩)⟩)⟩)⟩)⟩)⟩)⟩)⟩)), (show ∀ w ∈ wsX6_wanted_r2, w ∈ lw_tbl from (List.forall_mem_cons.mpr ⟨lm_685, (List.forall_mem_cons.mpr ⟨lm_296, (List.forall_mem_cons.mpr ⟨lm_110, (List.forall_mem_cons.mpr ⟨lm_297, (List.forall_mem_cons.mpr ⟨lm_235, (List.forall_mem_cons.mpr ⟨lm_112, (List.forall_mem_cons.mpr ⟨lm_686, (List.forall_mem_cons.mpr ⟨lm_688, (List.forall_mem_cons.mpr ⟨lm_28, (List.forall_mem_cons.mpr ⟨lm_689, (List.forall_mem_cons.mpr ⟨lm_306, (List.forall_mem_cons.mpr ⟨lm_307, (List.forall_mem_cons.mpr ⟨lm_732, (List.forall_mem_cons.mpr ⟨lm_733, (List.forall_mem_cons.mpr ⟨lm_84, (List.forall_mem_cons.mpr ⟨lm_734, (List.forall_mem_cons.mpr ⟨lm_735, (List.forall_mem_cons.mpr ⟨lm_736, (List.forall_mem_cons.mpr ⟨lm_737, (fun _ h => absurd h List.not_mem_nil)⟩)⟩)⟩)⟩)⟩)⟩)⟩)⟩)⟩)⟩)⟩)⟩)⟩)⟩)⟩)⟩)⟩)⟩)⟩))⟩), iw6⟩), iw1⟩), iw0⟩), iw2⟩)⟩) (by decide +kernel))
set_option maxRecDepth 100000 in
theorem gLw_X7_wanted : GoodIn lw_tbl (wsV RL 67 RX7 yX7_wanted wsX7_wanted) := goodIn_app (goodIn_sub (List.forall_mem_cons.mpr ⟨lm_1175, (List.forall_mem_cons.mpr ⟨lm_1176, (List.forall_mem_cons.mpr ⟨lm_1177, (List.forall_mem_cons.mpr ⟨lm_78, (fun _ h => absurd h List.not_mem_nil)⟩)⟩)⟩)⟩) (by decide +kernel)) (goodIn_sub (List.forall_mem_cons.mpr ⟨lm_1178, (List.forall_mem_append.mpr ⟨(List.forall_mem_append.mpr ⟨(show ∀ w ∈ wsX7_wanted_r1, w ∈ lw_tbl from (List.forall_mem_cons.mpr ⟨lm_813, (List.forall_mem_cons.mpr ⟨lm_814, (List.forall_mem_cons.mpr ⟨lm_1116, (List.forall_mem_cons.mpr ⟨lm_1118, (List.forall_mem_cons.mpr ⟨lm_57, (List.forall_mem_cons.mpr ⟨lm_78, (List.forall_mem_cons.mpr ⟨lm_1119, (List.forall_mem_cons.mpr ⟨lm_990, (List.forall_mem_cons.mpr ⟨lm_992, (List.forall_mem_cons.mpr ⟨lm_36, (List.forall_mem_cons.mpr ⟨lm_993, (List.forall_mem_cons.mpr ⟨lm_810, (List.forall_mem_cons.mpr ⟨lm_994, (List.forall_mem_cons.mpr ⟨lm_995, (List.forall_mem_cons.mpr ⟨lm_996, (List.forall_mem_cons.mpr ⟨lm_1120, (List.forall_mem_cons.mpr ⟨lm_1122, (List.forall_mem_cons.mpr ⟨lm_58, (List.forall_mem_cons.mpr ⟨lm_1123, (List.forall_mem_cons.mpr ⟨lm_817, (List.forall_mem_cons.mpr ⟨lm_1148, (List.forall_mem_cons.mpr ⟨lm_1150, (List.forall_mem_cons.mpr ⟨lm_65, (List.forall_mem_cons.mpr ⟨lm_1151, (fun _ h => absurd h List.not_mem_nil)⟩)⟩)⟩)⟩)⟩)⟩)⟩)⟩)⟩)⟩)⟩)⟩)⟩)⟩)⟩)⟩)⟩)⟩)⟩)⟩)⟩)⟩)⟩)⟩)), (show ∀ w ∈ wsX7_wanted_r2, w ∈ lw_tbl from (List.forall_mem_cons.mpr ⟨lm_820, (List.forall_mem_cons.mpr ⟨lm_821, (fun _ h => absurd h List.not_mem_nil)⟩)⟩))⟩), iw7⟩)⟩) (by decide +kernel))
set_option maxRecDepth 100000 in
theorem gLw_X6_dealt : GoodIn lw_tbl (wsV RL 68 RX6 yX6_dealt wsX6_dealt) := goodIn_app (goodIn_sub (List.forall_mem_cons.mpr ⟨lm_738, (List.forall_mem_cons.mpr ⟨lm_739, (List.forall_mem_cons.mpr ⟨lm_740, (List.forall_mem_cons.mpr ⟨lm_71, (fun _ h => absurd h List.not_mem_nil)⟩)⟩)⟩)⟩) (by decide +kernel)) (goodIn_sub (List.forall_mem_cons.mpr ⟨lm_741, (List.forall_mem_append.mpr ⟨(List.forall_mem_append.mpr ⟨(List.forall_mem_append.mpr ⟨(List.forall_mem_append.mpr ⟨(List.forall_mem_append.mpr ⟨(show ∀ w ∈ wsX6_dealt_r1, w ∈ lw_tbl from (List.forall_mem_cons.mpr ⟨lm_329, (List.forall_mem_cons.mpr ⟨lm_332, (List.forall_mem_cons.mpr ⟨lm_299, (List.forall_mem_cons.mpr ⟨lm_664, (List.forall_mem_cons.mpr ⟨lm_666, (List.forall_mem_cons.mpr ⟨lm_25, (List.forall_mem_cons.mpr ⟨lm_71, (List.forall_mem_cons.mpr ⟨lm_667, (List.forall_mem_cons.mpr ⟨lm_333, (List.forall_mem_cons.mpr ⟨lm_371, (List.forall_mem_cons.mpr ⟨lm_372, (List.forall_mem_cons.mpr ⟨lm_373, (List.forall_mem_cons.mpr ⟨lm_72, (List.forall_mem_cons.mpr ⟨lm_374, (List.forall_mem_cons.mpr ⟨lm_100, (List.forall_mem_cons.mpr ⟨lm_668, (List.forall_mem_cons.mpr ⟨lm_549, (List.forall_mem_cons.mpr ⟨lm_550, (List.forall_mem_cons.mpr ⟨lm_76, (List.forall_mem_cons.mpr ⟨lm_551, (List.forall_mem_cons.mpr ⟨lm_220, (List.forall_mem_cons.mpr ⟨lm_742, (List.forall_mem_cons.mpr ⟨lm_743, (List.forall_mem_cons.mpr ⟨lm_744, (fun _ h => absurd h List.not_mem_nil)⟩)⟩)⟩)⟩)⟩)⟩)⟩)⟩)⟩)⟩)⟩)⟩)⟩)⟩)⟩)⟩)⟩)⟩)⟩)⟩)⟩)⟩)⟩)⟩)), (List.forall_mem_append.mpr ⟨(show ∀ w ∈ wsX6_dealt_r2, w ∈ lw_tbl from (List.forall_mem_cons.mpr ⟨lm_745, (List.forall_mem_cons.mpr ⟨lm_108, (List.forall_mem_cons.mpr ⟨lm_669, (List.forall_mem_cons.mpr ⟨lm_670, (List.forall_mem_cons.mpr ⟨lm_671, (List.forall_mem_cons.mpr ⟨lm_77, (List.forall_mem_cons.mpr ⟨lm_672, (List.forall_mem_cons.mpr ⟨lm_302, (List.forall_mem_cons.mpr ⟨lm_298, (List.forall_mem_cons.mpr ⟨lm_297, (List.forall_mem_cons.mpr ⟨lm_296, (List.forall_mem_cons.mpr ⟨lm_101, (List.forall_mem_cons.mpr ⟨lm_673, (List.forall_mem_cons.mpr ⟨lm_674, (List.forall_mem_cons.mpr ⟨lm_676, (List.forall_mem_cons.mpr ⟨lm_26, (List.forall_mem_cons.mpr ⟨lm_677, (List.forall_mem_cons.mpr ⟨lm_221, (List.forall_mem_cons.mpr ⟨lm_239, (List.forall_mem_cons.mpr ⟨lm_678, (List.forall_mem_cons.mpr ⟨lm_680, (List.forall_mem_cons.mpr ⟨lm_27, (List.forall_mem_cons.mpr ⟨lm_681, (List.forall_mem_cons.mpr ⟨lm_232, (fun _ h => absurd h List.not_mem_nil)⟩)⟩)⟩)⟩)⟩)⟩)⟩)⟩)⟩)⟩)⟩)⟩)⟩)⟩)⟩)⟩)⟩)⟩)⟩)⟩)⟩)⟩)⟩)⟩)), (List.forall_mem_append.mpr ⟨(show ∀ w ∈ wsX6_dealt_r3, w ∈ lw_tbl from (List.forall_mem_cons.mpr ⟨lm_682, (List.forall_mem_cons.mpr ⟨lm_683, (List.forall_mem_cons.mpr ⟨lm_684, (List.forall_mem_cons.mpr ⟨lm_685, (List.forall_mem_cons.mpr ⟨lm_110, (List.forall_mem_cons.mpr ⟨lm_235, (List.forall_mem_cons.mpr ⟨lm_112, (List.forall_mem_cons.mpr ⟨lm_686, (List.forall_mem_cons.mpr ⟨lm_688, (List.forall_mem_cons.mpr ⟨lm_28, (List.forall_mem_cons.mpr ⟨lm_689, (List.forall_mem_cons.mpr ⟨lm_306, (List.forall_mem_cons.mpr ⟨lm_307, (List.forall_mem_cons.mpr ⟨lm_690, (List.forall_mem_cons.mpr ⟨lm_692, (List.forall_mem_cons.mpr ⟨lm_29, (List.forall_mem_cons.mpr ⟨lm_693, (List.forall_mem_cons.mpr ⟨lm_241, (List.forall_mem_cons.mpr ⟨lm_243, (List.forall_mem_cons.mpr ⟨lm_305, (List.forall_mem_cons.mpr ⟨lm_694, (List.forall_mem_cons.mpr ⟨lm_696, (List.forall_mem_cons.mpr ⟨lm_30, (List.forall_mem_cons.mpr ⟨lm_697, (fun _ h => absurd h List.not_mem_nil)⟩)⟩)⟩)⟩)⟩)⟩)⟩)⟩)⟩)⟩)⟩)⟩)⟩)⟩)⟩)⟩)⟩)⟩)⟩)⟩)⟩)⟩)⟩)⟩)), (List.forall_mem_append.mpr ⟨(show ∀ w ∈ wsX6_dealt_r4, w ∈ lw_tbl from (List.forall_mem_cons.mpr ⟨lm_304, (List.forall_mem_cons.mpr ⟨lm_245, (List.forall_mem_cons.mpr ⟨lm_115, (List.forall_mem_cons.mpr ⟨lm_698, (List.forall_mem_cons.mpr ⟨lm_700, (List.forall_mem_cons.mpr ⟨lm_31, (List.forall_mem_cons.mpr ⟨lm_701, (List.forall_mem_cons.mpr ⟨lm_251, (List.forall_mem_cons.mpr ⟨lm_248, (List.forall_mem_cons.mpr ⟨lm_105, (List.forall_mem_cons.mpr ⟨lm_107, (List.forall_mem_cons.mpr ⟨lm_254, (List.forall_mem_cons.mpr ⟨lm_702, (List.forall_mem_cons.mpr ⟨lm_704, (List.forall_mem_cons.mpr ⟨lm_32, (List.forall_mem_cons.mpr ⟨lm_705, (List.forall_mem_cons.mpr ⟨lm_706, (List.forall_mem_cons.mpr ⟨lm_707, (List.forall_mem_cons.mpr ⟨lm_708, (List.forall_mem_cons.mpr ⟨lm_709, (List.forall_mem_cons.mpr ⟨lm_731, (List.forall_mem_cons.mpr ⟨lm_746, (List.forall_mem_cons.mpr ⟨lm_747, (List.forall_mem_cons.mpr ⟨lm_748, (fun _ h => absurd h List.not_mem_nil)⟩)⟩)⟩)⟩)⟩)⟩)⟩)⟩)⟩)⟩)⟩)⟩)⟩)⟩)⟩)⟩)⟩)⟩)⟩)⟩)⟩)⟩)⟩)⟩)), (show ∀ w ∈ wsX6_dealt_r5, w ∈ lw_tbl from (List.forall_mem_cons.mpr ⟨lm_749, (List.forall_mem_cons.mpr ⟨lm_750, (List.forall_mem_cons.mpr ⟨lm_752, (List.forall_mem_cons.mpr ⟨lm_34, (List.forall_mem_cons.mpr ⟨lm_753, (List.forall_mem_cons.mpr ⟨lm_229, (fun _ h => absurd h List.not_mem_nil)⟩)⟩)⟩)⟩)⟩)⟩))⟩)⟩)⟩)⟩), iw6⟩), iw2⟩), iw1⟩), iw0⟩)⟩) (by decide +kernel))
set_option maxRecDepth 100000 in
theorem gLw_X7_dealt : GoodIn lw_tbl (wsV RL 71 RX7 yX7_dealt wsX7_dealt) := goodIn_app (goodIn_sub (List.forall_mem_cons.mpr ⟨lm_1179, (List.forall_mem_cons.mpr ⟨lm_1180, (List.forall_mem_cons.mpr ⟨lm_1181, (List.forall_mem_cons.mpr ⟨lm_78, (fun _ h => absurd h List.not_mem_nil)⟩)⟩)⟩)⟩) (by decide +kernel)) (goodIn_sub (List.forall_mem_cons.mpr ⟨lm_1182, (List.forall_mem_append.mpr ⟨(List.forall_mem_append.mpr ⟨(show ∀ w ∈ wsX7_dealt_r1, w ∈ lw_tbl from (List.forall_mem_cons.mpr ⟨lm_813, (List.forall_mem_cons.mpr ⟨lm_858, (List.forall_mem_cons.mpr ⟨lm_814, (List.forall_mem_cons.mpr ⟨lm_860, (List.forall_mem_cons.mpr ⟨lm_1116, (List.forall_mem_cons.mpr ⟨lm_1118, (List.forall_mem_cons.mpr ⟨lm_57, (List.forall_mem_cons.mpr ⟨lm_78, (List.forall_mem_cons.mpr ⟨lm_1119, (List.forall_mem_cons.mpr ⟨lm_990, (List.forall_mem_cons.mpr ⟨lm_992, (List.forall_mem_cons.mpr ⟨lm_36, (List.forall_mem_cons.mpr ⟨lm_993, (List.forall_mem_cons.mpr ⟨lm_810, (List.forall_mem_cons.mpr ⟨lm_994, (List.forall_mem_cons.mpr ⟨lm_995, (List.forall_mem_cons.mpr ⟨lm_996, (List.forall_mem_cons.mpr ⟨lm_1120, (List.forall_mem_cons.mpr ⟨lm_1122, (List.forall_mem_cons.mpr ⟨lm_58, (List.forall_mem_cons.mpr ⟨lm_1123, (List.forall_mem_cons.mpr ⟨lm_817, (List.forall_mem_cons.mpr ⟨lm_1124, (List.forall_mem_cons.mpr ⟨lm_1126, (fun _ h => absurd h List.not_mem_nil)⟩)⟩)⟩)⟩)⟩)⟩)⟩)⟩)⟩)⟩)⟩)⟩)⟩)⟩)⟩)⟩)⟩)⟩)⟩)⟩)⟩)⟩)⟩)⟩)), (List.forall_mem_append.mpr ⟨(show ∀ w ∈ wsX7_dealt_r2, w ∈ lw_tbl from (List.forall_mem_cons.mpr ⟨lm_59, (List.forall_mem_cons.mpr ⟨lm_1127, (List.forall_mem_cons.mpr ⟨lm_816, (List.forall_mem_cons.mpr ⟨lm_859, (List.forall_mem_cons.mpr ⟨lm_1128, (List.forall_mem_cons.mpr ⟨lm_1130, (List.forall_mem_cons.mpr ⟨lm_60, (List.forall_mem_cons.mpr ⟨lm_1131, (List.forall_mem_cons.mpr ⟨lm_1132, (List.forall_mem_cons.mpr ⟨lm_1134, (List.forall_mem_cons.mpr ⟨lm_61, (List.forall_mem_cons.mpr ⟨lm_1135, (List.forall_mem_cons.mpr ⟨lm_862, (List.forall_mem_cons.mpr ⟨lm_820, (List.forall_mem_cons.mpr ⟨lm_822, (List.forall_mem_cons.mpr ⟨lm_823, (List.forall_mem_cons.mpr ⟨lm_1136, (List.forall_mem_cons.mpr ⟨lm_1138, (List.forall_mem_cons.mpr ⟨lm_62, (List.forall_mem_cons.mpr ⟨lm_1139, (List.forall_mem_cons.mpr ⟨lm_1140, (List.forall_mem_cons.mpr ⟨lm_1142, (List.forall_mem_cons.mpr ⟨lm_63, (List.forall_mem_cons.mpr ⟨lm_1143, (fun _ h => absurd h List.not_mem_nil)⟩)⟩)⟩)⟩)⟩)⟩)⟩)⟩)⟩)⟩)⟩)⟩)⟩)⟩)⟩)⟩)⟩)⟩)⟩)⟩)⟩)⟩)⟩)⟩)), (List.forall_mem_append.mpr ⟨(show ∀ w ∈ wsX7_dealt_r3, w ∈ lw_tbl from (List.forall_mem_cons.mpr ⟨lm_819, (List.forall_mem_cons.mpr ⟨lm_1144, (List.forall_mem_cons.mpr ⟨lm_1146, (List.forall_mem_cons.mpr ⟨lm_64, (List.forall_mem_cons.mpr ⟨lm_1147, (List.forall_mem_cons.mpr ⟨lm_1148, (List.forall_mem_cons.mpr ⟨lm_1150, (List.forall_mem_cons.mpr ⟨lm_65, (List.forall_mem_cons.mpr ⟨lm_1151, (List.forall_mem_cons.mpr ⟨lm_821, (List.forall_mem_cons.mpr ⟨lm_1152, (List.forall_mem_cons.mpr ⟨lm_1154, (List.forall_mem_cons.mpr ⟨lm_66, (List.forall_mem_cons.mpr ⟨lm_1155, (List.forall_mem_cons.mpr ⟨lm_825, (List.forall_mem_cons.mpr ⟨lm_861, (List.forall_mem_cons.mpr ⟨lm_826, (List.forall_mem_cons.mpr ⟨lm_827, (List.forall_mem_cons.mpr ⟨lm_830, (List.forall_mem_cons.mpr ⟨lm_828, (List.forall_mem_cons.mpr ⟨lm_829, (List.forall_mem_cons.mpr ⟨lm_1156, (List.forall_mem_cons.mpr ⟨lm_1158, (List.forall_mem_cons.mpr ⟨lm_67, (fun _ h => absurd h List.not_mem_nil)⟩)⟩)⟩)⟩)⟩)⟩)⟩)⟩)⟩)⟩)⟩)⟩)⟩)⟩)⟩)⟩)⟩)⟩)⟩)⟩)⟩)⟩)⟩)⟩)), (show ∀ w ∈ wsX7_dealt_r4, w ∈ lw_tbl from (List.forall_mem_cons.mpr ⟨lm_1159, (List.forall_mem_cons.mpr ⟨lm_815, (List.forall_mem_cons.mpr ⟨lm_811, (List.forall_mem_cons.mpr ⟨lm_812, (List.forall_mem_cons.mpr ⟨lm_824, (List.forall_mem_cons.mpr ⟨lm_1160, (List.forall_mem_cons.mpr ⟨lm_1162, (List.forall_mem_cons.mpr ⟨lm_68, (List.forall_mem_cons.mpr ⟨lm_1163, (List.forall_mem_cons.mpr ⟨lm_1164, (List.forall_mem_cons.mpr ⟨lm_1165, (List.forall_mem_cons.mpr ⟨lm_1166, (fun _ h => absurd h List.not_mem_nil)⟩)⟩)⟩)⟩)⟩)⟩)⟩)⟩)⟩)⟩)⟩)⟩))⟩)⟩)⟩), iw7⟩)⟩) (by decide +kernel))
set_option maxRecDepth 100000 in
theorem gLw_X6_tooMany : GoodIn lw_tbl (wsV RL 72 RX6 yX6_tooMany wsX6_tooMany) := goodIn_app (goodIn_sub (List.forall_mem_cons.mpr ⟨lm_754, (List.forall_mem_cons.mpr ⟨lm_755, (List.forall_mem_cons.mpr ⟨lm_756, (List.forall_mem_cons.mpr ⟨lm_71, (fun _ h => absurd h List.not_mem_nil)⟩)⟩)⟩)⟩) (by decide +kernel)) (goodIn_sub (List.forall_mem_cons.mpr ⟨lm_757, (List.forall_mem_append.mpr ⟨(List.forall_mem_append.mpr ⟨(List.forall_mem_append.mpr ⟨(List.forall_mem_append.mpr ⟨(List.forall_mem_append.mpr ⟨(show ∀ w ∈ wsX6_tooMany_r1, w ∈ lw_tbl from (List.forall_mem_cons.mpr ⟨lm_332, (List.forall_mem_cons.mpr ⟨lm_664, (List.forall_mem_cons.mpr ⟨lm_666, (List.forall_mem_cons.mpr ⟨lm_25, (List.forall_mem_cons.mpr ⟨lm_71, (List.forall_mem_cons.mpr ⟨lm_667, (List.forall_mem_cons.mpr ⟨lm_329, (List.forall_mem_cons.mpr ⟨lm_333, (List.forall_mem_cons.mpr ⟨lm_371, (List.forall_mem_cons.mpr ⟨lm_372, (List.forall_mem_cons.mpr ⟨lm_373, (List.forall_mem_cons.mpr ⟨lm_72, (List.forall_mem_cons.mpr ⟨lm_374, (List.forall_mem_cons.mpr ⟨lm_100, (List.forall_mem_cons.mpr ⟨lm_668, (List.forall_mem_cons.mpr ⟨lm_549, (List.forall_mem_cons.mpr ⟨lm_550, (List.forall_mem_cons.mpr ⟨lm_76, (List.forall_mem_cons.mpr ⟨lm_551, (List.forall_mem_cons.mpr ⟨lm_220, (List.forall_mem_cons.mpr ⟨lm_758, (List.forall_mem_cons.mpr ⟨lm_759, (List.forall_mem_cons.mpr ⟨lm_760, (List.forall_mem_cons.mpr ⟨lm_77, (fun _ h => absurd h List.not_mem_nil)⟩)⟩)⟩)⟩)⟩)⟩)⟩)⟩)⟩)⟩)⟩)⟩)⟩)⟩)⟩)⟩)⟩)⟩)⟩)⟩)⟩)⟩)⟩)⟩)), (List.forall_mem_append.mpr ⟨(show ∀ w ∈ wsX6_tooMany_r2, w ∈ lw_tbl from (List.forall_mem_cons.mpr ⟨lm_761, (List.forall_mem_cons.mpr ⟨lm_298, (List.forall_mem_cons.mpr ⟨lm_296, (List.forall_mem_cons.mpr ⟨lm_110, (List.forall_mem_cons.mpr ⟨lm_306, (List.forall_mem_cons.mpr ⟨lm_307, (List.forall_mem_cons.mpr ⟨lm_762, (List.forall_mem_cons.mpr ⟨lm_670, (List.forall_mem_cons.mpr ⟨lm_671, (List.forall_mem_cons.mpr ⟨lm_672, (List.forall_mem_cons.mpr ⟨lm_302, (List.forall_mem_cons.mpr ⟨lm_297, (List.forall_mem_cons.mpr ⟨lm_101, (List.forall_mem_cons.mpr ⟨lm_673, (List.forall_mem_cons.mpr ⟨lm_674, (List.forall_mem_cons.mpr ⟨lm_676, (List.forall_mem_cons.mpr ⟨lm_26, (List.forall_mem_cons.mpr ⟨lm_677, (List.forall_mem_cons.mpr ⟨lm_221, (List.forall_mem_cons.mpr ⟨lm_239, (List.forall_mem_cons.mpr ⟨lm_678, (List.forall_mem_cons.mpr ⟨lm_680, (List.forall_mem_cons.mpr ⟨lm_27, (List.forall_mem_cons.mpr ⟨lm_681, (fun _ h => absurd h List.not_mem_nil)⟩)⟩)⟩)⟩)⟩)⟩)⟩)⟩)⟩)⟩)⟩)⟩)⟩)⟩)⟩)⟩)⟩)⟩)⟩)⟩)⟩)⟩)⟩)⟩)), (List.forall_mem_append.mpr ⟨(show ∀ w ∈ wsX6_tooMany_r3, w ∈ lw_tbl from (List.forall_mem_cons.mpr ⟨lm_232, (List.forall_mem_cons.mpr ⟨lm_682, (List.forall_mem_cons.mpr ⟨lm_683, (List.forall_mem_cons.mpr ⟨lm_684, (List.forall_mem_cons.mpr ⟨lm_685, (List.forall_mem_cons.mpr ⟨lm_235, (List.forall_mem_cons.mpr ⟨lm_112, (List.forall_mem_cons.mpr ⟨lm_686, (List.forall_mem_cons.mpr ⟨lm_688, (List.forall_mem_cons.mpr ⟨lm_28, (List.forall_mem_cons.mpr ⟨lm_689, (List.forall_mem_cons.mpr ⟨lm_690, (List.forall_mem_cons.mpr ⟨lm_692, (List.forall_mem_cons.mpr ⟨lm_29, (List.forall_mem_cons.mpr ⟨lm_693, (List.forall_mem_cons.mpr ⟨lm_241, (List.forall_mem_cons.mpr ⟨lm_243, (List.forall_mem_cons.mpr ⟨lm_305, (List.forall_mem_cons.mpr ⟨lm_694, (List.forall_mem_cons.mpr ⟨lm_696, (List.forall_mem_cons.mpr ⟨lm_30, (List.forall_mem_cons.mpr ⟨lm_697, (List.forall_mem_cons.mpr ⟨lm_304, (List.forall_mem_cons.mpr ⟨lm_245, (fun _ h => absurd h List.not_mem_nil)⟩)⟩)⟩)⟩)⟩)⟩)⟩)⟩)⟩)⟩)⟩)⟩)⟩)⟩)⟩)⟩)⟩)⟩)⟩)⟩)⟩)⟩)⟩)⟩)), (List.forall_mem_append.mpr ⟨(show ∀ w ∈ wsX6_tooMany_r4, w ∈ lw_tbl from (List.forall_mem_cons.mpr ⟨lm_115, (List.forall_mem_cons.mpr ⟨lm_698, (List.forall_mem_cons.mpr ⟨lm_700, (List.forall_mem_cons.mpr ⟨lm_31, (List.forall_mem_cons.mpr ⟨lm_701, (List.forall_mem_cons.mpr ⟨lm_251, (List.forall_mem_cons.mpr ⟨lm_248, (List.forall_mem_cons.mpr ⟨lm_105, (List.forall_mem_cons.mpr ⟨lm_107, (List.forall_mem_cons.mpr ⟨lm_254, (List.forall_mem_cons.mpr ⟨lm_702, (List.forall_mem_cons.mpr ⟨lm_704, (List.forall_mem_cons.mpr ⟨lm_32, (List.forall_mem_cons.mpr ⟨lm_705, (List.forall_mem_cons.mpr ⟨lm_706, (List.forall_mem_cons.mpr ⟨lm_707, (List.forall_mem_cons.mpr ⟨lm_708, (List.forall_mem_cons.mpr ⟨lm_709, (List.forall_mem_cons.mpr ⟨lm_763, (List.forall_mem_cons.mpr ⟨lm_733, (List.forall_mem_cons.mpr ⟨lm_84, (List.forall_mem_cons.mpr ⟨lm_734, (List.forall_mem_cons.mpr ⟨lm_735, (List.forall_mem_cons.mpr ⟨lm_736, (fun _ h => absurd h List.not_mem_nil)⟩)⟩)⟩)⟩)⟩)⟩)⟩)⟩)⟩)⟩)⟩)⟩)⟩)⟩)⟩)⟩)⟩)⟩)⟩)⟩)⟩)⟩)⟩)⟩)), (show ∀ w ∈ wsX6_tooMany_r5, w ∈ lw_tbl from (List.forall_mem_cons.mpr ⟨lm_737, (List.forall_mem_cons.mpr ⟨lm_655, (List.forall_mem_cons.mpr ⟨lm_356, (List.forall_mem_cons.mpr ⟨lm_357, (List.forall_mem_cons.mpr ⟨lm_358, (List.forall_mem_cons.mpr ⟨lm_303, (List.forall_mem_cons.mpr ⟨lm_732, (fun _ h => absurd h List.not_mem_nil)⟩)⟩)⟩)⟩)⟩)⟩)⟩))⟩)⟩)⟩)⟩), iw6⟩), iw1⟩), iw0⟩), iw2⟩)⟩) (by decide +kernel))
set_option maxRecDepth 100000 in
theorem gLw_X7_tooMany : GoodIn lw_tbl (wsV RL 75 RX7 yX7_tooMany wsX7_tooMany) := goodIn_app (goodIn_sub (List.forall_mem_cons.mpr ⟨lm_1183, (List.forall_mem_cons.mpr ⟨lm_1184, (List.forall_mem_cons.mpr ⟨lm_1185, (List.forall_mem_cons.mpr ⟨lm_78, (fun _ h => absurd h List.not_mem_nil)⟩)⟩)⟩)⟩) (by decide +kernel)) (goodIn_sub (List.forall_mem_cons.mpr ⟨lm_1186, (List.forall_mem_append.mpr ⟨(List.forall_mem_append.mpr ⟨(show ∀ w ∈ wsX7_tooMany_r1, w ∈ lw_tbl from (List.forall_mem_cons.mpr ⟨lm_863, (List.forall_mem_cons.mpr ⟨lm_1116, (List.forall_mem_cons.mpr ⟨lm_1118, (List.forall_mem_cons.mpr ⟨lm_57, (List.forall_mem_cons.mpr ⟨lm_78, (List.forall_mem_cons.mpr ⟨lm_1119, (List.forall_mem_cons.mpr ⟨lm_990, (List.forall_mem_cons.mpr ⟨lm_992, (List.forall_mem_cons.mpr ⟨lm_36, (List.forall_mem_cons.mpr ⟨lm_993, (List.forall_mem_cons.mpr ⟨lm_810, (List.forall_mem_cons.mpr ⟨lm_994, (List.forall_mem_cons.mpr ⟨lm_995, (List.forall_mem_cons.mpr ⟨lm_996, (List.forall_mem_cons.mpr ⟨lm_1120, (List.forall_mem_cons.mpr ⟨lm_1122, (List.forall_mem_cons.mpr ⟨lm_58, (List.forall_mem_cons.mpr ⟨lm_1123, (List.forall_mem_cons.mpr ⟨lm_817, (List.forall_mem_cons.mpr ⟨lm_1187, (List.forall_mem_cons.mpr ⟨lm_1189, (List.forall_mem_cons.mpr ⟨lm_69, (List.forall_mem_cons.mpr ⟨lm_1190, (List.forall_mem_cons.mpr ⟨lm_813, (fun _ h => absurd h List.not_mem_nil)⟩)⟩)⟩)⟩)⟩)⟩)⟩)⟩)⟩)⟩)⟩)⟩)⟩)⟩)⟩)⟩)⟩)⟩)⟩)⟩)⟩)⟩)⟩)⟩)), (List.forall_mem_append.mpr ⟨(show ∀ w ∈ wsX7_tooMany_r2, w ∈ lw_tbl from (List.forall_mem_cons.mpr ⟨lm_865, (List.forall_mem_cons.mpr ⟨lm_814, (List.forall_mem_cons.mpr ⟨lm_866, (List.forall_mem_cons.mpr ⟨lm_815, (List.forall_mem_cons.mpr ⟨lm_864, (List.forall_mem_cons.mpr ⟨lm_816, (List.forall_mem_cons.mpr ⟨lm_858, (List.forall_mem_cons.mpr ⟨lm_1191, (List.forall_mem_cons.mpr ⟨lm_1192, (List.forall_mem_cons.mpr ⟨lm_1193, (List.forall_mem_cons.mpr ⟨lm_1124, (List.forall_mem_cons.mpr ⟨lm_1126, (List.forall_mem_cons.mpr ⟨lm_59, (List.forall_mem_cons.mpr ⟨lm_1127, (List.forall_mem_cons.mpr ⟨lm_859, (List.forall_mem_cons.mpr ⟨lm_1128, (List.forall_mem_cons.mpr ⟨lm_1130, (List.forall_mem_cons.mpr ⟨lm_60, (List.forall_mem_cons.mpr ⟨lm_1131, (List.forall_mem_cons.mpr ⟨lm_860, (List.forall_mem_cons.mpr ⟨lm_1132, (List.forall_mem_cons.mpr ⟨lm_1134, (List.forall_mem_cons.mpr ⟨lm_61, (List.forall_mem_cons.mpr ⟨lm_1135, (fun _ h => absurd h List.not_mem_nil)⟩)⟩)⟩)⟩)⟩)⟩)⟩)⟩)⟩)⟩)⟩)⟩)⟩)⟩)⟩)⟩)⟩)⟩)⟩)⟩)⟩)⟩)⟩)⟩)), (List.forall_mem_append.mpr ⟨(show ∀ w ∈ wsX7_tooMany_r3, w ∈ lw_tbl from (List.forall_mem_cons.mpr ⟨lm_862, (List.forall_mem_cons.mpr ⟨lm_820, (List.forall_mem_cons.mpr ⟨lm_822, (List.forall_mem_cons.mpr ⟨lm_823, (List.forall_mem_cons.mpr ⟨lm_1136, (List.forall_mem_cons.mpr ⟨lm_1138, (List.forall_mem_cons.mpr ⟨lm_62, (List.forall_mem_cons.mpr ⟨lm_1139, (List.forall_mem_cons.mpr ⟨lm_1140, (List.forall_mem_cons.mpr ⟨lm_1142, (List.forall_mem_cons.mpr ⟨lm_63, (List.forall_mem_cons.mpr ⟨lm_1143, (List.forall_mem_cons.mpr ⟨lm_819, (List.forall_mem_cons.mpr ⟨lm_1144, (List.forall_mem_cons.mpr ⟨lm_1146, (List.forall_mem_cons.mpr ⟨lm_64, (List.forall_mem_cons.mpr ⟨lm_1147, (List.forall_mem_cons.mpr ⟨lm_1148, (List.forall_mem_cons.mpr ⟨lm_1150, (List.forall_mem_cons.mpr ⟨lm_65, (List.forall_mem_cons.mpr ⟨lm_1151, (List.forall_mem_cons.mpr ⟨lm_821, (List.forall_mem_cons.mpr ⟨lm_1152, (List.forall_mem_cons.mpr ⟨lm_1154, (fun _ h => absurd h List.not_mem_nil)⟩)⟩)⟩)⟩)⟩)⟩)⟩)⟩)⟩)⟩)⟩)⟩)⟩)⟩)⟩)⟩)⟩)⟩)⟩)⟩)⟩)⟩)⟩)⟩)), (show ∀ w ∈ wsX7_tooMany_r4, w ∈ lw_tbl from (List.forall_mem_cons.mpr ⟨lm_66, (List.forall_mem_cons.mpr ⟨lm_1155, (List.forall_mem_cons.mpr ⟨lm_825, (List.forall_mem_cons.mpr ⟨lm_861, (List.forall_mem_cons.mpr ⟨lm_826, (List.forall_mem_cons.mpr ⟨lm_827, (List.forall_mem_cons.mpr ⟨lm_830, (List.forall_mem_cons.mpr ⟨lm_828, (List.forall_mem_cons.mpr ⟨lm_829, (List.forall_mem_cons.mpr ⟨lm_1156, (List.forall_mem_cons.mpr ⟨lm_1158, (List.forall_mem_cons.mpr ⟨lm_67, (List.forall_mem_cons.mpr ⟨lm_1159, (List.forall_mem_cons.mpr ⟨lm_811, (List.forall_mem_cons.mpr ⟨lm_812, (List.forall_mem_cons.mpr ⟨lm_824, (List.forall_mem_cons.mpr ⟨lm_1160, (List.forall_mem_cons.mpr ⟨lm_1162, (List.forall_mem_cons.mpr ⟨lm_68, (List.forall_mem_cons.mpr ⟨lm_1163, (List.forall_mem_cons.mpr ⟨lm_1164, (List.forall_mem_cons.mpr ⟨lm_1165, (List.forall_mem_cons.mpr ⟨lm_1166, (fun _ h => absurd h List.not_mem_nil)⟩)⟩)⟩)⟩)⟩)⟩)⟩)⟩)⟩)⟩)⟩)⟩)⟩)⟩)⟩)⟩)⟩)⟩)⟩)⟩)⟩)⟩)⟩))⟩)⟩)⟩), iw7⟩)⟩) (by decide +kernel))
set_option maxRecDepth 100000 in
theorem gLw_X6_which : GoodIn lw_tbl (wsV RL 76 RX6 yX6_which wsX6_which) := goodIn_app (goodIn_sub (List.forall_mem_cons.mpr ⟨lm_764, (List.forall_mem_cons.mpr ⟨lm_765, (List.forall_mem_cons.mpr ⟨lm_766, (List.forall_mem_cons.mpr ⟨lm_71, (fun _ h => absurd h List.not_mem_nil)⟩)⟩)⟩)⟩) (by decide +kernel)) (goodIn_sub (List.forall_mem_cons.mpr ⟨lm_767, (List.forall_mem_append.mpr ⟨(List.forall_mem_append.mpr ⟨(List.forall_mem_append.mpr ⟨(List.forall_mem_append.mpr ⟨(List.forall_mem_append.mpr ⟨(show ∀ w ∈ wsX6_which_r1, w ∈ lw_tbl from (List.forall_mem_cons.mpr ⟨lm_332, (List.forall_mem_cons.mpr ⟨lm_664, (List.forall_mem_cons.mpr ⟨lm_666, (List.forall_mem_cons.mpr ⟨lm_25, (List.forall_mem_cons.mpr ⟨lm_71, (List.forall_mem_cons.mpr ⟨lm_667, (List.forall_mem_cons.mpr ⟨lm_329, (List.forall_mem_cons.mpr ⟨lm_333, (List.forall_mem_cons.mpr ⟨lm_371, (List.forall_mem_cons.mpr ⟨lm_372, (List.forall_mem_cons.mpr ⟨lm_373, (List.forall_mem_cons.mpr ⟨lm_72, (List.forall_mem_cons.mpr ⟨lm_374, (List.forall_mem_cons.mpr ⟨lm_100, (List.forall_mem_cons.mpr ⟨lm_668, (List.forall_mem_cons.mpr ⟨lm_549, (List.forall_mem_cons.mpr ⟨lm_550, (List.forall_mem_cons.mpr ⟨lm_76, (List.forall_mem_cons.mpr ⟨lm_551, (List.forall_mem_cons.mpr ⟨lm_220, (List.forall_mem_cons.mpr ⟨lm_758, (List.forall_mem_cons.mpr ⟨lm_759, (List.forall_mem_cons.mpr ⟨lm_760, (List.forall_mem_cons.mpr ⟨lm_77, (fun _ h => absurd h List.not_mem_nil)⟩)⟩)⟩)⟩)⟩)⟩)⟩)⟩)⟩)⟩)⟩)⟩)⟩)⟩)⟩)⟩)⟩)⟩)⟩)⟩)⟩)⟩)⟩)⟩)), (List.forall_mem_append.mpr ⟨(show ∀ w ∈ wsX6_which_r2, w ∈ lw_tbl from (List.forall_mem_cons.mpr ⟨lm_761, (List.forall_mem_cons.mpr ⟨lm_298, (List.forall_mem_cons.mpr ⟨lm_296, (List.forall_mem_cons.mpr ⟨lm_110, (List.forall_mem_cons.mpr ⟨lm_306, (List.forall_mem_cons.mpr ⟨lm_307, (List.forall_mem_cons.mpr ⟨lm_762, (List.forall_mem_cons.mpr ⟨lm_670, (List.forall_mem_cons.mpr ⟨lm_671, (List.forall_mem_cons.mpr ⟨lm_672, (List.forall_mem_cons.mpr ⟨lm_302, (List.forall_mem_cons.mpr ⟨lm_297, (List.forall_mem_cons.mpr ⟨lm_101, (List.forall_mem_cons.mpr ⟨lm_673, (List.forall_mem_cons.mpr ⟨lm_674, (List.forall_mem_cons.mpr ⟨lm_676, (List.forall_mem_cons.mpr ⟨lm_26, (List.forall_mem_cons.mpr ⟨lm_677, (List.forall_mem_cons.mpr ⟨lm_221, (List.forall_mem_cons.mpr ⟨lm_239, (List.forall_mem_cons.mpr ⟨lm_678, (List.forall_mem_cons.mpr ⟨lm_680, (List.forall_mem_cons.mpr ⟨lm_27, (List.forall_mem_cons.mpr ⟨lm_681, (fun _ h => absurd h List.not_mem_nil)⟩)⟩)⟩)⟩)⟩)⟩)⟩)⟩)⟩)⟩)⟩)⟩)⟩)⟩)⟩)⟩)⟩)⟩)⟩)⟩)⟩)⟩)⟩)⟩)), (List.forall_mem_append.mpr ⟨(show ∀ w ∈ wsX6_which_r3, w ∈ lw_tbl from (List.forall_mem_cons.mpr ⟨lm_232, (List.forall_mem_cons.mpr ⟨lm_682, (List.forall_mem_cons.mpr ⟨lm_683, (List.forall_mem_cons.mpr ⟨lm_684, (List.forall_mem_cons.mpr ⟨lm_685, (List.forall_mem_cons.mpr ⟨lm_235, (List.forall_mem_cons.mpr ⟨lm_112, (List.forall_mem_cons.mpr ⟨lm_686, (List.forall_mem_cons.mpr ⟨lm_688, (List.forall_mem_cons.mpr ⟨lm_28, (List.forall_mem_cons.mpr ⟨lm_689, (List.forall_mem_cons.mpr ⟨lm_690, (List.forall_mem_cons.mpr ⟨lm_692, (List.forall_mem_cons.mpr ⟨lm_29, (List.forall_mem_cons.mpr ⟨lm_693, (List.forall_mem_cons.mpr ⟨lm_241, (List.forall_mem_cons.mpr ⟨lm_243, (List.forall_mem_cons.mpr ⟨lm_305, (List.forall_mem_cons.mpr ⟨lm_694, (List.forall_mem_cons.mpr ⟨lm_696, (List.forall_mem_cons.mpr ⟨lm_30, (List.forall_mem_cons.mpr ⟨lm_697, (List.forall_mem_cons.mpr ⟨lm_304, (List.forall_mem_cons.mpr ⟨lm_245, (fun _ h => absurd h List.not_mem_nil)⟩)⟩)⟩)⟩)⟩)⟩)⟩)⟩)⟩)⟩)⟩)⟩)⟩)⟩)⟩)⟩)⟩)⟩)⟩)⟩)⟩)⟩)⟩)⟩)), (List.forall_mem_append.mpr ⟨(show ∀ w ∈ wsX6_which_r4, w ∈ lw_tbl from (List.forall_mem_cons.mpr ⟨lm_115, (List.forall_mem_cons.mpr ⟨lm_698, (List.forall_mem_cons.mpr ⟨lm_700, (List.forall_mem_cons.mpr ⟨lm_31, (List.forall_mem_cons.mpr ⟨lm_701, (List.forall_mem_cons.mpr ⟨lm_251, (List.forall_mem_cons.mpr ⟨lm_248, (List.forall_mem_cons.mpr ⟨lm_105, (List.forall_mem_cons.mpr ⟨lm_107, (List.forall_mem_cons.mpr ⟨lm_254, (List.forall_mem_cons.mpr ⟨lm_702, (List.forall_mem_cons.mpr ⟨lm_704, (List.forall_mem_cons.mpr ⟨lm_32, (List.forall_mem_cons.mpr ⟨lm_705, (List.forall_mem_cons.mpr ⟨lm_706, (List.forall_mem_cons.mpr ⟨lm_707, (List.forall_mem_cons.mpr ⟨lm_708, (List.forall_mem_cons.mpr ⟨lm_709, (List.forall_mem_cons.mpr ⟨lm_763, (List.forall_mem_cons.mpr ⟨lm_733, (List.forall_mem_cons.mpr ⟨lm_84, (List.forall_mem_cons.mpr ⟨lm_734, (List.forall_mem_cons.mpr ⟨lm_735, (List.forall_mem_cons.mpr ⟨lm_736, (fun _ h => absurd h List.not_mem_nil)⟩)⟩)⟩)⟩)⟩)⟩)⟩)⟩)⟩)⟩)⟩)⟩)⟩)⟩)⟩)⟩)⟩)⟩)⟩)⟩)⟩)⟩)⟩)⟩)), (show ∀ w ∈ wsX6_which_r5, w ∈ lw_tbl from (List.forall_mem_cons.mpr ⟨lm_737, (List.forall_mem_cons.mpr ⟨lm_655, (List.forall_mem_cons.mpr ⟨lm_356, (List.forall_mem_cons.mpr ⟨lm_357, (List.forall_mem_cons.mpr ⟨lm_358, (List.forall_mem_cons.mpr ⟨lm_303, (fun _ h => absurd h List.not_mem_nil)⟩)⟩)⟩)⟩)⟩)⟩))⟩)⟩)⟩)⟩), iw6⟩), iw1⟩), iw0⟩), iw2⟩)⟩) (by decide +kernel))
set_option maxRecDepth 100000 in
theorem gLw_X7_which : GoodIn lw_tbl (wsV RL 79 RX7 yX7_which wsX7_which) := goodIn_app (goodIn_sub (List.forall_mem_cons.mpr ⟨lm_1194, (List.forall_mem_cons.mpr ⟨lm_1195, (List.forall_mem_cons.mpr ⟨lm_1196, (List.forall_mem_cons.mpr ⟨lm_78, (fun _ h => absurd h List.not_mem_nil)⟩)⟩)⟩)⟩) (by decide +kernel)) (goodIn_sub (List.forall_mem_cons.mpr ⟨lm_1197, (List.forall_mem_append.mpr ⟨(List.forall_mem_append.mpr ⟨(show ∀ w ∈ wsX7_which_r1, w ∈ lw_tbl from (List.forall_mem_cons.mpr ⟨lm_864, (List.forall_mem_cons.mpr ⟨lm_1116, (List.forall_mem_cons.mpr ⟨lm_1118, (List.forall_mem_cons.mpr ⟨lm_57, (List.forall_mem_cons.mpr ⟨lm_78, (List.forall_mem_cons.mpr ⟨lm_1119, (List.forall_mem_cons.mpr ⟨lm_990, (List.forall_mem_cons.mpr ⟨lm_992, (List.forall_mem_cons.mpr ⟨lm_36, (List.forall_mem_cons.mpr ⟨lm_993, (List.forall_mem_cons.mpr ⟨lm_810, (List.forall_mem_cons.mpr ⟨lm_994, (List.forall_mem_cons.mpr ⟨lm_995, (List.forall_mem_cons.mpr ⟨lm_996, (List.forall_mem_cons.mpr ⟨lm_1120, (List.forall_mem_cons.mpr ⟨lm_1122, (List.forall_mem_cons.mpr ⟨lm_58, (List.forall_mem_cons.mpr ⟨lm_1123, (List.forall_mem_cons.mpr ⟨lm_817, (List.forall_mem_cons.mpr ⟨lm_1187, (List.forall_mem_cons.mpr ⟨lm_1189, (List.forall_mem_cons.mpr ⟨lm_69, (List.forall_mem_cons.mpr ⟨lm_1190, (List.forall_mem_cons.mpr ⟨lm_813, (fun _ h => absurd h List.not_mem_nil)⟩)⟩)⟩)⟩)⟩)⟩)⟩)⟩)⟩)⟩)⟩)⟩)⟩)⟩)⟩)⟩)⟩)⟩)⟩)⟩)⟩)⟩)⟩)⟩)), (List.forall_mem_append.mpr ⟨(show ∀ w ∈ wsX7_which_r2, w ∈ lw_tbl from (List.forall_mem_cons.mpr ⟨lm_865, (List.forall_mem_cons.mpr ⟨lm_814, (List.forall_mem_cons.mpr ⟨lm_866, (List.forall_mem_cons.mpr ⟨lm_815, (List.forall_mem_cons.mpr ⟨lm_863, (List.forall_mem_cons.mpr ⟨lm_816, (List.forall_mem_cons.mpr ⟨lm_858, (List.forall_mem_cons.mpr ⟨lm_1191, (List.forall_mem_cons.mpr ⟨lm_1192, (List.forall_mem_cons.mpr ⟨lm_1193, (List.forall_mem_cons.mpr ⟨lm_1124, (List.forall_mem_cons.mpr ⟨lm_1126, (List.forall_mem_cons.mpr ⟨lm_59, (List.forall_mem_cons.mpr ⟨lm_1127, (List.forall_mem_cons.mpr ⟨lm_859, (List.forall_mem_cons.mpr ⟨lm_1128, (List.forall_mem_cons.mpr ⟨lm_1130, (List.forall_mem_cons.mpr ⟨lm_60, (List.forall_mem_cons.mpr ⟨lm_1131, (List.forall_mem_cons.mpr ⟨lm_860, (List.forall_mem_cons.mpr ⟨lm_1132, (List.forall_mem_cons.mpr ⟨lm_1134, (List.forall_mem_cons.mpr ⟨lm_61, (List.forall_mem_cons.mpr ⟨lm_1135, (fun _ h => absurd h List.not_mem_nil)⟩)⟩)⟩)⟩)⟩)⟩)⟩)⟩)⟩)⟩)⟩)⟩)⟩)⟩)⟩)⟩)⟩)⟩)⟩)⟩)⟩)⟩)⟩)⟩)), (List.forall_mem_append.mpr ⟨(show ∀ w ∈ wsX7_which_r3, w ∈ lw_tbl from (List.forall_mem_cons.mpr ⟨lm_862, (List.forall_mem_cons.mpr ⟨lm_820, (List.forall_mem_cons.mpr ⟨lm_822, (List.forall_mem_cons.mpr ⟨lm_823, (List.forall_mem_cons.mpr ⟨lm_1136, (List.forall_mem_cons.mpr ⟨lm_1138, (List.forall_mem_cons.mpr ⟨lm_62, (List.forall_mem_cons.mpr ⟨lm_1139, (List.forall_mem_cons.mpr ⟨lm_1140, (List.forall_mem_cons.mpr ⟨lm_1142, (List.forall_mem_cons.mpr ⟨lm_63, (List.forall_mem_cons.mpr ⟨lm_1143, (List.forall_mem_cons.mpr ⟨lm_819, (List.forall_mem_cons.mpr ⟨lm_1144, (List.forall_mem_cons.mpr ⟨lm_1146, (List.forall_mem_cons.mpr ⟨lm_64, (List.forall_mem_cons.mpr ⟨lm_1147, (List.forall_mem_cons.mpr ⟨lm_1148, (List.forall_mem_cons.mpr ⟨lm_1150, (List.forall_mem_cons.mpr ⟨lm_65, (List.forall_mem_cons.mpr ⟨lm_1151, (List.forall_mem_cons.mpr ⟨lm_821, (List.forall_mem_cons.mpr ⟨lm_1152, (List.forall_mem_cons.mpr ⟨lm_1154, (fun _ h => absurd h List.not_mem_nil)⟩)⟩)⟩)⟩)⟩)⟩)⟩)⟩)⟩)⟩)⟩)⟩)⟩)⟩)⟩)⟩)⟩)⟩)⟩)⟩)⟩)⟩)⟩)⟩)), (show ∀ w ∈ wsX7_which_r4, w ∈ lw_tbl from (List.forall_mem_cons.mpr ⟨lm_66, (List.forall_mem_cons.mpr ⟨lm_1155, (List.forall_mem_cons.mpr ⟨lm_825, (List.forall_mem_cons.mpr ⟨lm_861, (List.forall_mem_cons.mpr ⟨lm_826, (List.forall_mem_cons.mpr ⟨lm_827, (List.forall_mem_cons.mpr ⟨lm_830, (List.forall_mem_cons.mpr ⟨lm_828, (List.forall_mem_cons.mpr ⟨lm_829, (List.forall_mem_cons.mpr ⟨lm_1156, (List.forall_mem_cons.mpr ⟨lm_1158, (List.forall_mem_cons.mpr ⟨lm_67, (List.forall_mem_cons.mpr ⟨lm_1159, (List.forall_mem_cons.mpr ⟨lm_811, (List.forall_mem_cons.mpr ⟨lm_812, (List.forall_mem_cons.mpr ⟨lm_824, (List.forall_mem_cons.mpr ⟨lm_1160, (List.forall_mem_cons.mpr ⟨lm_1162, (List.forall_mem_cons.mpr ⟨lm_68, (List.forall_mem_cons.mpr ⟨lm_1163, (List.forall_mem_cons.mpr ⟨lm_1164, (List.forall_mem_cons.mpr ⟨lm_1165, (List.forall_mem_cons.mpr ⟨lm_1166, (fun _ h => absurd h List.not_mem_nil)⟩)⟩)⟩)⟩)⟩)⟩)⟩)⟩)⟩)⟩)⟩)⟩)⟩)⟩)⟩)⟩)⟩)⟩)⟩)⟩)⟩)⟩)⟩))⟩)⟩)⟩), iw7⟩)⟩) (by decide +kernel))
set_option maxRecDepth 100000 in
theorem gLw_X6_depends : GoodIn lw_tbl (wsV RL 80 RX6 yX6_depends wsX6_depends) := goodIn_app (goodIn_sub (List.forall_mem_cons.mpr ⟨lm_768, (List.forall_mem_cons.mpr ⟨lm_769, (List.forall_mem_cons.mpr ⟨lm_770, (List.forall_mem_cons.mpr ⟨lm_71, (fun _ h => absurd h List.not_mem_nil)⟩)⟩)⟩)⟩) (by decide +kernel)) (goodIn_sub (List.forall_mem_cons.mpr ⟨lm_771, (List.forall_mem_append.mpr ⟨(List.forall_mem_append.mpr ⟨(List.forall_mem_cons.mpr ⟨lm_333, (List.forall_mem_cons.mpr ⟨lm_237, (List.forall_mem_cons.mpr ⟨lm_668, (List.forall_mem_cons.mpr ⟨lm_549, (List.forall_mem_cons.mpr ⟨lm_550, (List.forall_mem_cons.mpr ⟨lm_76, (List.forall_mem_cons.mpr ⟨lm_551, (List.forall_mem_cons.mpr ⟨lm_220, (fun _ h => absurd h List.not_mem_nil)⟩)⟩)⟩)⟩)⟩)⟩)⟩)⟩), iw6⟩), iw0⟩)⟩) (by decide +kernel))
set_option maxRecDepth 100000 in
theorem gLw_X7_depends : GoodIn lw_tbl (wsV RL 83 RX7 yX7_depends wsX7_depends) := goodIn_app (goodIn_sub (List.forall_mem_cons.mpr ⟨lm_1198, (List.forall_mem_cons.mpr ⟨lm_1199, (List.forall_mem_cons.mpr ⟨lm_1200, (List.forall_mem_cons.mpr ⟨lm_78, (fun _ h => absurd h List.not_mem_nil)⟩)⟩)⟩)⟩) (by decide +kernel)) (goodIn_sub (List.forall_mem_cons.mpr ⟨lm_1201, (List.forall_mem_append.mpr ⟨(List.forall_mem_cons.mpr ⟨lm_857, (List.forall_mem_cons.mpr ⟨lm_1120, (List.forall_mem_cons.mpr ⟨lm_1122, (List.forall_mem_cons.mpr ⟨lm_58, (List.forall_mem_cons.mpr ⟨lm_78, (List.forall_mem_cons.mpr ⟨lm_1123, (List.forall_mem_cons.mpr ⟨lm_817, (List.forall_mem_cons.mpr ⟨lm_994, (List.forall_mem_cons.mpr ⟨lm_995, (List.forall_mem_cons.mpr ⟨lm_996, (List.forall_mem_cons.mpr ⟨lm_1104, (List.forall_mem_cons.mpr ⟨lm_1106, (List.forall_mem_cons.mpr ⟨lm_56, (List.forall_mem_cons.mpr ⟨lm_1107, (List.forall_mem_cons.mpr ⟨lm_831, (List.forall_mem_cons.mpr ⟨lm_834, (List.forall_mem_cons.mpr ⟨lm_820, (List.forall_mem_cons.mpr ⟨lm_836, (List.forall_mem_cons.mpr ⟨lm_822, (List.forall_mem_cons.mpr ⟨lm_837, (List.forall_mem_cons.mpr ⟨lm_823, (fun _ h => absurd h List.not_mem_nil)⟩)⟩)⟩)⟩)⟩)⟩)⟩)⟩)⟩)⟩)⟩)⟩)⟩)⟩)⟩)⟩)⟩)⟩)⟩)⟩)⟩), iw7⟩)⟩) (by decide +kernel))
set_option maxRecDepth 100000 in
theorem gLw_X6_part : GoodIn lw_tbl (wsV RL 84 RX6 yX6_part wsX6_part) := goodIn_app (goodIn_sub (List.forall_mem_cons.mpr ⟨lm_772, (List.forall_mem_cons.mpr ⟨lm_773, (List.forall_mem_cons.mpr ⟨lm_774, (List.forall_mem_cons.mpr ⟨lm_71, (fun _ h => absurd h List.not_mem_nil)⟩)⟩)⟩)⟩) (by decide +kernel)) (goodIn_sub (List.forall_mem_cons.mpr ⟨lm_775, (List.forall_mem_append.mpr ⟨(List.forall_mem_append.mpr ⟨(List.forall_mem_cons.mpr ⟨lm_333, (List.forall_mem_cons.mpr ⟨lm_246, (List.forall_mem_cons.mpr ⟨lm_249, (List.forall_mem_cons.mpr ⟨lm_252, (List.forall_mem_cons.mpr ⟨lm_255, (List.forall_mem_cons.mpr ⟨lm_776, (List.forall_mem_cons.mpr ⟨lm_777, (List.forall_mem_cons.mpr ⟨lm_778, (List.forall_mem_cons.mpr ⟨lm_76, (List.forall_mem_cons.mpr ⟨lm_779, (List.forall_mem_cons.mpr ⟨lm_228, (List.forall_mem_cons.mpr ⟨lm_548, (List.forall_mem_cons.mpr ⟨lm_549, (List.forall_mem_cons.mpr ⟨lm_550, (List.forall_mem_cons.mpr ⟨lm_551, (List.forall_mem_cons.mpr ⟨lm_220, (fun _ h => absurd h List.not_mem_nil)⟩)⟩)⟩)⟩)⟩)⟩)⟩)⟩)⟩)⟩)⟩)⟩)⟩)⟩)⟩)⟩), iw6⟩), iw0⟩)⟩) (by decide +kernel))
set_option maxRecDepth 100000 in
theorem gLw_X7_part : GoodIn lw_tbl (wsV RL 87 RX7 yX7_part wsX7_part) := goodIn_app (goodIn_sub (List.forall_mem_cons.mpr ⟨lm_1202, (List.forall_mem_cons.mpr ⟨lm_1203, (List.forall_mem_cons.mpr ⟨lm_1204, (List.forall_mem_cons.mpr ⟨lm_78, (fun _ h => absurd h List.not_mem_nil)⟩)⟩)⟩)⟩) (by decide +kernel)) (goodIn_sub (List.forall_mem_cons.mpr ⟨lm_1205, (List.forall_mem_append.mpr ⟨(List.forall_mem_cons.mpr ⟨lm_820, (List.forall_mem_cons.mpr ⟨lm_1206, (List.forall_mem_cons.mpr ⟨lm_821, (List.forall_mem_cons.mpr ⟨lm_822, (List.forall_mem_cons.mpr ⟨lm_823, (List.forall_mem_cons.mpr ⟨lm_824, (List.forall_mem_cons.mpr ⟨lm_1120, (List.forall_mem_cons.mpr ⟨lm_1122, (List.forall_mem_cons.mpr ⟨lm_58, (List.forall_mem_cons.mpr ⟨lm_78, (List.forall_mem_cons.mpr ⟨lm_1123, (List.forall_mem_cons.mpr ⟨lm_817, (List.forall_mem_cons.mpr ⟨lm_994, (List.forall_mem_cons.mpr ⟨lm_995, (List.forall_mem_cons.mpr ⟨lm_996, (fun _ h => absurd h List.not_mem_nil)⟩)⟩)⟩)⟩)⟩)⟩)⟩)⟩)⟩)⟩)⟩)⟩)⟩)⟩)⟩), iw7⟩)⟩) (by decide +kernel))
set_option maxRecDepth 100000 in
theorem gLw_X6_told : GoodIn lw_tbl (wsV RL 88 RX6 yX6_told wsX6_told) := goodIn_app (goodIn_sub (List.forall_mem_cons.mpr ⟨lm_780, (List.forall_mem_cons.mpr ⟨lm_781, (List.forall_mem_cons.mpr ⟨lm_782, (List.forall_mem_cons.mpr ⟨lm_71, (fun _ h => absurd h List.not_mem_nil)⟩)⟩)⟩)⟩) (by decide +kernel)) (goodIn_sub (List.forall_mem_cons.mpr ⟨lm_783, (List.forall_mem_append.mpr ⟨(List.forall_mem_append.mpr ⟨(List.forall_mem_cons.mpr ⟨lm_333, (List.forall_mem_cons.mpr ⟨lm_227, (List.forall_mem_cons.mpr ⟨lm_230, (List.forall_mem_cons.mpr ⟨lm_233, (List.forall_mem_cons.mpr ⟨lm_668, (List.forall_mem_cons.mpr ⟨lm_549, (List.forall_mem_cons.mpr ⟨lm_550, (List.forall_mem_cons.mpr ⟨lm_76, (List.forall_mem_cons.mpr ⟨lm_551, (List.forall_mem_cons.mpr ⟨lm_220, (fun _ h => absurd h List.not_mem_nil)⟩)⟩)⟩)⟩)⟩)⟩)⟩)⟩)⟩)⟩), iw6⟩), iw0⟩)⟩) (by decide +kernel))
set_option maxRecDepth 100000 in
theorem gLw_X7_told : GoodIn lw_tbl (wsV RL 91 RX7 yX7_told wsX7_told) := goodIn_app (goodIn_sub (List.forall_mem_cons.mpr ⟨lm_1207, (List.forall_mem_cons.mpr ⟨lm_1208, (List.forall_mem_cons.mpr ⟨lm_1209, (List.forall_mem_cons.mpr ⟨lm_78, (fun _ h => absurd h List.not_mem_nil)⟩)⟩)⟩)⟩) (by decide +kernel)) (goodIn_sub (List.forall_mem_cons.mpr ⟨lm_1210, (List.forall_mem_append.mpr ⟨(List.forall_mem_cons.mpr ⟨lm_1211, (List.forall_mem_cons.mpr ⟨lm_818, (List.forall_mem_cons.mpr ⟨lm_820, (List.forall_mem_cons.mpr ⟨lm_819, (List.forall_mem_cons.mpr ⟨lm_1120, (List.forall_mem_cons.mpr ⟨lm_1122, (List.forall_mem_cons.mpr ⟨lm_58, (List.forall_mem_cons.mpr ⟨lm_78, (List.forall_mem_cons.mpr ⟨lm_1123, (List.forall_mem_cons.mpr ⟨lm_817, (List.forall_mem_cons.mpr ⟨lm_994, (List.forall_mem_cons.mpr ⟨lm_995, (List.forall_mem_cons.mpr ⟨lm_996, (fun _ h => absurd h List.not_mem_nil)⟩)⟩)⟩)⟩)⟩)⟩)⟩)⟩)⟩)⟩)⟩)⟩)⟩), iw7⟩)⟩) (by decide +kernel))
set_option maxRecDepth 100000 in
theorem gLw_X6_from : GoodIn lw_tbl (wsV RL 92 RX6 yX6_from wsX6_from) := goodIn_app (goodIn_sub (List.forall_mem_cons.mpr ⟨lm_784, (List.forall_mem_cons.mpr ⟨lm_785, (List.forall_mem_cons.mpr ⟨lm_786, (List.forall_mem_cons.mpr ⟨lm_71, (fun _ h => absurd h List.not_mem_nil)⟩)⟩)⟩)⟩) (by decide +kernel)) (goodIn_sub (List.forall_mem_cons.mpr ⟨lm_787, (List.forall_mem_append.mpr ⟨(List.forall_mem_append.mpr ⟨(List.forall_mem_cons.mpr ⟨lm_329, (List.forall_mem_cons.mpr ⟨lm_113, (List.forall_mem_cons.mpr ⟨lm_116, (List.forall_mem_cons.mpr ⟨lm_371, (List.forall_mem_cons.mpr ⟨lm_372, (List.forall_mem_cons.mpr ⟨lm_373, (List.forall_mem_cons.mpr ⟨lm_72, (List.forall_mem_cons.mpr ⟨lm_374, (List.forall_mem_cons.mpr ⟨lm_100, (List.forall_mem_cons.mpr ⟨lm_742, (List.forall_mem_cons.mpr ⟨lm_743, (List.forall_mem_cons.mpr ⟨lm_744, (List.forall_mem_cons.mpr ⟨lm_745, (List.forall_mem_cons.mpr ⟨lm_108, (fun _ h => absurd h List.not_mem_nil)⟩)⟩)⟩)⟩)⟩)⟩)⟩)⟩)⟩)⟩)⟩)⟩)⟩)⟩), iw6⟩), iw1⟩)⟩) (by decide +kernel))
set_option maxRecDepth 100000 in
theorem gLw_X7_from : GoodIn lw_tbl (wsV RL 95 RX7 yX7_from wsX7_from) := goodIn_app (goodIn_sub (List.forall_mem_cons.mpr ⟨lm_1212, (List.forall_mem_cons.mpr ⟨lm_1213, (List.forall_mem_cons.mpr ⟨lm_1214, (List.forall_mem_cons.mpr ⟨lm_78, (fun _ h => absurd h List.not_mem_nil)⟩)⟩)⟩)⟩) (by decide +kernel)) (goodIn_sub (List.forall_mem_cons.mpr ⟨lm_1215, (List.forall_mem_append.mpr ⟨(List.forall_mem_cons.mpr ⟨lm_813, (List.forall_mem_cons.mpr ⟨lm_814, (List.forall_mem_cons.mpr ⟨lm_815, (List.forall_mem_cons.mpr ⟨lm_990, (List.forall_mem_cons.mpr ⟨lm_992, (List.forall_mem_cons.mpr ⟨lm_36, (List.forall_mem_cons.mpr ⟨lm_78, (List.forall_mem_cons.mpr ⟨lm_993, (List.forall_mem_cons.mpr ⟨lm_810, (List.forall_mem_cons.mpr ⟨lm_994, (List.forall_mem_cons.mpr ⟨lm_995, (List.forall_mem_cons.mpr ⟨lm_996, (fun _ h => absurd h List.not_mem_nil)⟩)⟩)⟩)⟩)⟩)⟩)⟩)⟩)⟩)⟩)⟩)⟩), iw7⟩)⟩) (by decide +kernel))
set_option maxRecDepth 100000 in
theorem gLw_X6_reset : GoodIn lw_tbl (wsV RL 96 RX6 yX6_reset wsX6_reset) := goodIn_app (goodIn_sub (List.forall_mem_cons.mpr ⟨lm_788, (List.forall_mem_cons.mpr ⟨lm_789, (List.forall_mem_cons.mpr ⟨lm_790, (List.forall_mem_cons.mpr ⟨lm_71, (fun _ h => absurd h List.not_mem_nil)⟩)⟩)⟩)⟩) (by decide +kernel)) (goodIn_sub (List.forall_mem_cons.mpr ⟨lm_791, (List.forall_mem_append.mpr ⟨(List.forall_mem_append.mpr ⟨(List.forall_mem_append.mpr ⟨(List.forall_mem_cons.mpr ⟨lm_329, (List.forall_mem_cons.mpr ⟨lm_99, (List.forall_mem_cons.mpr ⟨lm_332, (List.forall_mem_cons.mpr ⟨lm_335, (List.forall_mem_cons.mpr ⟨lm_792, (List.forall_mem_cons.mpr ⟨lm_793, (List.forall_mem_cons.mpr ⟨lm_794, (List.forall_mem_cons.mpr ⟨lm_72, (List.forall_mem_cons.mpr ⟨lm_795, (List.forall_mem_cons.mpr ⟨lm_100, (List.forall_mem_cons.mpr ⟨lm_103, (List.forall_mem_cons.mpr ⟨lm_355, (List.forall_mem_cons.mpr ⟨lm_356, (List.forall_mem_cons.mpr ⟨lm_357, (List.forall_mem_cons.mpr ⟨lm_77, (List.forall_mem_cons.mpr ⟨lm_358, (List.forall_mem_cons.mpr ⟨lm_302, (List.forall_mem_cons.mpr ⟨lm_303, (fun _ h => absurd h List.not_mem_nil)⟩)⟩)⟩)⟩)⟩)⟩)⟩)⟩)⟩)⟩)⟩)⟩)⟩)⟩)⟩)⟩)⟩)⟩), iw6⟩), iw1⟩), iw2⟩)⟩) (by decide +kernel))
set_option maxRecDepth 100000 in
theorem gLw_X7_reset : GoodIn lw_tbl (wsV RL 99 RX7 yX7_reset wsX7_reset) := goodIn_app (goodIn_sub (List.forall_mem_cons.mpr ⟨lm_1216, (List.forall_mem_cons.mpr ⟨lm_1217, (List.forall_mem_cons.mpr ⟨lm_1218, (List.forall_mem_cons.mpr ⟨lm_78, (fun _ h => absurd h List.not_mem_nil)⟩)⟩)⟩)⟩) (by decide +kernel)) (goodIn_sub (List.forall_mem_cons.mpr ⟨lm_1219, (List.forall_mem_append.mpr ⟨(List.forall_mem_cons.mpr ⟨lm_810, (List.forall_mem_cons.mpr ⟨lm_816, (fun _ h => absurd h List.not_mem_nil)⟩)⟩), iw7⟩)⟩) (by decide +kernel))
set_option maxRecDepth 100000 in
theorem gLw_X6_count : GoodIn lw_tbl (wsV RL 100 RX6 yX6_count wsX6_count) := goodIn_app (goodIn_sub (List.forall_mem_cons.mpr ⟨lm_796, (List.forall_mem_cons.mpr ⟨lm_797, (List.forall_mem_cons.mpr ⟨lm_798, (List.forall_mem_cons.mpr ⟨lm_71, (fun _ h => absurd h List.not_mem_nil)⟩)⟩)⟩)⟩) (by decide +kernel)) (goodIn_sub (List.forall_mem_cons.mpr ⟨lm_799, (List.forall_mem_append.mpr ⟨(List.forall_mem_append.mpr ⟨(List.forall_mem_append.mpr ⟨(List.forall_mem_append.mpr ⟨(List.forall_mem_append.mpr ⟨(List.forall_mem_append.mpr ⟨(show ∀ w ∈ wsX6_count_r1, w ∈ lw_tbl from (List.forall_mem_cons.mpr ⟨lm_329, (List.forall_mem_cons.mpr ⟨lm_99, (List.forall_mem_cons.mpr ⟨lm_102, (List.forall_mem_cons.mpr ⟨lm_333, (List.forall_mem_cons.mpr ⟨lm_223, (List.forall_mem_cons.mpr ⟨lm_330, (List.forall_mem_cons.mpr ⟨lm_143, (List.forall_mem_cons.mpr ⟨lm_332, (List.forall_mem_cons.mpr ⟨lm_299, (List.forall_mem_cons.mpr ⟨lm_301, (List.forall_mem_cons.mpr ⟨lm_669, (List.forall_mem_cons.mpr ⟨lm_670, (List.forall_mem_cons.mpr ⟨lm_671, (List.forall_mem_cons.mpr ⟨lm_77, (List.forall_mem_cons.mpr ⟨lm_672, (List.forall_mem_cons.mpr ⟨lm_302, (List.forall_mem_cons.mpr ⟨lm_298, (List.forall_mem_cons.mpr ⟨lm_297, (List.forall_mem_cons.mpr ⟨lm_296, (List.forall_mem_cons.mpr ⟨lm_101, (List.forall_mem_cons.mpr ⟨lm_673, (List.forall_mem_cons.mpr ⟨lm_549, (List.forall_mem_cons.mpr ⟨lm_550, (List.forall_mem_cons.mpr ⟨lm_76, (fun _ h => absurd h List.not_mem_nil)⟩)⟩)⟩)⟩)⟩)⟩)⟩)⟩)⟩)⟩)⟩)⟩)⟩)⟩)⟩)⟩)⟩)⟩)⟩)⟩)⟩)⟩)⟩)⟩)), (List.forall_mem_append.mpr ⟨(show ∀ w ∈ wsX6_count_r2, w ∈ lw_tbl from (List.forall_mem_cons.mpr ⟨lm_551, (List.forall_mem_cons.mpr ⟨lm_220, (List.forall_mem_cons.mpr ⟨lm_674, (List.forall_mem_cons.mpr ⟨lm_676, (List.forall_mem_cons.mpr ⟨lm_26, (List.forall_mem_cons.mpr ⟨lm_677, (List.forall_mem_cons.mpr ⟨lm_221, (List.forall_mem_cons.mpr ⟨lm_239, (List.forall_mem_cons.mpr ⟨lm_678, (List.forall_mem_cons.mpr ⟨lm_680, (List.forall_mem_cons.mpr ⟨lm_27, (List.forall_mem_cons.mpr ⟨lm_681, (List.forall_mem_cons.mpr ⟨lm_232, (List.forall_mem_cons.mpr ⟨lm_682, (List.forall_mem_cons.mpr ⟨lm_683, (List.forall_mem_cons.mpr ⟨lm_684, (List.forall_mem_cons.mpr ⟨lm_685, (List.forall_mem_cons.mpr ⟨lm_110, (List.forall_mem_cons.mpr ⟨lm_235, (List.forall_mem_cons.mpr ⟨lm_112, (List.forall_mem_cons.mpr ⟨lm_686, (List.forall_mem_cons.mpr ⟨lm_688, (List.forall_mem_cons.mpr ⟨lm_28, (List.forall_mem_cons.mpr ⟨lm_689, (fun _ h => absurd h List.not_mem_nil)⟩)⟩)⟩)⟩)⟩)⟩)⟩)⟩)⟩)⟩)⟩)⟩)⟩)⟩)⟩)⟩)⟩)⟩)⟩)⟩)⟩)⟩)⟩)⟩)), (List.forall_mem_append.mpr ⟨(show ∀ w ∈ wsX6_count_r3, w ∈ lw_tbl from (List.forall_mem_cons.mpr ⟨lm_306, (List.forall_mem_cons.mpr ⟨lm_307, (List.forall_mem_cons.mpr ⟨lm_690, (List.forall_mem_cons.mpr ⟨lm_692, (List.forall_mem_cons.mpr ⟨lm_29, (List.forall_mem_cons.mpr ⟨lm_693, (List.forall_mem_cons.mpr ⟨lm_241, (List.forall_mem_cons.mpr ⟨lm_243, (List.forall_mem_cons.mpr ⟨lm_305, (List.forall_mem_cons.mpr ⟨lm_694, (List.forall_mem_cons.mpr ⟨lm_696, (List.forall_mem_cons.mpr ⟨lm_30, (List.forall_mem_cons.mpr ⟨lm_697, (List.forall_mem_cons.mpr ⟨lm_304, (List.forall_mem_cons.mpr ⟨lm_245, (List.forall_mem_cons.mpr ⟨lm_115, (List.forall_mem_cons.mpr ⟨lm_698, (List.forall_mem_cons.mpr ⟨lm_700, (List.forall_mem_cons.mpr ⟨lm_31, (List.forall_mem_cons.mpr ⟨lm_701, (List.forall_mem_cons.mpr ⟨lm_251, (List.forall_mem_cons.mpr ⟨lm_248, (List.forall_mem_cons.mpr ⟨lm_105, (List.forall_mem_cons.mpr ⟨lm_107, (fun _ h => absurd h List.not_mem_nil)⟩)⟩)⟩)⟩)⟩)⟩)⟩)⟩)⟩)⟩)⟩)⟩)⟩)⟩)⟩)⟩)⟩)⟩)⟩)⟩)⟩)⟩)⟩)⟩)), (List.forall_mem_append.mpr ⟨(show ∀ w ∈ wsX6_count_r4, w ∈ lw_tbl from (List.forall_mem_cons.mpr ⟨lm_254, (List.forall_mem_cons.mpr ⟨lm_702, (List.forall_mem_cons.mpr ⟨lm_704, (List.forall_mem_cons.mpr ⟨lm_32, (List.forall_mem_cons.mpr ⟨lm_705, (List.forall_mem_cons.mpr ⟨lm_706, (List.forall_mem_cons.mpr ⟨lm_707, (List.forall_mem_cons.mpr ⟨lm_708, (List.forall_mem_cons.mpr ⟨lm_709, (List.forall_mem_cons.mpr ⟨lm_800, (List.forall_mem_cons.mpr ⟨lm_802, (List.forall_mem_cons.mpr ⟨lm_35, (List.forall_mem_cons.mpr ⟨lm_71, (List.forall_mem_cons.mpr ⟨lm_803, (List.forall_mem_cons.mpr ⟨lm_732, (List.forall_mem_cons.mpr ⟨lm_733, (List.forall_mem_cons.mpr ⟨lm_84, (List.forall_mem_cons.mpr ⟨lm_734, (List.forall_mem_cons.mpr ⟨lm_735, (List.forall_mem_cons.mpr ⟨lm_736, (List.forall_mem_cons.mpr ⟨lm_737, (List.forall_mem_cons.mpr ⟨lm_715, (List.forall_mem_cons.mpr ⟨lm_716, (List.forall_mem_cons.mpr ⟨lm_717, (fun _ h => absurd h List.not_mem_nil)⟩)⟩)⟩)⟩)⟩)⟩)⟩)⟩)⟩)⟩)⟩)⟩)⟩)⟩)⟩)⟩)⟩)⟩)⟩)⟩)⟩)⟩)⟩)⟩)), (show ∀ w ∈ wsX6_count_r5, w ∈ lw_tbl from (List.forall_mem_cons.mpr ⟨lm_718, (List.forall_mem_cons.mpr ⟨lm_303, (List.forall_mem_cons.mpr ⟨lm_300, (List.forall_mem_cons.mpr ⟨lm_719, (List.forall_mem_cons.mpr ⟨lm_721, (List.forall_mem_cons.mpr ⟨lm_33, (List.forall_mem_cons.mpr ⟨lm_722, (fun _ h => absurd h List.not_mem_nil)⟩)⟩)⟩)⟩)⟩)⟩)⟩))⟩)⟩)⟩)⟩), iw6⟩), iw1⟩), iw0⟩), iw3⟩), iw2⟩)⟩) (by decide +kernel))
set_option maxRecDepth 100000 in
theorem gLw_X7_count : GoodIn lw_tbl (wsV RL 103 RX7 yX7_count wsX7_count) := goodIn_app (goodIn_sub (List.forall_mem_cons.mpr ⟨lm_1220, (List.forall_mem_cons.mpr ⟨lm_1221, (List.forall_mem_cons.mpr ⟨lm_1222, (List.forall_mem_cons.mpr ⟨lm_78, (fun _ h => absurd h List.not_mem_nil)⟩)⟩)⟩)⟩) (by decide +kernel)) (goodIn_sub (List.forall_mem_cons.mpr ⟨lm_1223, (List.forall_mem_append.mpr ⟨(List.forall_mem_append.mpr ⟨(show ∀ w ∈ wsX7_count_r1, w ∈ lw_tbl from (List.forall_mem_cons.mpr ⟨lm_817, (List.forall_mem_cons.mpr ⟨lm_810, (List.forall_mem_cons.mpr ⟨lm_858, (List.forall_mem_cons.mpr ⟨lm_859, (List.forall_mem_cons.mpr ⟨lm_847, (List.forall_mem_cons.mpr ⟨lm_1124, (List.forall_mem_cons.mpr ⟨lm_1126, (List.forall_mem_cons.mpr ⟨lm_59, (List.forall_mem_cons.mpr ⟨lm_78, (List.forall_mem_cons.mpr ⟨lm_1127, (List.forall_mem_cons.mpr ⟨lm_816, (List.forall_mem_cons.mpr ⟨lm_1128, (List.forall_mem_cons.mpr ⟨lm_1130, (List.forall_mem_cons.mpr ⟨lm_60, (List.forall_mem_cons.mpr ⟨lm_1131, (List.forall_mem_cons.mpr ⟨lm_860, (List.forall_mem_cons.mpr ⟨lm_1132, (List.forall_mem_cons.mpr ⟨lm_1134, (List.forall_mem_cons.mpr ⟨lm_61, (List.forall_mem_cons.mpr ⟨lm_1135, (List.forall_mem_cons.mpr ⟨lm_862, (List.forall_mem_cons.mpr ⟨lm_820, (List.forall_mem_cons.mpr ⟨lm_822, (List.forall_mem_cons.mpr ⟨lm_823, (fun _ h => absurd h List.not_mem_nil)⟩)⟩)⟩)⟩)⟩)⟩)⟩)⟩)⟩)⟩)⟩)⟩)⟩)⟩)⟩)⟩)⟩)⟩)⟩)⟩)⟩)⟩)⟩)⟩)), (List.forall_mem_append.mpr ⟨(show ∀ w ∈ wsX7_count_r2, w ∈ lw_tbl from (List.forall_mem_cons.mpr ⟨lm_1136, (List.forall_mem_cons.mpr ⟨lm_1138, (List.forall_mem_cons.mpr ⟨lm_62, (List.forall_mem_cons.mpr ⟨lm_1139, (List.forall_mem_cons.mpr ⟨lm_1140, (List.forall_mem_cons.mpr ⟨lm_1142, (List.forall_mem_cons.mpr ⟨lm_63, (List.forall_mem_cons.mpr ⟨lm_1143, (List.forall_mem_cons.mpr ⟨lm_819, (List.forall_mem_cons.mpr ⟨lm_813, (List.forall_mem_cons.mpr ⟨lm_1144, (List.forall_mem_cons.mpr ⟨lm_1146, (List.forall_mem_cons.mpr ⟨lm_64, (List.forall_mem_cons.mpr ⟨lm_1147, (List.forall_mem_cons.mpr ⟨lm_814, (List.forall_mem_cons.mpr ⟨lm_1148, (List.forall_mem_cons.mpr ⟨lm_1150, (List.forall_mem_cons.mpr ⟨lm_65, (List.forall_mem_cons.mpr ⟨lm_1151, (List.forall_mem_cons.mpr ⟨lm_821, (List.forall_mem_cons.mpr ⟨lm_1152, (List.forall_mem_cons.mpr ⟨lm_1154, (List.forall_mem_cons.mpr ⟨lm_66, (List.forall_mem_cons.mpr ⟨lm_1155, (fun _ h => absurd h List.not_mem_nil)⟩)⟩)⟩)⟩)⟩)⟩)⟩)⟩)⟩)⟩)⟩)⟩)⟩)⟩)⟩)⟩)⟩)⟩)⟩)⟩)⟩)⟩)⟩)⟩)), (List.forall_mem_append.mpr ⟨(show ∀ w ∈ wsX7_count_r3, w ∈ lw_tbl from (List.forall_mem_cons.mpr ⟨lm_825, (List.forall_mem_cons.mpr ⟨lm_861, (List.forall_mem_cons.mpr ⟨lm_826, (List.forall_mem_cons.mpr ⟨lm_827, (List.forall_mem_cons.mpr ⟨lm_830, (List.forall_mem_cons.mpr ⟨lm_828, (List.forall_mem_cons.mpr ⟨lm_829, (List.forall_mem_cons.mpr ⟨lm_1156, (List.forall_mem_cons.mpr ⟨lm_1158, (List.forall_mem_cons.mpr ⟨lm_67, (List.forall_mem_cons.mpr ⟨lm_1159, (List.forall_mem_cons.mpr ⟨lm_815, (List.forall_mem_cons.mpr ⟨lm_811, (List.forall_mem_cons.mpr ⟨lm_812, (List.forall_mem_cons.mpr ⟨lm_824, (List.forall_mem_cons.mpr ⟨lm_994, (List.forall_mem_cons.mpr ⟨lm_995, (List.forall_mem_cons.mpr ⟨lm_996, (List.forall_mem_cons.mpr ⟨lm_1160, (List.forall_mem_cons.mpr ⟨lm_1162, (List.forall_mem_cons.mpr ⟨lm_68, (List.forall_mem_cons.mpr ⟨lm_1163, (List.forall_mem_cons.mpr ⟨lm_1164, (List.forall_mem_cons.mpr ⟨lm_1165, (fun _ h => absurd h List.not_mem_nil)⟩)⟩)⟩)⟩)⟩)⟩)⟩)⟩)⟩)⟩)⟩)⟩)⟩)⟩)⟩)⟩)⟩)⟩)⟩)⟩)⟩)⟩)⟩)⟩)), (show ∀ w ∈ wsX7_count_r4, w ∈ lw_tbl from (List.forall_mem_cons.mpr ⟨lm_1166, (List.forall_mem_cons.mpr ⟨lm_1010, (List.forall_mem_cons.mpr ⟨lm_1012, (List.forall_mem_cons.mpr ⟨lm_39, (List.forall_mem_cons.mpr ⟨lm_1013, (fun _ h => absurd h List.not_mem_nil)⟩)⟩)⟩)⟩)⟩))⟩)⟩)⟩), iw7⟩)⟩) (by decide +kernel))
