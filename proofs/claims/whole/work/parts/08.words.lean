set_option maxRecDepth 100000 in
theorem inW0 : ∀ w ∈ wsX00, w ∈ lwg := by decide +kernel
set_option maxRecDepth 100000 in
theorem inW1 : ∀ w ∈ wsX10, w ∈ lwg := by decide +kernel
set_option maxRecDepth 100000 in
theorem inW2 : ∀ w ∈ wsX20, w ∈ lwg := by decide +kernel
set_option maxRecDepth 100000 in
theorem inW3 : ∀ w ∈ wsX30, w ∈ lwg := by decide +kernel
set_option maxRecDepth 100000 in
theorem inW4 : ∀ w ∈ wsX40, w ∈ lwg := by decide +kernel
set_option maxRecDepth 100000 in
theorem inW5 : ∀ w ∈ wsX50, w ∈ lwg := by decide +kernel
set_option maxRecDepth 100000 in
theorem inW6 : ∀ w ∈ wsX60, w ∈ lwg := by decide +kernel
set_option maxRecDepth 100000 in
theorem inW7 : ∀ w ∈ wsX70, w ∈ lwg := by decide +kernel
set_option maxRecDepth 100000 in
theorem inW8 : ∀ w ∈ wsX80, w ∈ lwg := by decide +kernel
theorem ini_RL : Cond.initialized RL ∈ lwg := lwg_in (List.mem_append_right _ (List.mem_of_getElem? (i := 0) (by decide +kernel))) rfl
theorem ini_RX7 : Cond.initialized RX7 ∈ lwg := lwg_in (List.mem_append_right _ (List.mem_of_getElem? (i := 1) (by decide +kernel))) rfl
theorem ini_RX6 : Cond.initialized RX6 ∈ lwg := lwg_in (List.mem_append_right _ (List.mem_of_getElem? (i := 2) (by decide +kernel))) rfl
theorem ini_RX2 : Cond.initialized RX2 ∈ lwg := lwg_in (List.mem_append_right _ (List.mem_of_getElem? (i := 3) (by decide +kernel))) rfl
theorem ini_RX4 : Cond.initialized RX4 ∈ lwg := lwg_in (List.mem_append_right _ (List.mem_of_getElem? (i := 4) (by decide +kernel))) rfl
theorem ini_RX3 : Cond.initialized RX3 ∈ lwg := lwg_in (List.mem_append_right _ (List.mem_of_getElem? (i := 5) (by decide +kernel))) rfl
theorem ini_RX0 : Cond.initialized RX0 ∈ lwg := lwg_in (List.mem_append_right _ (List.mem_of_getElem? (i := 6) (by decide +kernel))) rfl
theorem ini_RX1 : Cond.initialized RX1 ∈ lwg := lwg_in (List.mem_append_right _ (List.mem_of_getElem? (i := 7) (by decide +kernel))) rfl
theorem ini_RX5 : Cond.initialized RX5 ∈ lwg := lwg_in (List.mem_append_right _ (List.mem_of_getElem? (i := 8) (by decide +kernel))) rfl
theorem ini_RX8 : Cond.initialized RX8 ∈ lwg := lwg_in (List.mem_append_right _ (List.mem_of_getElem? (i := 9) (by decide +kernel))) rfl
theorem ini_RJ10 : Cond.initialized RJ10 ∈ lwg := lwg_in (List.mem_append_right _ (List.mem_of_getElem? (i := 10) (by decide +kernel))) rfl
theorem ini_RJ9 : Cond.initialized RJ9 ∈ lwg := lwg_in (List.mem_append_right _ (List.mem_of_getElem? (i := 11) (by decide +kernel))) rfl
theorem ini_RJ6 : Cond.initialized RJ6 ∈ lwg := lwg_in (List.mem_append_right _ (List.mem_of_getElem? (i := 12) (by decide +kernel))) rfl
set_option maxRecDepth 100000 in
theorem mc_X7_init : Cond.code yX7_init cX7_init 2 none ∈ lwg := lwg_in (List.mem_append_right _ (List.mem_of_getElem? (i := 17) rfl)) rfl
set_option maxRecDepth 100000 in
theorem mc_X6_init : Cond.code yX6_init cX6_init 1 none ∈ lwg := lwg_in (List.mem_append_right _ (List.mem_of_getElem? (i := 27) rfl)) rfl
set_option maxRecDepth 100000 in
theorem mc_X2_init : Cond.code yX2_init cX2_init 1 none ∈ lwg := lwg_in (List.mem_append_right _ (List.mem_of_getElem? (i := 50) rfl)) rfl
set_option maxRecDepth 100000 in
theorem mc_X4_init : Cond.code yX4_init cX4_init 2 none ∈ lwg := lwg_in (List.mem_append_right _ (List.mem_of_getElem? (i := 56) rfl)) rfl
set_option maxRecDepth 100000 in
theorem mc_X3_init : Cond.code yX3_init cX3_init 1 none ∈ lwg := lwg_in (List.mem_append_right _ (List.mem_of_getElem? (i := 63) rfl)) rfl
set_option maxRecDepth 100000 in
theorem mc_X0_init : Cond.code yX0_init cX0_init 2 none ∈ lwg := lwg_in (List.mem_append_right _ (List.mem_of_getElem? (i := 188) rfl)) rfl
set_option maxRecDepth 100000 in
theorem mc_X1_init : Cond.code yX1_init cX1_init 1 none ∈ lwg := lwg_in (List.mem_append_right _ (List.mem_of_getElem? (i := 209) rfl)) rfl
set_option maxRecDepth 100000 in
theorem mc_X5_init : Cond.code yX5_init cX5_init 1 none ∈ lwg := lwg_in (List.mem_append_right _ (List.mem_of_getElem? (i := 221) rfl)) rfl
set_option maxRecDepth 100000 in
theorem mw_X7_row : MwV yX7_row cX7_row 4 (some .int) 3 := ⟨lwg_in (List.mem_append_right _ (List.mem_of_getElem? (i := 272) rfl)) rfl, lwg_in (List.mem_append_right _ (List.mem_of_getElem? (i := 270) (by decide +kernel))) rfl, lwg_in (List.mem_append_right _ (List.mem_of_getElem? (i := 271) (by decide +kernel))) rfl, ini_RX7, by decide +kernel, by decide⟩
set_option maxRecDepth 100000 in
theorem mw_X7_isRow : MwS yX7_isRow cX7_isRow 1 (some .boolean) 1 := ⟨lwg_in (List.mem_append_right _ (List.mem_of_getElem? (i := 275) rfl)) rfl, lwg_in (List.mem_append_right _ (List.mem_of_getElem? (i := 274) (by decide +kernel))) rfl, ini_RX7, by decide +kernel, by decide⟩
set_option maxRecDepth 100000 in
theorem mw_X7_isWithin : MwS yX7_isWithin cX7_isWithin 3 (some .boolean) 3 := ⟨lwg_in (List.mem_append_right _ (List.mem_of_getElem? (i := 278) rfl)) rfl, lwg_in (List.mem_append_right _ (List.mem_of_getElem? (i := 277) (by decide +kernel))) rfl, ini_RX7, by decide +kernel, by decide⟩
set_option maxRecDepth 100000 in
theorem mw_X7_found : MwV yX7_found cX7_found 2 (some .int) 1 := ⟨lwg_in (List.mem_append_right _ (List.mem_of_getElem? (i := 283) rfl)) rfl, lwg_in (List.mem_append_right _ (List.mem_of_getElem? (i := 282) (by decide +kernel))) rfl, lwg_in (List.mem_append_left _ (List.mem_of_getElem? (i := 0) (by decide +kernel))) rfl, ini_RX7, by decide +kernel, by decide⟩
set_option maxRecDepth 100000 in
theorem mw_X5_begin : MwV yX5_begin cX5_begin 4 none 2 := ⟨lwg_in (List.mem_append_right _ (List.mem_of_getElem? (i := 288) rfl)) rfl, lwg_in (List.mem_append_right _ (List.mem_of_getElem? (i := 286) (by decide +kernel))) rfl, lwg_in (List.mem_append_right _ (List.mem_of_getElem? (i := 287) (by decide +kernel))) rfl, ini_RX5, by decide +kernel, by decide⟩
set_option maxRecDepth 100000 in
theorem mw_X7_unfound : MwV yX7_unfound cX7_unfound 2 (some .int) 1 := ⟨lwg_in (List.mem_append_right _ (List.mem_of_getElem? (i := 292) rfl)) rfl, lwg_in (List.mem_append_right _ (List.mem_of_getElem? (i := 291) (by decide +kernel))) rfl, lwg_in (List.mem_append_left _ (List.mem_of_getElem? (i := 1) (by decide +kernel))) rfl, ini_RX7, by decide +kernel, by decide⟩
set_option maxRecDepth 100000 in
theorem mw_X7_set : MwV yX7_set cX7_set 5 (some .int) 3 := ⟨lwg_in (List.mem_append_right _ (List.mem_of_getElem? (i := 296) rfl)) rfl, lwg_in (List.mem_append_right _ (List.mem_of_getElem? (i := 294) (by decide +kernel))) rfl, lwg_in (List.mem_append_right _ (List.mem_of_getElem? (i := 295) (by decide +kernel))) rfl, ini_RX7, by decide +kernel, by decide⟩
set_option maxRecDepth 100000 in
theorem mw_X5_isMissing : MwV yX5_isMissing cX5_isMissing 1 (some .boolean) 0 := ⟨lwg_in (List.mem_append_right _ (List.mem_of_getElem? (i := 300) rfl)) rfl, lwg_in (List.mem_append_right _ (List.mem_of_getElem? (i := 298) (by decide +kernel))) rfl, lwg_in (List.mem_append_right _ (List.mem_of_getElem? (i := 299) (by decide +kernel))) rfl, ini_RX5, by decide +kernel, by decide⟩
set_option maxRecDepth 100000 in
theorem mw_X5_hasPlaces : MwV yX5_hasPlaces cX5_hasPlaces 3 (some .boolean) 2 := ⟨lwg_in (List.mem_append_right _ (List.mem_of_getElem? (i := 304) rfl)) rfl, lwg_in (List.mem_append_right _ (List.mem_of_getElem? (i := 302) (by decide +kernel))) rfl, lwg_in (List.mem_append_right _ (List.mem_of_getElem? (i := 303) (by decide +kernel))) rfl, ini_RX5, by decide +kernel, by decide⟩
set_option maxRecDepth 100000 in
theorem mw_X5_put : MwV yX5_put cX5_put 3 (some .int) 2 := ⟨lwg_in (List.mem_append_right _ (List.mem_of_getElem? (i := 308) rfl)) rfl, lwg_in (List.mem_append_right _ (List.mem_of_getElem? (i := 306) (by decide +kernel))) rfl, lwg_in (List.mem_append_right _ (List.mem_of_getElem? (i := 307) (by decide +kernel))) rfl, ini_RX5, by decide +kernel, by decide⟩
set_option maxRecDepth 100000 in
theorem mw_X5_cut : MwV yX5_cut cX5_cut 2 (some .int) 1 := ⟨lwg_in (List.mem_append_right _ (List.mem_of_getElem? (i := 312) rfl)) rfl, lwg_in (List.mem_append_right _ (List.mem_of_getElem? (i := 311) (by decide +kernel))) rfl, lwg_in (List.mem_append_left _ (List.mem_of_getElem? (i := 2) (by decide +kernel))) rfl, ini_RX5, by decide +kernel, by decide⟩
set_option maxRecDepth 100000 in
theorem mw_X7_copy : MwV yX7_copy cX7_copy 8 (some .int) 5 := ⟨lwg_in (List.mem_append_right _ (List.mem_of_getElem? (i := 316) rfl)) rfl, lwg_in (List.mem_append_right _ (List.mem_of_getElem? (i := 314) (by decide +kernel))) rfl, lwg_in (List.mem_append_right _ (List.mem_of_getElem? (i := 315) (by decide +kernel))) rfl, ini_RX7, by decide +kernel, by decide⟩
set_option maxRecDepth 100000 in
theorem mw_X7_drop : MwV yX7_drop cX7_drop 4 (some .int) 1 := ⟨lwg_in (List.mem_append_right _ (List.mem_of_getElem? (i := 323) rfl)) rfl, lwg_in (List.mem_append_right _ (List.mem_of_getElem? (i := 321) (by decide +kernel))) rfl, lwg_in (List.mem_append_right _ (List.mem_of_getElem? (i := 322) (by decide +kernel))) rfl, ini_RX7, by decide +kernel, by decide⟩
set_option maxRecDepth 100000 in
theorem mw_X5_end : MwV yX5_end cX5_end 1 none 0 := ⟨lwg_in (List.mem_append_right _ (List.mem_of_getElem? (i := 327) rfl)) rfl, lwg_in (List.mem_append_right _ (List.mem_of_getElem? (i := 325) (by decide +kernel))) rfl, lwg_in (List.mem_append_right _ (List.mem_of_getElem? (i := 326) (by decide +kernel))) rfl, ini_RX5, by decide +kernel, by decide⟩
set_option maxRecDepth 100000 in
theorem mw_X7_feed : MwV yX7_feed cX7_feed 2 (some .int) 1 := ⟨lwg_in (List.mem_append_right _ (List.mem_of_getElem? (i := 331) rfl)) rfl, lwg_in (List.mem_append_right _ (List.mem_of_getElem? (i := 329) (by decide +kernel))) rfl, lwg_in (List.mem_append_right _ (List.mem_of_getElem? (i := 330) (by decide +kernel))) rfl, ini_RX7, by decide +kernel, by decide⟩
set_option maxRecDepth 100000 in
theorem mw_X6_append : MwV yX6_append cX6_append 2 none 1 := ⟨lwg_in (List.mem_append_right _ (List.mem_of_getElem? (i := 336) rfl)) rfl, lwg_in (List.mem_append_right _ (List.mem_of_getElem? (i := 334) (by decide +kernel))) rfl, lwg_in (List.mem_append_right _ (List.mem_of_getElem? (i := 335) (by decide +kernel))) rfl, ini_RX6, by decide +kernel, by decide⟩
set_option maxRecDepth 100000 in
theorem mw_X7_roof : MwV yX7_roof cX7_roof 2 (some .int) 0 := ⟨lwg_in (List.mem_append_right _ (List.mem_of_getElem? (i := 340) rfl)) rfl, lwg_in (List.mem_append_right _ (List.mem_of_getElem? (i := 338) (by decide +kernel))) rfl, lwg_in (List.mem_append_right _ (List.mem_of_getElem? (i := 339) (by decide +kernel))) rfl, ini_RX7, by decide +kernel, by decide⟩
set_option maxRecDepth 100000 in
theorem mw_X6_readInto : MwV yX6_readInto cX6_readInto 2 (some .boolean) 1 := ⟨lwg_in (List.mem_append_right _ (List.mem_of_getElem? (i := 344) rfl)) rfl, lwg_in (List.mem_append_right _ (List.mem_of_getElem? (i := 342) (by decide +kernel))) rfl, lwg_in (List.mem_append_right _ (List.mem_of_getElem? (i := 343) (by decide +kernel))) rfl, ini_RX6, by decide +kernel, by decide⟩
set_option maxRecDepth 100000 in
theorem mw_X6_readLaw : MwV yX6_readLaw cX6_readLaw 2 (some .boolean) 1 := ⟨lwg_in (List.mem_append_right _ (List.mem_of_getElem? (i := 348) rfl)) rfl, lwg_in (List.mem_append_right _ (List.mem_of_getElem? (i := 347) (by decide +kernel))) rfl, lwg_in (List.mem_append_left _ (List.mem_of_getElem? (i := 3) (by decide +kernel))) rfl, ini_RX6, by decide +kernel, by decide⟩
set_option maxRecDepth 100000 in
theorem mw_X6_take : MwV yX6_take cX6_take 2 (some .boolean) 1 := ⟨lwg_in (List.mem_append_right _ (List.mem_of_getElem? (i := 352) rfl)) rfl, lwg_in (List.mem_append_right _ (List.mem_of_getElem? (i := 351) (by decide +kernel))) rfl, lwg_in (List.mem_append_left _ (List.mem_of_getElem? (i := 4) (by decide +kernel))) rfl, ini_RX6, by decide +kernel, by decide⟩
set_option maxRecDepth 100000 in
theorem mw_X6_next : MwV yX6_next cX6_next 1 (some .int) 0 := ⟨lwg_in (List.mem_append_right _ (List.mem_of_getElem? (i := 356) rfl)) rfl, lwg_in (List.mem_append_right _ (List.mem_of_getElem? (i := 355) (by decide +kernel))) rfl, lwg_in (List.mem_append_left _ (List.mem_of_getElem? (i := 5) (by decide +kernel))) rfl, ini_RX6, by decide +kernel, by decide⟩
set_option maxRecDepth 100000 in
theorem mw_X6_byteAt : MwV yX6_byteAt cX6_byteAt 2 (some .int) 1 := ⟨lwg_in (List.mem_append_right _ (List.mem_of_getElem? (i := 360) rfl)) rfl, lwg_in (List.mem_append_right _ (List.mem_of_getElem? (i := 359) (by decide +kernel))) rfl, lwg_in (List.mem_append_left _ (List.mem_of_getElem? (i := 6) (by decide +kernel))) rfl, ini_RX6, by decide +kernel, by decide⟩
set_option maxRecDepth 100000 in
theorem mw_X6_hasFault : MwV yX6_hasFault cX6_hasFault 2 (some .boolean) 1 := ⟨lwg_in (List.mem_append_right _ (List.mem_of_getElem? (i := 364) rfl)) rfl, lwg_in (List.mem_append_right _ (List.mem_of_getElem? (i := 363) (by decide +kernel))) rfl, lwg_in (List.mem_append_left _ (List.mem_of_getElem? (i := 7) (by decide +kernel))) rfl, ini_RX6, by decide +kernel, by decide⟩
set_option maxRecDepth 100000 in
theorem mw_X6_takeNumber : MwV yX6_takeNumber cX6_takeNumber 5 (some .int) 2 := ⟨lwg_in (List.mem_append_right _ (List.mem_of_getElem? (i := 368) rfl)) rfl, lwg_in (List.mem_append_right _ (List.mem_of_getElem? (i := 367) (by decide +kernel))) rfl, lwg_in (List.mem_append_left _ (List.mem_of_getElem? (i := 8) (by decide +kernel))) rfl, ini_RX6, by decide +kernel, by decide⟩
set_option maxRecDepth 100000 in
theorem mw_X6_figuresHere : MwV yX6_figuresHere cX6_figuresHere 2 (some .int) 0 := ⟨lwg_in (List.mem_append_right _ (List.mem_of_getElem? (i := 372) rfl)) rfl, lwg_in (List.mem_append_right _ (List.mem_of_getElem? (i := 371) (by decide +kernel))) rfl, lwg_in (List.mem_append_left _ (List.mem_of_getElem? (i := 9) (by decide +kernel))) rfl, ini_RX6, by decide +kernel, by decide⟩
set_option maxRecDepth 100000 in
theorem mw_X6_isFigure : MwS yX6_isFigure cX6_isFigure 1 (some .boolean) 1 := ⟨lwg_in (List.mem_append_right _ (List.mem_of_getElem? (i := 375) rfl)) rfl, lwg_in (List.mem_append_right _ (List.mem_of_getElem? (i := 374) (by decide +kernel))) rfl, ini_RX6, by decide +kernel, by decide⟩
set_option maxRecDepth 100000 in
theorem mw_X6_readWinds : MwV yX6_readWinds cX6_readWinds 4 (some .boolean) 1 := ⟨lwg_in (List.mem_append_right _ (List.mem_of_getElem? (i := 379) rfl)) rfl, lwg_in (List.mem_append_right _ (List.mem_of_getElem? (i := 378) (by decide +kernel))) rfl, lwg_in (List.mem_append_left _ (List.mem_of_getElem? (i := 10) (by decide +kernel))) rfl, ini_RX6, by decide +kernel, by decide⟩
set_option maxRecDepth 100000 in
theorem mw_X6_readPapers : MwV yX6_readPapers cX6_readPapers 3 (some .boolean) 1 := ⟨lwg_in (List.mem_append_right _ (List.mem_of_getElem? (i := 383) rfl)) rfl, lwg_in (List.mem_append_right _ (List.mem_of_getElem? (i := 382) (by decide +kernel))) rfl, lwg_in (List.mem_append_left _ (List.mem_of_getElem? (i := 11) (by decide +kernel))) rfl, ini_RX6, by decide +kernel, by decide⟩
set_option maxRecDepth 100000 in
theorem mw_X6_sortOf : MwS yX6_sortOf cX6_sortOf 1 (some .int) 1 := ⟨lwg_in (List.mem_append_right _ (List.mem_of_getElem? (i := 386) rfl)) rfl, lwg_in (List.mem_append_right _ (List.mem_of_getElem? (i := 385) (by decide +kernel))) rfl, ini_RX6, by decide +kernel, by decide⟩
set_option maxRecDepth 100000 in
theorem mw_X6_readPaper : MwV yX6_readPaper cX6_readPaper 2 (some .boolean) 1 := ⟨lwg_in (List.mem_append_right _ (List.mem_of_getElem? (i := 390) rfl)) rfl, lwg_in (List.mem_append_right _ (List.mem_of_getElem? (i := 389) (by decide +kernel))) rfl, lwg_in (List.mem_append_left _ (List.mem_of_getElem? (i := 12) (by decide +kernel))) rfl, ini_RX6, by decide +kernel, by decide⟩
set_option maxRecDepth 100000 in
theorem mw_X3_settle : MwV yX3_settle cX3_settle 3 none 2 := ⟨lwg_in (List.mem_append_right _ (List.mem_of_getElem? (i := 395) rfl)) rfl, lwg_in (List.mem_append_right _ (List.mem_of_getElem? (i := 393) (by decide +kernel))) rfl, lwg_in (List.mem_append_right _ (List.mem_of_getElem? (i := 394) (by decide +kernel))) rfl, ini_RX3, by decide +kernel, by decide⟩
set_option maxRecDepth 100000 in
theorem mw_X6_takeEnd : MwV yX6_takeEnd cX6_takeEnd 1 (some .boolean) 0 := ⟨lwg_in (List.mem_append_right _ (List.mem_of_getElem? (i := 399) rfl)) rfl, lwg_in (List.mem_append_right _ (List.mem_of_getElem? (i := 398) (by decide +kernel))) rfl, lwg_in (List.mem_append_left _ (List.mem_of_getElem? (i := 13) (by decide +kernel))) rfl, ini_RX6, by decide +kernel, by decide⟩
set_option maxRecDepth 100000 in
theorem mw_X4_become : MwV yX4_become cX4_become 3 none 1 := ⟨lwg_in (List.mem_append_right _ (List.mem_of_getElem? (i := 404) rfl)) rfl, lwg_in (List.mem_append_right _ (List.mem_of_getElem? (i := 402) (by decide +kernel))) rfl, lwg_in (List.mem_append_right _ (List.mem_of_getElem? (i := 403) (by decide +kernel))) rfl, ini_RX4, by decide +kernel, by decide⟩
set_option maxRecDepth 100000 in
theorem mw_X3_become : MwV yX3_become cX3_become 2 none 1 := ⟨lwg_in (List.mem_append_right _ (List.mem_of_getElem? (i := 408) rfl)) rfl, lwg_in (List.mem_append_right _ (List.mem_of_getElem? (i := 406) (by decide +kernel))) rfl, lwg_in (List.mem_append_right _ (List.mem_of_getElem? (i := 407) (by decide +kernel))) rfl, ini_RX3, by decide +kernel, by decide⟩
set_option maxRecDepth 100000 in
theorem mw_X0_forget : MwV yX0_forget cX0_forget 1 none 0 := ⟨lwg_in (List.mem_append_right _ (List.mem_of_getElem? (i := 412) rfl)) rfl, lwg_in (List.mem_append_right _ (List.mem_of_getElem? (i := 410) (by decide +kernel))) rfl, lwg_in (List.mem_append_right _ (List.mem_of_getElem? (i := 411) (by decide +kernel))) rfl, ini_RX0, by decide +kernel, by decide⟩
set_option maxRecDepth 100000 in
theorem mw_X7_fault : MwV yX7_fault cX7_fault 1 (some .int) 0 := ⟨lwg_in (List.mem_append_right _ (List.mem_of_getElem? (i := 416) rfl)) rfl, lwg_in (List.mem_append_right _ (List.mem_of_getElem? (i := 414) (by decide +kernel))) rfl, lwg_in (List.mem_append_right _ (List.mem_of_getElem? (i := 415) (by decide +kernel))) rfl, ini_RX7, by decide +kernel, by decide⟩
set_option maxRecDepth 100000 in
theorem mw_X7_undo : MwV yX7_undo cX7_undo 1 (some .int) 0 := ⟨lwg_in (List.mem_append_right _ (List.mem_of_getElem? (i := 420) rfl)) rfl, lwg_in (List.mem_append_right _ (List.mem_of_getElem? (i := 418) (by decide +kernel))) rfl, lwg_in (List.mem_append_right _ (List.mem_of_getElem? (i := 419) (by decide +kernel))) rfl, ini_RX7, by decide +kernel, by decide⟩
set_option maxRecDepth 100000 in
theorem mw_X0_takeBack : MwV yX0_takeBack cX0_takeBack 2 none 1 := ⟨lwg_in (List.mem_append_right _ (List.mem_of_getElem? (i := 425) rfl)) rfl, lwg_in (List.mem_append_right _ (List.mem_of_getElem? (i := 423) (by decide +kernel))) rfl, lwg_in (List.mem_append_right _ (List.mem_of_getElem? (i := 424) (by decide +kernel))) rfl, ini_RX0, by decide +kernel, by decide⟩
set_option maxRecDepth 100000 in
theorem mw_J9_max_7cf53 : MwS yJ9_max_7cf53 cJ9_max_7cf53 2 (some .int) 2 := ⟨lwg_in (List.mem_append_right _ (List.mem_of_getElem? (i := 428) rfl)) rfl, lwg_in (List.mem_append_right _ (List.mem_of_getElem? (i := 427) (by decide +kernel))) rfl, ini_RJ9, by decide +kernel, by decide⟩
set_option maxRecDepth 100000 in
theorem mw_X7_hours : MwV yX7_hours cX7_hours 3 (some .int) 1 := ⟨lwg_in (List.mem_append_right _ (List.mem_of_getElem? (i := 433) rfl)) rfl, lwg_in (List.mem_append_right _ (List.mem_of_getElem? (i := 431) (by decide +kernel))) rfl, lwg_in (List.mem_append_right _ (List.mem_of_getElem? (i := 432) (by decide +kernel))) rfl, ini_RX7, by decide +kernel, by decide⟩
set_option maxRecDepth 100000 in
theorem mw_X4_isRead : MwV yX4_isRead cX4_isRead 1 (some .boolean) 0 := ⟨lwg_in (List.mem_append_right _ (List.mem_of_getElem? (i := 437) rfl)) rfl, lwg_in (List.mem_append_right _ (List.mem_of_getElem? (i := 435) (by decide +kernel))) rfl, lwg_in (List.mem_append_right _ (List.mem_of_getElem? (i := 436) (by decide +kernel))) rfl, ini_RX4, by decide +kernel, by decide⟩
set_option maxRecDepth 100000 in
theorem mw_X0_keep : MwV yX0_keep cX0_keep 2 none 1 := ⟨lwg_in (List.mem_append_right _ (List.mem_of_getElem? (i := 441) rfl)) rfl, lwg_in (List.mem_append_right _ (List.mem_of_getElem? (i := 439) (by decide +kernel))) rfl, lwg_in (List.mem_append_right _ (List.mem_of_getElem? (i := 440) (by decide +kernel))) rfl, ini_RX0, by decide +kernel, by decide⟩
set_option maxRecDepth 100000 in
theorem mw_J9_min_7cf53 : MwS yJ9_min_7cf53 cJ9_min_7cf53 2 (some .int) 2 := ⟨lwg_in (List.mem_append_right _ (List.mem_of_getElem? (i := 444) rfl)) rfl, lwg_in (List.mem_append_right _ (List.mem_of_getElem? (i := 443) (by decide +kernel))) rfl, ini_RJ9, by decide +kernel, by decide⟩
set_option maxRecDepth 100000 in
theorem mw_X4_forceAfter : MwV yX4_forceAfter cX4_forceAfter 2 (some .int) 1 := ⟨lwg_in (List.mem_append_right _ (List.mem_of_getElem? (i := 448) rfl)) rfl, lwg_in (List.mem_append_right _ (List.mem_of_getElem? (i := 446) (by decide +kernel))) rfl, lwg_in (List.mem_append_right _ (List.mem_of_getElem? (i := 447) (by decide +kernel))) rfl, ini_RX4, by decide +kernel, by decide⟩
set_option maxRecDepth 100000 in
theorem mw_X4_passHourIn : MwV yX4_passHourIn cX4_passHourIn 4 none 1 := ⟨lwg_in (List.mem_append_right _ (List.mem_of_getElem? (i := 452) rfl)) rfl, lwg_in (List.mem_append_right _ (List.mem_of_getElem? (i := 450) (by decide +kernel))) rfl, lwg_in (List.mem_append_right _ (List.mem_of_getElem? (i := 451) (by decide +kernel))) rfl, ini_RX4, by decide +kernel, by decide⟩
set_option maxRecDepth 100000 in
theorem mw_X4_isPaired : MwV yX4_isPaired cX4_isPaired 3 (some .boolean) 0 := ⟨lwg_in (List.mem_append_right _ (List.mem_of_getElem? (i := 456) rfl)) rfl, lwg_in (List.mem_append_right _ (List.mem_of_getElem? (i := 455) (by decide +kernel))) rfl, lwg_in (List.mem_append_left _ (List.mem_of_getElem? (i := 14) (by decide +kernel))) rfl, ini_RX4, by decide +kernel, by decide⟩
set_option maxRecDepth 100000 in
theorem mw_X3_isUp : MwV yX3_isUp cX3_isUp 1 (some .boolean) 0 := ⟨lwg_in (List.mem_append_right _ (List.mem_of_getElem? (i := 460) rfl)) rfl, lwg_in (List.mem_append_right _ (List.mem_of_getElem? (i := 458) (by decide +kernel))) rfl, lwg_in (List.mem_append_right _ (List.mem_of_getElem? (i := 459) (by decide +kernel))) rfl, ini_RX3, by decide +kernel, by decide⟩
set_option maxRecDepth 100000 in
theorem mw_X3_liftIn : MwV yX3_liftIn cX3_liftIn 5 (some .int) 2 := ⟨lwg_in (List.mem_append_right _ (List.mem_of_getElem? (i := 464) rfl)) rfl, lwg_in (List.mem_append_right _ (List.mem_of_getElem? (i := 462) (by decide +kernel))) rfl, lwg_in (List.mem_append_right _ (List.mem_of_getElem? (i := 463) (by decide +kernel))) rfl, ini_RX3, by decide +kernel, by decide⟩
set_option maxRecDepth 100000 in
theorem mw_X3_moveBy : MwV yX3_moveBy cX3_moveBy 4 none 3 := ⟨lwg_in (List.mem_append_right _ (List.mem_of_getElem? (i := 469) rfl)) rfl, lwg_in (List.mem_append_right _ (List.mem_of_getElem? (i := 467) (by decide +kernel))) rfl, lwg_in (List.mem_append_right _ (List.mem_of_getElem? (i := 468) (by decide +kernel))) rfl, ini_RX3, by decide +kernel, by decide⟩
set_option maxRecDepth 100000 in
theorem mw_X3_snapsBy : MwV yX3_snapsBy cX3_snapsBy 3 (some .boolean) 2 := ⟨lwg_in (List.mem_append_right _ (List.mem_of_getElem? (i := 473) rfl)) rfl, lwg_in (List.mem_append_right _ (List.mem_of_getElem? (i := 471) (by decide +kernel))) rfl, lwg_in (List.mem_append_right _ (List.mem_of_getElem? (i := 472) (by decide +kernel))) rfl, ini_RX3, by decide +kernel, by decide⟩
set_option maxRecDepth 100000 in
theorem mw_X4_policyBits : MwV yX4_policyBits cX4_policyBits 3 (some .int) 0 := ⟨lwg_in (List.mem_append_right _ (List.mem_of_getElem? (i := 479) rfl)) rfl, lwg_in (List.mem_append_right _ (List.mem_of_getElem? (i := 477) (by decide +kernel))) rfl, lwg_in (List.mem_append_right _ (List.mem_of_getElem? (i := 478) (by decide +kernel))) rfl, ini_RX4, by decide +kernel, by decide⟩
set_option maxRecDepth 100000 in
theorem mw_X4_isPolicy : MwV yX4_isPolicy cX4_isPolicy 2 (some .boolean) 1 := ⟨lwg_in (List.mem_append_right _ (List.mem_of_getElem? (i := 483) rfl)) rfl, lwg_in (List.mem_append_right _ (List.mem_of_getElem? (i := 481) (by decide +kernel))) rfl, lwg_in (List.mem_append_right _ (List.mem_of_getElem? (i := 482) (by decide +kernel))) rfl, ini_RX4, by decide +kernel, by decide⟩
set_option maxRecDepth 100000 in
theorem mw_X7_send : MwV yX7_send cX7_send 4 (some .int) 2 := ⟨lwg_in (List.mem_append_right _ (List.mem_of_getElem? (i := 487) rfl)) rfl, lwg_in (List.mem_append_right _ (List.mem_of_getElem? (i := 485) (by decide +kernel))) rfl, lwg_in (List.mem_append_right _ (List.mem_of_getElem? (i := 486) (by decide +kernel))) rfl, ini_RX7, by decide +kernel, by decide⟩
set_option maxRecDepth 100000 in
theorem mw_X4_hasPaper : MwV yX4_hasPaper cX4_hasPaper 2 (some .boolean) 1 := ⟨lwg_in (List.mem_append_right _ (List.mem_of_getElem? (i := 491) rfl)) rfl, lwg_in (List.mem_append_right _ (List.mem_of_getElem? (i := 489) (by decide +kernel))) rfl, lwg_in (List.mem_append_right _ (List.mem_of_getElem? (i := 490) (by decide +kernel))) rfl, ini_RX4, by decide +kernel, by decide⟩
set_option maxRecDepth 100000 in
theorem mw_X3_rise : MwV yX3_rise cX3_rise 2 none 1 := ⟨lwg_in (List.mem_append_right _ (List.mem_of_getElem? (i := 495) rfl)) rfl, lwg_in (List.mem_append_right _ (List.mem_of_getElem? (i := 493) (by decide +kernel))) rfl, lwg_in (List.mem_append_right _ (List.mem_of_getElem? (i := 494) (by decide +kernel))) rfl, ini_RX3, by decide +kernel, by decide⟩
set_option maxRecDepth 100000 in
theorem mw_X4_bitsOf : MwV yX4_bitsOf cX4_bitsOf 4 (some .int) 1 := ⟨lwg_in (List.mem_append_right _ (List.mem_of_getElem? (i := 499) rfl)) rfl, lwg_in (List.mem_append_right _ (List.mem_of_getElem? (i := 497) (by decide +kernel))) rfl, lwg_in (List.mem_append_right _ (List.mem_of_getElem? (i := 498) (by decide +kernel))) rfl, ini_RX4, by decide +kernel, by decide⟩
set_option maxRecDepth 100000 in
theorem mw_X7_let : MwV yX7_let cX7_let 4 (some .int) 2 := ⟨lwg_in (List.mem_append_right _ (List.mem_of_getElem? (i := 503) rfl)) rfl, lwg_in (List.mem_append_right _ (List.mem_of_getElem? (i := 501) (by decide +kernel))) rfl, lwg_in (List.mem_append_right _ (List.mem_of_getElem? (i := 502) (by decide +kernel))) rfl, ini_RX7, by decide +kernel, by decide⟩
set_option maxRecDepth 100000 in
theorem mw_X3_letOutBy : MwV yX3_letOutBy cX3_letOutBy 2 none 1 := ⟨lwg_in (List.mem_append_right _ (List.mem_of_getElem? (i := 508) rfl)) rfl, lwg_in (List.mem_append_right _ (List.mem_of_getElem? (i := 506) (by decide +kernel))) rfl, lwg_in (List.mem_append_right _ (List.mem_of_getElem? (i := 507) (by decide +kernel))) rfl, ini_RX3, by decide +kernel, by decide⟩
set_option maxRecDepth 100000 in
theorem mw_X7_weigh : MwV yX7_weigh cX7_weigh 4 (some .int) 2 := ⟨lwg_in (List.mem_append_right _ (List.mem_of_getElem? (i := 512) rfl)) rfl, lwg_in (List.mem_append_right _ (List.mem_of_getElem? (i := 510) (by decide +kernel))) rfl, lwg_in (List.mem_append_right _ (List.mem_of_getElem? (i := 511) (by decide +kernel))) rfl, ini_RX7, by decide +kernel, by decide⟩
set_option maxRecDepth 100000 in
theorem mw_X7_blow : MwV yX7_blow cX7_blow 4 (some .int) 2 := ⟨lwg_in (List.mem_append_right _ (List.mem_of_getElem? (i := 516) rfl)) rfl, lwg_in (List.mem_append_right _ (List.mem_of_getElem? (i := 514) (by decide +kernel))) rfl, lwg_in (List.mem_append_right _ (List.mem_of_getElem? (i := 515) (by decide +kernel))) rfl, ini_RX7, by decide +kernel, by decide⟩
set_option maxRecDepth 100000 in
theorem mw_X4_hasWind : MwV yX4_hasWind cX4_hasWind 2 (some .boolean) 1 := ⟨lwg_in (List.mem_append_right _ (List.mem_of_getElem? (i := 520) rfl)) rfl, lwg_in (List.mem_append_right _ (List.mem_of_getElem? (i := 518) (by decide +kernel))) rfl, lwg_in (List.mem_append_right _ (List.mem_of_getElem? (i := 519) (by decide +kernel))) rfl, ini_RX4, by decide +kernel, by decide⟩
set_option maxRecDepth 100000 in
theorem mw_X7_paper : MwV yX7_paper cX7_paper 4 (some .int) 2 := ⟨lwg_in (List.mem_append_right _ (List.mem_of_getElem? (i := 524) rfl)) rfl, lwg_in (List.mem_append_right _ (List.mem_of_getElem? (i := 522) (by decide +kernel))) rfl, lwg_in (List.mem_append_right _ (List.mem_of_getElem? (i := 523) (by decide +kernel))) rfl, ini_RX7, by decide +kernel, by decide⟩
set_option maxRecDepth 100000 in
theorem mw_X7_force : MwV yX7_force cX7_force 2 (some .int) 1 := ⟨lwg_in (List.mem_append_right _ (List.mem_of_getElem? (i := 529) rfl)) rfl, lwg_in (List.mem_append_right _ (List.mem_of_getElem? (i := 527) (by decide +kernel))) rfl, lwg_in (List.mem_append_right _ (List.mem_of_getElem? (i := 528) (by decide +kernel))) rfl, ini_RX7, by decide +kernel, by decide⟩
set_option maxRecDepth 100000 in
theorem mw_X7_stand : MwV yX7_stand cX7_stand 2 (some .int) 1 := ⟨lwg_in (List.mem_append_right _ (List.mem_of_getElem? (i := 533) rfl)) rfl, lwg_in (List.mem_append_right _ (List.mem_of_getElem? (i := 531) (by decide +kernel))) rfl, lwg_in (List.mem_append_right _ (List.mem_of_getElem? (i := 532) (by decide +kernel))) rfl, ini_RX7, by decide +kernel, by decide⟩
set_option maxRecDepth 100000 in
theorem mw_X7_ahead : MwV yX7_ahead cX7_ahead 5 (some .int) 3 := ⟨lwg_in (List.mem_append_right _ (List.mem_of_getElem? (i := 537) rfl)) rfl, lwg_in (List.mem_append_right _ (List.mem_of_getElem? (i := 535) (by decide +kernel))) rfl, lwg_in (List.mem_append_right _ (List.mem_of_getElem? (i := 536) (by decide +kernel))) rfl, ini_RX7, by decide +kernel, by decide⟩
set_option maxRecDepth 100000 in
theorem mw_X2_draftAhead : MwV yX2_draftAhead cX2_draftAhead 2 none 1 := ⟨lwg_in (List.mem_append_right _ (List.mem_of_getElem? (i := 541) rfl)) rfl, lwg_in (List.mem_append_right _ (List.mem_of_getElem? (i := 539) (by decide +kernel))) rfl, lwg_in (List.mem_append_right _ (List.mem_of_getElem? (i := 540) (by decide +kernel))) rfl, ini_RX2, by decide +kernel, by decide⟩
set_option maxRecDepth 100000 in
theorem mw_X2_passDraft : MwV yX2_passDraft cX2_passDraft 3 none 1 := ⟨lwg_in (List.mem_append_right _ (List.mem_of_getElem? (i := 546) rfl)) rfl, lwg_in (List.mem_append_right _ (List.mem_of_getElem? (i := 545) (by decide +kernel))) rfl, lwg_in (List.mem_append_left _ (List.mem_of_getElem? (i := 15) (by decide +kernel))) rfl, ini_RX2, by decide +kernel, by decide⟩
set_option maxRecDepth 100000 in
theorem mw_X7_when : MwV yX7_when cX7_when 3 (some .int) 2 := ⟨lwg_in (List.mem_append_right _ (List.mem_of_getElem? (i := 552) rfl)) rfl, lwg_in (List.mem_append_right _ (List.mem_of_getElem? (i := 550) (by decide +kernel))) rfl, lwg_in (List.mem_append_right _ (List.mem_of_getElem? (i := 551) (by decide +kernel))) rfl, ini_RX7, by decide +kernel, by decide⟩
set_option maxRecDepth 100000 in
theorem mw_X2_firstHour : MwV yX2_firstHour cX2_firstHour 4 (some .int) 2 := ⟨lwg_in (List.mem_append_right _ (List.mem_of_getElem? (i := 556) rfl)) rfl, lwg_in (List.mem_append_right _ (List.mem_of_getElem? (i := 554) (by decide +kernel))) rfl, lwg_in (List.mem_append_right _ (List.mem_of_getElem? (i := 555) (by decide +kernel))) rfl, ini_RX2, by decide +kernel, by decide⟩
set_option maxRecDepth 100000 in
theorem mw_X7_policy : MwV yX7_policy cX7_policy 2 (some .int) 1 := ⟨lwg_in (List.mem_append_right _ (List.mem_of_getElem? (i := 561) rfl)) rfl, lwg_in (List.mem_append_right _ (List.mem_of_getElem? (i := 559) (by decide +kernel))) rfl, lwg_in (List.mem_append_right _ (List.mem_of_getElem? (i := 560) (by decide +kernel))) rfl, ini_RX7, by decide +kernel, by decide⟩
set_option maxRecDepth 100000 in
theorem mw_X7_pull : MwV yX7_pull cX7_pull 2 (some .int) 1 := ⟨lwg_in (List.mem_append_right _ (List.mem_of_getElem? (i := 565) rfl)) rfl, lwg_in (List.mem_append_right _ (List.mem_of_getElem? (i := 563) (by decide +kernel))) rfl, lwg_in (List.mem_append_right _ (List.mem_of_getElem? (i := 564) (by decide +kernel))) rfl, ini_RX7, by decide +kernel, by decide⟩
set_option maxRecDepth 100000 in
theorem mw_X4_riseOf : MwV yX4_riseOf cX4_riseOf 3 (some .int) 2 := ⟨lwg_in (List.mem_append_right _ (List.mem_of_getElem? (i := 569) rfl)) rfl, lwg_in (List.mem_append_right _ (List.mem_of_getElem? (i := 567) (by decide +kernel))) rfl, lwg_in (List.mem_append_right _ (List.mem_of_getElem? (i := 568) (by decide +kernel))) rfl, ini_RX4, by decide +kernel, by decide⟩
set_option maxRecDepth 100000 in
theorem mw_X7_sends : MwV yX7_sends cX7_sends 4 (some .int) 3 := ⟨lwg_in (List.mem_append_right _ (List.mem_of_getElem? (i := 573) rfl)) rfl, lwg_in (List.mem_append_right _ (List.mem_of_getElem? (i := 571) (by decide +kernel))) rfl, lwg_in (List.mem_append_right _ (List.mem_of_getElem? (i := 572) (by decide +kernel))) rfl, ini_RX7, by decide +kernel, by decide⟩
set_option maxRecDepth 100000 in
theorem mw_X2_bestToSend : MwV yX2_bestToSend cX2_bestToSend 10 (some .int) 3 := ⟨lwg_in (List.mem_append_right _ (List.mem_of_getElem? (i := 577) rfl)) rfl, lwg_in (List.mem_append_right _ (List.mem_of_getElem? (i := 575) (by decide +kernel))) rfl, lwg_in (List.mem_append_right _ (List.mem_of_getElem? (i := 576) (by decide +kernel))) rfl, ini_RX2, by decide +kernel, by decide⟩
set_option maxRecDepth 100000 in
theorem mw_X4_sendAll : MwV yX4_sendAll cX4_sendAll 4 none 2 := ⟨lwg_in (List.mem_append_right _ (List.mem_of_getElem? (i := 582) rfl)) rfl, lwg_in (List.mem_append_right _ (List.mem_of_getElem? (i := 580) (by decide +kernel))) rfl, lwg_in (List.mem_append_right _ (List.mem_of_getElem? (i := 581) (by decide +kernel))) rfl, ini_RX4, by decide +kernel, by decide⟩
set_option maxRecDepth 100000 in
theorem mw_J6_bitCount_0f7a4 : MwS yJ6_bitCount_0f7a4 cJ6_bitCount_0f7a4 1 (some .int) 1 := ⟨lwg_in (List.mem_append_right _ (List.mem_of_getElem? (i := 587) rfl)) rfl, lwg_in (List.mem_append_right _ (List.mem_of_getElem? (i := 586) (by decide +kernel))) rfl, ini_RJ6, by decide +kernel, by decide⟩
set_option maxRecDepth 100000 in
theorem mw_X7_lets : MwV yX7_lets cX7_lets 4 (some .int) 3 := ⟨lwg_in (List.mem_append_right _ (List.mem_of_getElem? (i := 594) rfl)) rfl, lwg_in (List.mem_append_right _ (List.mem_of_getElem? (i := 592) (by decide +kernel))) rfl, lwg_in (List.mem_append_right _ (List.mem_of_getElem? (i := 593) (by decide +kernel))) rfl, ini_RX7, by decide +kernel, by decide⟩
set_option maxRecDepth 100000 in
theorem mw_X2_bestLetting : MwV yX2_bestLetting cX2_bestLetting 9 (some .int) 3 := ⟨lwg_in (List.mem_append_right _ (List.mem_of_getElem? (i := 598) rfl)) rfl, lwg_in (List.mem_append_right _ (List.mem_of_getElem? (i := 596) (by decide +kernel))) rfl, lwg_in (List.mem_append_right _ (List.mem_of_getElem? (i := 597) (by decide +kernel))) rfl, ini_RX2, by decide +kernel, by decide⟩
set_option maxRecDepth 100000 in
theorem mw_X2_highBy : MwV yX2_highBy cX2_highBy 6 (some .int) 3 := ⟨lwg_in (List.mem_append_right _ (List.mem_of_getElem? (i := 602) rfl)) rfl, lwg_in (List.mem_append_right _ (List.mem_of_getElem? (i := 601) (by decide +kernel))) rfl, lwg_in (List.mem_append_left _ (List.mem_of_getElem? (i := 16) (by decide +kernel))) rfl, ini_RX2, by decide +kernel, by decide⟩
set_option maxRecDepth 100000 in
theorem mw_X2_lettingAt : MwS yX2_lettingAt cX2_lettingAt 3 (some .int) 3 := ⟨lwg_in (List.mem_append_right _ (List.mem_of_getElem? (i := 606) rfl)) rfl, lwg_in (List.mem_append_right _ (List.mem_of_getElem? (i := 605) (by decide +kernel))) rfl, ini_RX2, by decide +kernel, by decide⟩
set_option maxRecDepth 100000 in
theorem mw_X2_yardsOf : MwS yX2_yardsOf cX2_yardsOf 1 (some .int) 1 := ⟨lwg_in (List.mem_append_right _ (List.mem_of_getElem? (i := 609) rfl)) rfl, lwg_in (List.mem_append_right _ (List.mem_of_getElem? (i := 608) (by decide +kernel))) rfl, ini_RX2, by decide +kernel, by decide⟩
set_option maxRecDepth 100000 in
theorem mw_X7_light : MwV yX7_light cX7_light 3 (some .int) 2 := ⟨lwg_in (List.mem_append_right _ (List.mem_of_getElem? (i := 614) rfl)) rfl, lwg_in (List.mem_append_right _ (List.mem_of_getElem? (i := 612) (by decide +kernel))) rfl, lwg_in (List.mem_append_right _ (List.mem_of_getElem? (i := 613) (by decide +kernel))) rfl, ini_RX7, by decide +kernel, by decide⟩
set_option maxRecDepth 100000 in
theorem mw_X2_greatestWeight : MwV yX2_greatestWeight cX2_greatestWeight 4 (some .int) 2 := ⟨lwg_in (List.mem_append_right _ (List.mem_of_getElem? (i := 618) rfl)) rfl, lwg_in (List.mem_append_right _ (List.mem_of_getElem? (i := 616) (by decide +kernel))) rfl, lwg_in (List.mem_append_right _ (List.mem_of_getElem? (i := 617) (by decide +kernel))) rfl, ini_RX2, by decide +kernel, by decide⟩
set_option maxRecDepth 100000 in
theorem mw_X2_draftWith : MwV yX2_draftWith cX2_draftWith 4 none 3 := ⟨lwg_in (List.mem_append_right _ (List.mem_of_getElem? (i := 622) rfl)) rfl, lwg_in (List.mem_append_right _ (List.mem_of_getElem? (i := 621) (by decide +kernel))) rfl, lwg_in (List.mem_append_left _ (List.mem_of_getElem? (i := 17) (by decide +kernel))) rfl, ini_RX2, by decide +kernel, by decide⟩
set_option maxRecDepth 100000 in
theorem mw_X7_gust : MwV yX7_gust cX7_gust 2 (some .int) 1 := ⟨lwg_in (List.mem_append_right _ (List.mem_of_getElem? (i := 626) rfl)) rfl, lwg_in (List.mem_append_right _ (List.mem_of_getElem? (i := 624) (by decide +kernel))) rfl, lwg_in (List.mem_append_right _ (List.mem_of_getElem? (i := 625) (by decide +kernel))) rfl, ini_RX7, by decide +kernel, by decide⟩
set_option maxRecDepth 100000 in
theorem mw_X2_leastSnappingForce : MwV yX2_leastSnappingForce cX2_leastSnappingForce 3 (some .int) 1 := ⟨lwg_in (List.mem_append_right _ (List.mem_of_getElem? (i := 630) rfl)) rfl, lwg_in (List.mem_append_right _ (List.mem_of_getElem? (i := 628) (by decide +kernel))) rfl, lwg_in (List.mem_append_right _ (List.mem_of_getElem? (i := 629) (by decide +kernel))) rfl, ini_RX2, by decide +kernel, by decide⟩
set_option maxRecDepth 100000 in
theorem mw_X7_quarrels : MwV yX7_quarrels cX7_quarrels 2 (some .int) 1 := ⟨lwg_in (List.mem_append_right _ (List.mem_of_getElem? (i := 636) rfl)) rfl, lwg_in (List.mem_append_right _ (List.mem_of_getElem? (i := 634) (by decide +kernel))) rfl, lwg_in (List.mem_append_right _ (List.mem_of_getElem? (i := 635) (by decide +kernel))) rfl, ini_RX7, by decide +kernel, by decide⟩
set_option maxRecDepth 100000 in
theorem mw_X4_quarrelCount : MwV yX4_quarrelCount cX4_quarrelCount 4 (some .int) 0 := ⟨lwg_in (List.mem_append_right _ (List.mem_of_getElem? (i := 640) rfl)) rfl, lwg_in (List.mem_append_right _ (List.mem_of_getElem? (i := 638) (by decide +kernel))) rfl, lwg_in (List.mem_append_right _ (List.mem_of_getElem? (i := 639) (by decide +kernel))) rfl, ini_RX4, by decide +kernel, by decide⟩
set_option maxRecDepth 100000 in
theorem mw_X4_quarrel : MwV yX4_quarrel cX4_quarrel 3 (some .boolean) 2 := ⟨lwg_in (List.mem_append_right _ (List.mem_of_getElem? (i := 644) rfl)) rfl, lwg_in (List.mem_append_right _ (List.mem_of_getElem? (i := 643) (by decide +kernel))) rfl, lwg_in (List.mem_append_left _ (List.mem_of_getElem? (i := 18) (by decide +kernel))) rfl, ini_RX4, by decide +kernel, by decide⟩
set_option maxRecDepth 100000 in
theorem mw_X4_firstQuarrel : MwV yX4_firstQuarrel cX4_firstQuarrel 3 (some .int) 0 := ⟨lwg_in (List.mem_append_right _ (List.mem_of_getElem? (i := 648) rfl)) rfl, lwg_in (List.mem_append_right _ (List.mem_of_getElem? (i := 646) (by decide +kernel))) rfl, lwg_in (List.mem_append_right _ (List.mem_of_getElem? (i := 647) (by decide +kernel))) rfl, ini_RX4, by decide +kernel, by decide⟩
set_option maxRecDepth 100000 in
theorem mw_X7_who : MwV yX7_who cX7_who 7 (some .int) 5 := ⟨lwg_in (List.mem_append_right _ (List.mem_of_getElem? (i := 653) rfl)) rfl, lwg_in (List.mem_append_right _ (List.mem_of_getElem? (i := 651) (by decide +kernel))) rfl, lwg_in (List.mem_append_right _ (List.mem_of_getElem? (i := 652) (by decide +kernel))) rfl, ini_RX7, by decide +kernel, by decide⟩
set_option maxRecDepth 100000 in
theorem mw_X7_watchRow : MwV yX7_watchRow cX7_watchRow 5 (some .int) 4 := ⟨lwg_in (List.mem_append_right _ (List.mem_of_getElem? (i := 657) rfl)) rfl, lwg_in (List.mem_append_right _ (List.mem_of_getElem? (i := 656) (by decide +kernel))) rfl, lwg_in (List.mem_append_left _ (List.mem_of_getElem? (i := 19) (by decide +kernel))) rfl, ini_RX7, by decide +kernel, by decide⟩
set_option maxRecDepth 100000 in
theorem mw_X2_watch : MwV yX2_watch cX2_watch 5 none 4 := ⟨lwg_in (List.mem_append_right _ (List.mem_of_getElem? (i := 661) rfl)) rfl, lwg_in (List.mem_append_right _ (List.mem_of_getElem? (i := 659) (by decide +kernel))) rfl, lwg_in (List.mem_append_right _ (List.mem_of_getElem? (i := 660) (by decide +kernel))) rfl, ini_RX2, by decide +kernel, by decide⟩
set_option maxRecDepth 100000 in
theorem mw_X2_fittingPapers : MwV yX2_fittingPapers cX2_fittingPapers 2 (some .int) 1 := ⟨lwg_in (List.mem_append_right _ (List.mem_of_getElem? (i := 665) rfl)) rfl, lwg_in (List.mem_append_right _ (List.mem_of_getElem? (i := 663) (by decide +kernel))) rfl, lwg_in (List.mem_append_right _ (List.mem_of_getElem? (i := 664) (by decide +kernel))) rfl, ini_RX2, by decide +kernel, by decide⟩
set_option maxRecDepth 100000 in
theorem mw_X2_search : MwV yX2_search cX2_search 6 none 4 := ⟨lwg_in (List.mem_append_right _ (List.mem_of_getElem? (i := 669) rfl)) rfl, lwg_in (List.mem_append_right _ (List.mem_of_getElem? (i := 668) (by decide +kernel))) rfl, lwg_in (List.mem_append_left _ (List.mem_of_getElem? (i := 20) (by decide +kernel))) rfl, ini_RX2, by decide +kernel, by decide⟩
set_option maxRecDepth 100000 in
theorem mw_X2_draftIsAsSeen : MwV yX2_draftIsAsSeen cX2_draftIsAsSeen 2 (some .boolean) 0 := ⟨lwg_in (List.mem_append_right _ (List.mem_of_getElem? (i := 673) rfl)) rfl, lwg_in (List.mem_append_right _ (List.mem_of_getElem? (i := 672) (by decide +kernel))) rfl, lwg_in (List.mem_append_left _ (List.mem_of_getElem? (i := 21) (by decide +kernel))) rfl, ini_RX2, by decide +kernel, by decide⟩
set_option maxRecDepth 100000 in
theorem mw_X2_noteFitting : MwV yX2_noteFitting cX2_noteFitting 2 none 1 := ⟨lwg_in (List.mem_append_right _ (List.mem_of_getElem? (i := 678) rfl)) rfl, lwg_in (List.mem_append_right _ (List.mem_of_getElem? (i := 677) (by decide +kernel))) rfl, lwg_in (List.mem_append_left _ (List.mem_of_getElem? (i := 22) (by decide +kernel))) rfl, ini_RX2, by decide +kernel, by decide⟩
set_option maxRecDepth 100000 in
theorem mw_X7_winds : MwV yX7_winds cX7_winds 7 (some .int) 5 := ⟨lwg_in (List.mem_append_right _ (List.mem_of_getElem? (i := 682) rfl)) rfl, lwg_in (List.mem_append_right _ (List.mem_of_getElem? (i := 680) (by decide +kernel))) rfl, lwg_in (List.mem_append_right _ (List.mem_of_getElem? (i := 681) (by decide +kernel))) rfl, ini_RX7, by decide +kernel, by decide⟩
set_option maxRecDepth 100000 in
theorem mw_X2_fittingForces : MwV yX2_fittingForces cX2_fittingForces 2 (some .int) 1 := ⟨lwg_in (List.mem_append_right _ (List.mem_of_getElem? (i := 686) rfl)) rfl, lwg_in (List.mem_append_right _ (List.mem_of_getElem? (i := 684) (by decide +kernel))) rfl, lwg_in (List.mem_append_right _ (List.mem_of_getElem? (i := 685) (by decide +kernel))) rfl, ini_RX2, by decide +kernel, by decide⟩
set_option maxRecDepth 100000 in
theorem mw_X7_tapes : MwV yX7_tapes cX7_tapes 7 (some .int) 5 := ⟨lwg_in (List.mem_append_right _ (List.mem_of_getElem? (i := 690) rfl)) rfl, lwg_in (List.mem_append_right _ (List.mem_of_getElem? (i := 688) (by decide +kernel))) rfl, lwg_in (List.mem_append_right _ (List.mem_of_getElem? (i := 689) (by decide +kernel))) rfl, ini_RX7, by decide +kernel, by decide⟩
set_option maxRecDepth 100000 in
theorem mw_X2_fittingTapes : MwV yX2_fittingTapes cX2_fittingTapes 2 (some .int) 1 := ⟨lwg_in (List.mem_append_right _ (List.mem_of_getElem? (i := 694) rfl)) rfl, lwg_in (List.mem_append_right _ (List.mem_of_getElem? (i := 692) (by decide +kernel))) rfl, lwg_in (List.mem_append_right _ (List.mem_of_getElem? (i := 693) (by decide +kernel))) rfl, ini_RX2, by decide +kernel, by decide⟩
set_option maxRecDepth 100000 in
theorem mw_X7_calm : MwV yX7_calm cX7_calm 11 (some .long) 4 := ⟨lwg_in (List.mem_append_right _ (List.mem_of_getElem? (i := 698) rfl)) rfl, lwg_in (List.mem_append_right _ (List.mem_of_getElem? (i := 696) (by decide +kernel))) rfl, lwg_in (List.mem_append_right _ (List.mem_of_getElem? (i := 697) (by decide +kernel))) rfl, ini_RX7, by decide +kernel, by decide⟩
set_option maxRecDepth 100000 in
theorem mw_X2_calmCases : MwV yX2_calmCases cX2_calmCases 8 (some .long) 3 := ⟨lwg_in (List.mem_append_right _ (List.mem_of_getElem? (i := 703) rfl)) rfl, lwg_in (List.mem_append_right _ (List.mem_of_getElem? (i := 701) (by decide +kernel))) rfl, lwg_in (List.mem_append_right _ (List.mem_of_getElem? (i := 702) (by decide +kernel))) rfl, ini_RX2, by decide +kernel, by decide⟩
set_option maxRecDepth 100000 in
theorem mw_X7_power : MwS yX7_power cX7_power 6 (some .long) 2 := ⟨lwg_in (List.mem_append_right _ (List.mem_of_getElem? (i := 706) rfl)) rfl, lwg_in (List.mem_append_right _ (List.mem_of_getElem? (i := 705) (by decide +kernel))) rfl, ini_RX7, by decide +kernel, by decide⟩
set_option maxRecDepth 100000 in
theorem mw_X7_greatestDivisor : MwS yX7_greatestDivisor cX7_greatestDivisor 7 (some .long) 2 := ⟨lwg_in (List.mem_append_right _ (List.mem_of_getElem? (i := 711) rfl)) rfl, lwg_in (List.mem_append_right _ (List.mem_of_getElem? (i := 710) (by decide +kernel))) rfl, ini_RX7, by decide +kernel, by decide⟩
set_option maxRecDepth 100000 in
theorem mw_X7_drawn : MwV yX7_drawn cX7_drawn 4 (some .int) 3 := ⟨lwg_in (List.mem_append_right _ (List.mem_of_getElem? (i := 715) rfl)) rfl, lwg_in (List.mem_append_right _ (List.mem_of_getElem? (i := 713) (by decide +kernel))) rfl, lwg_in (List.mem_append_right _ (List.mem_of_getElem? (i := 714) (by decide +kernel))) rfl, ini_RX7, by decide +kernel, by decide⟩
set_option maxRecDepth 100000 in
theorem mw_X2_draftYears : MwV yX2_draftYears cX2_draftYears 6 none 2 := ⟨lwg_in (List.mem_append_right _ (List.mem_of_getElem? (i := 720) rfl)) rfl, lwg_in (List.mem_append_right _ (List.mem_of_getElem? (i := 718) (by decide +kernel))) rfl, lwg_in (List.mem_append_right _ (List.mem_of_getElem? (i := 719) (by decide +kernel))) rfl, ini_RX2, by decide +kernel, by decide⟩
set_option maxRecDepth 100000 in
theorem mw_X2_drawAct : MwV yX2_drawAct cX2_drawAct 3 none 1 := ⟨lwg_in (List.mem_append_right _ (List.mem_of_getElem? (i := 726) rfl)) rfl, lwg_in (List.mem_append_right _ (List.mem_of_getElem? (i := 725) (by decide +kernel))) rfl, lwg_in (List.mem_append_left _ (List.mem_of_getElem? (i := 23) (by decide +kernel))) rfl, ini_RX2, by decide +kernel, by decide⟩
set_option maxRecDepth 100000 in
theorem mw_X7_image : MwV yX7_image cX7_image 2 (some .int) 1 := ⟨lwg_in (List.mem_append_right _ (List.mem_of_getElem? (i := 733) rfl)) rfl, lwg_in (List.mem_append_right _ (List.mem_of_getElem? (i := 731) (by decide +kernel))) rfl, lwg_in (List.mem_append_right _ (List.mem_of_getElem? (i := 732) (by decide +kernel))) rfl, ini_RX7, by decide +kernel, by decide⟩
set_option maxRecDepth 100000 in
theorem mw_X7_restore : MwV yX7_restore cX7_restore 2 (some .int) 1 := ⟨lwg_in (List.mem_append_right _ (List.mem_of_getElem? (i := 737) rfl)) rfl, lwg_in (List.mem_append_right _ (List.mem_of_getElem? (i := 735) (by decide +kernel))) rfl, lwg_in (List.mem_append_right _ (List.mem_of_getElem? (i := 736) (by decide +kernel))) rfl, ini_RX7, by decide +kernel, by decide⟩
set_option maxRecDepth 100000 in
theorem mw_X7_kind : MwV yX7_kind cX7_kind 2 (some .int) 1 := ⟨lwg_in (List.mem_append_right _ (List.mem_of_getElem? (i := 741) rfl)) rfl, lwg_in (List.mem_append_right _ (List.mem_of_getElem? (i := 739) (by decide +kernel))) rfl, lwg_in (List.mem_append_right _ (List.mem_of_getElem? (i := 740) (by decide +kernel))) rfl, ini_RX7, by decide +kernel, by decide⟩
set_option maxRecDepth 100000 in
theorem mw_X7_as : MwV yX7_as cX7_as 3 (some .int) 2 := ⟨lwg_in (List.mem_append_right _ (List.mem_of_getElem? (i := 745) rfl)) rfl, lwg_in (List.mem_append_right _ (List.mem_of_getElem? (i := 743) (by decide +kernel))) rfl, lwg_in (List.mem_append_right _ (List.mem_of_getElem? (i := 744) (by decide +kernel))) rfl, ini_RX7, by decide +kernel, by decide⟩
set_option maxRecDepth 100000 in
theorem mw_X3_isOf : MwV yX3_isOf cX3_isOf 2 (some .boolean) 1 := ⟨lwg_in (List.mem_append_right _ (List.mem_of_getElem? (i := 749) rfl)) rfl, lwg_in (List.mem_append_right _ (List.mem_of_getElem? (i := 747) (by decide +kernel))) rfl, lwg_in (List.mem_append_right _ (List.mem_of_getElem? (i := 748) (by decide +kernel))) rfl, ini_RX3, by decide +kernel, by decide⟩
set_option maxRecDepth 100000 in
theorem mw_X3_kindAbove : MwS yX3_kindAbove cX3_kindAbove 1 (some .int) 1 := ⟨lwg_in (List.mem_append_right _ (List.mem_of_getElem? (i := 752) rfl)) rfl, lwg_in (List.mem_append_right _ (List.mem_of_getElem? (i := 751) (by decide +kernel))) rfl, ini_RX3, by decide +kernel, by decide⟩
set_option maxRecDepth 100000 in
theorem mw_X7_ask : MwV yX7_ask cX7_ask 4 (some .int) 2 := ⟨lwg_in (List.mem_append_right _ (List.mem_of_getElem? (i := 756) rfl)) rfl, lwg_in (List.mem_append_right _ (List.mem_of_getElem? (i := 754) (by decide +kernel))) rfl, lwg_in (List.mem_append_right _ (List.mem_of_getElem? (i := 755) (by decide +kernel))) rfl, ini_RX7, by decide +kernel, by decide⟩
set_option maxRecDepth 100000 in
theorem mw_X3_sizeBody : MwV yX3_sizeBody cX3_sizeBody 1 (some .int) 0 := ⟨lwg_in (List.mem_append_right _ (List.mem_of_getElem? (i := 760) rfl)) rfl, lwg_in (List.mem_append_right _ (List.mem_of_getElem? (i := 758) (by decide +kernel))) rfl, lwg_in (List.mem_append_right _ (List.mem_of_getElem? (i := 759) (by decide +kernel))) rfl, ini_RX3, by decide +kernel, by decide⟩
set_option maxRecDepth 100000 in
theorem mw_X3_markBody : MwV yX3_markBody cX3_markBody 1 (some .int) 0 := ⟨lwg_in (List.mem_append_right _ (List.mem_of_getElem? (i := 765) rfl)) rfl, lwg_in (List.mem_append_right _ (List.mem_of_getElem? (i := 763) (by decide +kernel))) rfl, lwg_in (List.mem_append_right _ (List.mem_of_getElem? (i := 764) (by decide +kernel))) rfl, ini_RX3, by decide +kernel, by decide⟩
set_option maxRecDepth 100000 in
theorem mw_X1_begin : MwV yX1_begin cX1_begin 4 (some .int) 3 := ⟨lwg_in (List.mem_append_right _ (List.mem_of_getElem? (i := 769) rfl)) rfl, lwg_in (List.mem_append_right _ (List.mem_of_getElem? (i := 767) (by decide +kernel))) rfl, lwg_in (List.mem_append_right _ (List.mem_of_getElem? (i := 768) (by decide +kernel))) rfl, ini_RX1, by decide +kernel, by decide⟩
set_option maxRecDepth 100000 in
theorem mw_X1_give : MwV yX1_give cX1_give 6 (some .int) 4 := ⟨lwg_in (List.mem_append_right _ (List.mem_of_getElem? (i := 773) rfl)) rfl, lwg_in (List.mem_append_right _ (List.mem_of_getElem? (i := 772) (by decide +kernel))) rfl, lwg_in (List.mem_append_left _ (List.mem_of_getElem? (i := 24) (by decide +kernel))) rfl, ini_RX1, by decide +kernel, by decide⟩
set_option maxRecDepth 100000 in
theorem mw_X1_leave : MwV yX1_leave cX1_leave 2 none 1 := ⟨lwg_in (List.mem_append_right _ (List.mem_of_getElem? (i := 777) rfl)) rfl, lwg_in (List.mem_append_right _ (List.mem_of_getElem? (i := 776) (by decide +kernel))) rfl, lwg_in (List.mem_append_left _ (List.mem_of_getElem? (i := 25) (by decide +kernel))) rfl, ini_RX1, by decide +kernel, by decide⟩
set_option maxRecDepth 100000 in
theorem mw_X7_trace : MwV yX7_trace cX7_trace 2 (some .int) 1 := ⟨lwg_in (List.mem_append_right _ (List.mem_of_getElem? (i := 783) rfl)) rfl, lwg_in (List.mem_append_right _ (List.mem_of_getElem? (i := 781) (by decide +kernel))) rfl, lwg_in (List.mem_append_right _ (List.mem_of_getElem? (i := 782) (by decide +kernel))) rfl, ini_RX7, by decide +kernel, by decide⟩
set_option maxRecDepth 100000 in
theorem mw_X1_traced : MwV yX1_traced cX1_traced 2 (some .int) 1 := ⟨lwg_in (List.mem_append_right _ (List.mem_of_getElem? (i := 787) rfl)) rfl, lwg_in (List.mem_append_right _ (List.mem_of_getElem? (i := 785) (by decide +kernel))) rfl, lwg_in (List.mem_append_right _ (List.mem_of_getElem? (i := 786) (by decide +kernel))) rfl, ini_RX1, by decide +kernel, by decide⟩
set_option maxRecDepth 100000 in
theorem mw_X7_count : MwV yX7_count cX7_count 2 (some .int) 1 := ⟨lwg_in (List.mem_append_right _ (List.mem_of_getElem? (i := 792) rfl)) rfl, lwg_in (List.mem_append_right _ (List.mem_of_getElem? (i := 790) (by decide +kernel))) rfl, lwg_in (List.mem_append_right _ (List.mem_of_getElem? (i := 791) (by decide +kernel))) rfl, ini_RX7, by decide +kernel, by decide⟩
set_option maxRecDepth 100000 in
theorem mw_X7_rowCount : MwV yX7_rowCount cX7_rowCount 3 (some .int) 0 := ⟨lwg_in (List.mem_append_right _ (List.mem_of_getElem? (i := 796) rfl)) rfl, lwg_in (List.mem_append_right _ (List.mem_of_getElem? (i := 795) (by decide +kernel))) rfl, lwg_in (List.mem_append_left _ (List.mem_of_getElem? (i := 26) (by decide +kernel))) rfl, ini_RX7, by decide +kernel, by decide⟩
set_option maxRecDepth 100000 in
theorem mw_X7_status : MwV yX7_status cX7_status 1 (some .int) 0 := ⟨lwg_in (List.mem_append_right _ (List.mem_of_getElem? (i := 800) rfl)) rfl, lwg_in (List.mem_append_right _ (List.mem_of_getElem? (i := 798) (by decide +kernel))) rfl, lwg_in (List.mem_append_right _ (List.mem_of_getElem? (i := 799) (by decide +kernel))) rfl, ini_RX7, by decide +kernel, by decide⟩
set_option maxRecDepth 100000 in
theorem mc_X8_init : Cond.code yX8_init cX8_init 1 none ∈ lwg := lwg_in (List.mem_append_right _ (List.mem_of_getElem? (i := 805) rfl)) rfl
set_option maxRecDepth 100000 in
theorem mw_X8_row : MwV yX8_row cX8_row 5 (some .int) 3 := ⟨lwg_in (List.mem_append_right _ (List.mem_of_getElem? (i := 887) rfl)) rfl, lwg_in (List.mem_append_right _ (List.mem_of_getElem? (i := 885) (by decide +kernel))) rfl, lwg_in (List.mem_append_right _ (List.mem_of_getElem? (i := 886) (by decide +kernel))) rfl, ini_RX8, by decide +kernel, by decide⟩
set_option maxRecDepth 100000 in
theorem mw_X8_isRow : MwS yX8_isRow cX8_isRow 1 (some .boolean) 1 := ⟨lwg_in (List.mem_append_right _ (List.mem_of_getElem? (i := 890) rfl)) rfl, lwg_in (List.mem_append_right _ (List.mem_of_getElem? (i := 889) (by decide +kernel))) rfl, ini_RX8, by decide +kernel, by decide⟩
set_option maxRecDepth 100000 in
theorem mw_X8_in : MwS yX8_in cX8_in 6 (some .boolean) 3 := ⟨lwg_in (List.mem_append_right _ (List.mem_of_getElem? (i := 894) rfl)) rfl, lwg_in (List.mem_append_right _ (List.mem_of_getElem? (i := 893) (by decide +kernel))) rfl, ini_RX8, by decide +kernel, by decide⟩
set_option maxRecDepth 100000 in
theorem mw_X8_finding : MwV yX8_finding cX8_finding 2 (some .int) 1 := ⟨lwg_in (List.mem_append_right _ (List.mem_of_getElem? (i := 900) rfl)) rfl, lwg_in (List.mem_append_right _ (List.mem_of_getElem? (i := 899) (by decide +kernel))) rfl, lwg_in (List.mem_append_left _ (List.mem_of_getElem? (i := 27) (by decide +kernel))) rfl, ini_RX8, by decide +kernel, by decide⟩
set_option maxRecDepth 100000 in
theorem mw_X8_set : MwV yX8_set cX8_set 4 (some .int) 3 := ⟨lwg_in (List.mem_append_right _ (List.mem_of_getElem? (i := 905) rfl)) rfl, lwg_in (List.mem_append_right _ (List.mem_of_getElem? (i := 903) (by decide +kernel))) rfl, lwg_in (List.mem_append_right _ (List.mem_of_getElem? (i := 904) (by decide +kernel))) rfl, ini_RX8, by decide +kernel, by decide⟩
set_option maxRecDepth 100000 in
theorem mw_X8_copy : MwV yX8_copy cX8_copy 9 (some .int) 5 := ⟨lwg_in (List.mem_append_right _ (List.mem_of_getElem? (i := 909) rfl)) rfl, lwg_in (List.mem_append_right _ (List.mem_of_getElem? (i := 907) (by decide +kernel))) rfl, lwg_in (List.mem_append_right _ (List.mem_of_getElem? (i := 908) (by decide +kernel))) rfl, ini_RX8, by decide +kernel, by decide⟩
set_option maxRecDepth 100000 in
theorem mw_X8_drop : MwV yX8_drop cX8_drop 2 (some .int) 1 := ⟨lwg_in (List.mem_append_right _ (List.mem_of_getElem? (i := 913) rfl)) rfl, lwg_in (List.mem_append_right _ (List.mem_of_getElem? (i := 911) (by decide +kernel))) rfl, lwg_in (List.mem_append_right _ (List.mem_of_getElem? (i := 912) (by decide +kernel))) rfl, ini_RX8, by decide +kernel, by decide⟩
set_option maxRecDepth 100000 in
theorem mw_X8_feed : MwV yX8_feed cX8_feed 2 (some .int) 1 := ⟨lwg_in (List.mem_append_right _ (List.mem_of_getElem? (i := 917) rfl)) rfl, lwg_in (List.mem_append_right _ (List.mem_of_getElem? (i := 915) (by decide +kernel))) rfl, lwg_in (List.mem_append_right _ (List.mem_of_getElem? (i := 916) (by decide +kernel))) rfl, ini_RX8, by decide +kernel, by decide⟩
set_option maxRecDepth 100000 in
theorem mw_X8_fault : MwV yX8_fault cX8_fault 1 (some .int) 0 := ⟨lwg_in (List.mem_append_right _ (List.mem_of_getElem? (i := 923) rfl)) rfl, lwg_in (List.mem_append_right _ (List.mem_of_getElem? (i := 921) (by decide +kernel))) rfl, lwg_in (List.mem_append_right _ (List.mem_of_getElem? (i := 922) (by decide +kernel))) rfl, ini_RX8, by decide +kernel, by decide⟩
set_option maxRecDepth 100000 in
theorem mw_X8_roof : MwV yX8_roof cX8_roof 2 (some .int) 0 := ⟨lwg_in (List.mem_append_right _ (List.mem_of_getElem? (i := 927) rfl)) rfl, lwg_in (List.mem_append_right _ (List.mem_of_getElem? (i := 925) (by decide +kernel))) rfl, lwg_in (List.mem_append_right _ (List.mem_of_getElem? (i := 926) (by decide +kernel))) rfl, ini_RX8, by decide +kernel, by decide⟩
set_option maxRecDepth 100000 in
theorem mw_X8_begin : MwV yX8_begin cX8_begin 1 none 0 := ⟨lwg_in (List.mem_append_right _ (List.mem_of_getElem? (i := 931) rfl)) rfl, lwg_in (List.mem_append_right _ (List.mem_of_getElem? (i := 930) (by decide +kernel))) rfl, lwg_in (List.mem_append_left _ (List.mem_of_getElem? (i := 28) (by decide +kernel))) rfl, ini_RX8, by decide +kernel, by decide⟩
set_option maxRecDepth 100000 in
theorem mw_X8_nextToken : MwV yX8_nextToken cX8_nextToken 1 none 0 := ⟨lwg_in (List.mem_append_right _ (List.mem_of_getElem? (i := 935) rfl)) rfl, lwg_in (List.mem_append_right _ (List.mem_of_getElem? (i := 934) (by decide +kernel))) rfl, lwg_in (List.mem_append_left _ (List.mem_of_getElem? (i := 29) (by decide +kernel))) rfl, ini_RX8, by decide +kernel, by decide⟩
set_option maxRecDepth 100000 in
theorem mw_X8_isLetter : MwV yX8_isLetter cX8_isLetter 2 (some .boolean) 1 := ⟨lwg_in (List.mem_append_right _ (List.mem_of_getElem? (i := 944) rfl)) rfl, lwg_in (List.mem_append_right _ (List.mem_of_getElem? (i := 943) (by decide +kernel))) rfl, lwg_in (List.mem_append_left _ (List.mem_of_getElem? (i := 30) (by decide +kernel))) rfl, ini_RX8, by decide +kernel, by decide⟩
set_option maxRecDepth 100000 in
theorem mw_X8_must : MwV yX8_must cX8_must 2 none 1 := ⟨lwg_in (List.mem_append_right _ (List.mem_of_getElem? (i := 948) rfl)) rfl, lwg_in (List.mem_append_right _ (List.mem_of_getElem? (i := 947) (by decide +kernel))) rfl, lwg_in (List.mem_append_left _ (List.mem_of_getElem? (i := 31) (by decide +kernel))) rfl, ini_RX8, by decide +kernel, by decide⟩
set_option maxRecDepth 100000 in
theorem mw_X8_bad : MwV yX8_bad cX8_bad 2 none 1 := ⟨lwg_in (List.mem_append_right _ (List.mem_of_getElem? (i := 952) rfl)) rfl, lwg_in (List.mem_append_right _ (List.mem_of_getElem? (i := 951) (by decide +kernel))) rfl, lwg_in (List.mem_append_left _ (List.mem_of_getElem? (i := 32) (by decide +kernel))) rfl, ini_RX8, by decide +kernel, by decide⟩
set_option maxRecDepth 100000 in
theorem mw_X8_number : MwV yX8_number cX8_number 4 (some .int) 2 := ⟨lwg_in (List.mem_append_right _ (List.mem_of_getElem? (i := 956) rfl)) rfl, lwg_in (List.mem_append_right _ (List.mem_of_getElem? (i := 955) (by decide +kernel))) rfl, lwg_in (List.mem_append_left _ (List.mem_of_getElem? (i := 33) (by decide +kernel))) rfl, ini_RX8, by decide +kernel, by decide⟩
set_option maxRecDepth 100000 in
theorem mw_X8_mustSign : MwV yX8_mustSign cX8_mustSign 2 none 1 := ⟨lwg_in (List.mem_append_right _ (List.mem_of_getElem? (i := 960) rfl)) rfl, lwg_in (List.mem_append_right _ (List.mem_of_getElem? (i := 959) (by decide +kernel))) rfl, lwg_in (List.mem_append_left _ (List.mem_of_getElem? (i := 34) (by decide +kernel))) rfl, ini_RX8, by decide +kernel, by decide⟩
set_option maxRecDepth 100000 in
theorem mw_X8_readWind : MwV yX8_readWind cX8_readWind 2 none 0 := ⟨lwg_in (List.mem_append_right _ (List.mem_of_getElem? (i := 964) rfl)) rfl, lwg_in (List.mem_append_right _ (List.mem_of_getElem? (i := 963) (by decide +kernel))) rfl, lwg_in (List.mem_append_left _ (List.mem_of_getElem? (i := 35) (by decide +kernel))) rfl, ini_RX8, by decide +kernel, by decide⟩
set_option maxRecDepth 100000 in
theorem mw_X8_isSort : MwV yX8_isSort cX8_isSort 1 (some .boolean) 0 := ⟨lwg_in (List.mem_append_right _ (List.mem_of_getElem? (i := 968) rfl)) rfl, lwg_in (List.mem_append_right _ (List.mem_of_getElem? (i := 967) (by decide +kernel))) rfl, lwg_in (List.mem_append_left _ (List.mem_of_getElem? (i := 36) (by decide +kernel))) rfl, ini_RX8, by decide +kernel, by decide⟩
set_option maxRecDepth 100000 in
theorem mw_X8_kindBy : MwS yX8_kindBy cX8_kindBy 1 (some .int) 1 := ⟨lwg_in (List.mem_append_right _ (List.mem_of_getElem? (i := 971) rfl)) rfl, lwg_in (List.mem_append_right _ (List.mem_of_getElem? (i := 970) (by decide +kernel))) rfl, ini_RX8, by decide +kernel, by decide⟩
set_option maxRecDepth 100000 in
theorem mw_X8_readPaper : MwV yX8_readPaper cX8_readPaper 5 none 0 := ⟨lwg_in (List.mem_append_right _ (List.mem_of_getElem? (i := 975) rfl)) rfl, lwg_in (List.mem_append_right _ (List.mem_of_getElem? (i := 974) (by decide +kernel))) rfl, lwg_in (List.mem_append_left _ (List.mem_of_getElem? (i := 37) (by decide +kernel))) rfl, ini_RX8, by decide +kernel, by decide⟩
set_option maxRecDepth 100000 in
theorem mw_X8_failed : MwV yX8_failed cX8_failed 1 (some .boolean) 0 := ⟨lwg_in (List.mem_append_right _ (List.mem_of_getElem? (i := 979) rfl)) rfl, lwg_in (List.mem_append_right _ (List.mem_of_getElem? (i := 978) (by decide +kernel))) rfl, lwg_in (List.mem_append_left _ (List.mem_of_getElem? (i := 38) (by decide +kernel))) rfl, ini_RX8, by decide +kernel, by decide⟩
set_option maxRecDepth 100000 in
theorem mw_X8_hours : MwV yX8_hours cX8_hours 3 (some .int) 1 := ⟨lwg_in (List.mem_append_right _ (List.mem_of_getElem? (i := 984) rfl)) rfl, lwg_in (List.mem_append_right _ (List.mem_of_getElem? (i := 982) (by decide +kernel))) rfl, lwg_in (List.mem_append_right _ (List.mem_of_getElem? (i := 983) (by decide +kernel))) rfl, ini_RX8, by decide +kernel, by decide⟩
set_option maxRecDepth 100000 in
theorem mw_X8_isThere : MwV yX8_isThere cX8_isThere 1 (some .boolean) 0 := ⟨lwg_in (List.mem_append_right _ (List.mem_of_getElem? (i := 988) rfl)) rfl, lwg_in (List.mem_append_right _ (List.mem_of_getElem? (i := 987) (by decide +kernel))) rfl, lwg_in (List.mem_append_left _ (List.mem_of_getElem? (i := 39) (by decide +kernel))) rfl, ini_RX8, by decide +kernel, by decide⟩
set_option maxRecDepth 100000 in
theorem mw_X8_keep : MwV yX8_keep cX8_keep 2 none 0 := ⟨lwg_in (List.mem_append_right _ (List.mem_of_getElem? (i := 994) rfl)) rfl, lwg_in (List.mem_append_right _ (List.mem_of_getElem? (i := 993) (by decide +kernel))) rfl, lwg_in (List.mem_append_left _ (List.mem_of_getElem? (i := 40) (by decide +kernel))) rfl, ini_RX8, by decide +kernel, by decide⟩
set_option maxRecDepth 100000 in
theorem mw_X8_hour : MwV yX8_hour cX8_hour 2 none 1 := ⟨lwg_in (List.mem_append_right _ (List.mem_of_getElem? (i := 998) rfl)) rfl, lwg_in (List.mem_append_right _ (List.mem_of_getElem? (i := 997) (by decide +kernel))) rfl, lwg_in (List.mem_append_left _ (List.mem_of_getElem? (i := 41) (by decide +kernel))) rfl, ini_RX8, by decide +kernel, by decide⟩
set_option maxRecDepth 100000 in
theorem mw_X8_forceOf : MwS yX8_forceOf cX8_forceOf 2 (some .int) 2 := ⟨lwg_in (List.mem_append_right _ (List.mem_of_getElem? (i := 1001) rfl)) rfl, lwg_in (List.mem_append_right _ (List.mem_of_getElem? (i := 1000) (by decide +kernel))) rfl, ini_RX8, by decide +kernel, by decide⟩
set_option maxRecDepth 100000 in
theorem mw_X8_hourBy : MwV yX8_hourBy cX8_hourBy 4 none 2 := ⟨lwg_in (List.mem_append_right _ (List.mem_of_getElem? (i := 1005) rfl)) rfl, lwg_in (List.mem_append_right _ (List.mem_of_getElem? (i := 1004) (by decide +kernel))) rfl, lwg_in (List.mem_append_left _ (List.mem_of_getElem? (i := 42) (by decide +kernel))) rfl, ini_RX8, by decide +kernel, by decide⟩
set_option maxRecDepth 100000 in
theorem mw_X8_riseOf : MwS yX8_riseOf cX8_riseOf 6 (some .int) 3 := ⟨lwg_in (List.mem_append_right _ (List.mem_of_getElem? (i := 1008) rfl)) rfl, lwg_in (List.mem_append_right _ (List.mem_of_getElem? (i := 1007) (by decide +kernel))) rfl, ini_RX8, by decide +kernel, by decide⟩
set_option maxRecDepth 100000 in
theorem mw_X8_of : MwS yX8_of cX8_of 3 (some .int) 3 := ⟨lwg_in (List.mem_append_right _ (List.mem_of_getElem? (i := 1011) rfl)) rfl, lwg_in (List.mem_append_right _ (List.mem_of_getElem? (i := 1010) (by decide +kernel))) rfl, ini_RX8, by decide +kernel, by decide⟩
set_option maxRecDepth 100000 in
theorem mw_X8_isOtherUp : MwS yX8_isOtherUp cX8_isOtherUp 4 (some .boolean) 2 := ⟨lwg_in (List.mem_append_right _ (List.mem_of_getElem? (i := 1014) rfl)) rfl, lwg_in (List.mem_append_right _ (List.mem_of_getElem? (i := 1013) (by decide +kernel))) rfl, ini_RX8, by decide +kernel, by decide⟩
set_option maxRecDepth 100000 in
theorem mw_X8_isUp : MwS yX8_isUp cX8_isUp 2 (some .boolean) 2 := ⟨lwg_in (List.mem_append_right _ (List.mem_of_getElem? (i := 1017) rfl)) rfl, lwg_in (List.mem_append_right _ (List.mem_of_getElem? (i := 1016) (by decide +kernel))) rfl, ini_RX8, by decide +kernel, by decide⟩
set_option maxRecDepth 100000 in
theorem mw_X8_moves : MwS yX8_moves cX8_moves 6 none 4 := ⟨lwg_in (List.mem_append_right _ (List.mem_of_getElem? (i := 1020) rfl)) rfl, lwg_in (List.mem_append_right _ (List.mem_of_getElem? (i := 1019) (by decide +kernel))) rfl, ini_RX8, by decide +kernel, by decide⟩
set_option maxRecDepth 100000 in
theorem mw_X8_doesSnap : MwS yX8_doesSnap cX8_doesSnap 3 (some .boolean) 3 := ⟨lwg_in (List.mem_append_right _ (List.mem_of_getElem? (i := 1023) rfl)) rfl, lwg_in (List.mem_append_right _ (List.mem_of_getElem? (i := 1022) (by decide +kernel))) rfl, ini_RX8, by decide +kernel, by decide⟩
set_option maxRecDepth 100000 in
theorem mw_X8_be : MwS yX8_be cX8_be 4 none 4 := ⟨lwg_in (List.mem_append_right _ (List.mem_of_getElem? (i := 1026) rfl)) rfl, lwg_in (List.mem_append_right _ (List.mem_of_getElem? (i := 1025) (by decide +kernel))) rfl, ini_RX8, by decide +kernel, by decide⟩
set_option maxRecDepth 100000 in
theorem mw_X8_policies : MwS yX8_policies cX8_policies 3 (some .int) 1 := ⟨lwg_in (List.mem_append_right _ (List.mem_of_getElem? (i := 1029) rfl)) rfl, lwg_in (List.mem_append_right _ (List.mem_of_getElem? (i := 1028) (by decide +kernel))) rfl, ini_RX8, by decide +kernel, by decide⟩
set_option maxRecDepth 100000 in
theorem mw_X8_isPolicy : MwS yX8_isPolicy cX8_isPolicy 2 (some .boolean) 2 := ⟨lwg_in (List.mem_append_right _ (List.mem_of_getElem? (i := 1032) rfl)) rfl, lwg_in (List.mem_append_right _ (List.mem_of_getElem? (i := 1031) (by decide +kernel))) rfl, ini_RX8, by decide +kernel, by decide⟩
set_option maxRecDepth 100000 in
theorem mw_X8_send : MwV yX8_send cX8_send 3 (some .int) 2 := ⟨lwg_in (List.mem_append_right _ (List.mem_of_getElem? (i := 1036) rfl)) rfl, lwg_in (List.mem_append_right _ (List.mem_of_getElem? (i := 1034) (by decide +kernel))) rfl, lwg_in (List.mem_append_right _ (List.mem_of_getElem? (i := 1035) (by decide +kernel))) rfl, ini_RX8, by decide +kernel, by decide⟩
set_option maxRecDepth 100000 in
theorem mw_X8_isPaper : MwV yX8_isPaper cX8_isPaper 2 (some .boolean) 1 := ⟨lwg_in (List.mem_append_right _ (List.mem_of_getElem? (i := 1040) rfl)) rfl, lwg_in (List.mem_append_right _ (List.mem_of_getElem? (i := 1039) (by decide +kernel))) rfl, lwg_in (List.mem_append_left _ (List.mem_of_getElem? (i := 43) (by decide +kernel))) rfl, ini_RX8, by decide +kernel, by decide⟩
set_option maxRecDepth 100000 in
theorem mw_X8_goesUp : MwS yX8_goesUp cX8_goesUp 3 none 3 := ⟨lwg_in (List.mem_append_right _ (List.mem_of_getElem? (i := 1044) rfl)) rfl, lwg_in (List.mem_append_right _ (List.mem_of_getElem? (i := 1043) (by decide +kernel))) rfl, ini_RX8, by decide +kernel, by decide⟩
set_option maxRecDepth 100000 in
theorem mw_X8_those : MwS yX8_those cX8_those 4 (some .int) 2 := ⟨lwg_in (List.mem_append_right _ (List.mem_of_getElem? (i := 1047) rfl)) rfl, lwg_in (List.mem_append_right _ (List.mem_of_getElem? (i := 1046) (by decide +kernel))) rfl, ini_RX8, by decide +kernel, by decide⟩
set_option maxRecDepth 100000 in
theorem mw_X8_let : MwV yX8_let cX8_let 3 (some .int) 2 := ⟨lwg_in (List.mem_append_right _ (List.mem_of_getElem? (i := 1051) rfl)) rfl, lwg_in (List.mem_append_right _ (List.mem_of_getElem? (i := 1049) (by decide +kernel))) rfl, lwg_in (List.mem_append_right _ (List.mem_of_getElem? (i := 1050) (by decide +kernel))) rfl, ini_RX8, by decide +kernel, by decide⟩
set_option maxRecDepth 100000 in
theorem mw_X8_letsOut : MwS yX8_letsOut cX8_letsOut 3 none 3 := ⟨lwg_in (List.mem_append_right _ (List.mem_of_getElem? (i := 1055) rfl)) rfl, lwg_in (List.mem_append_right _ (List.mem_of_getElem? (i := 1054) (by decide +kernel))) rfl, ini_RX8, by decide +kernel, by decide⟩
set_option maxRecDepth 100000 in
theorem mw_X8_weigh : MwV yX8_weigh cX8_weigh 4 (some .int) 2 := ⟨lwg_in (List.mem_append_right _ (List.mem_of_getElem? (i := 1059) rfl)) rfl, lwg_in (List.mem_append_right _ (List.mem_of_getElem? (i := 1057) (by decide +kernel))) rfl, lwg_in (List.mem_append_right _ (List.mem_of_getElem? (i := 1058) (by decide +kernel))) rfl, ini_RX8, by decide +kernel, by decide⟩
set_option maxRecDepth 100000 in
theorem mw_X8_blow : MwV yX8_blow cX8_blow 4 (some .int) 2 := ⟨lwg_in (List.mem_append_right _ (List.mem_of_getElem? (i := 1064) rfl)) rfl, lwg_in (List.mem_append_right _ (List.mem_of_getElem? (i := 1062) (by decide +kernel))) rfl, lwg_in (List.mem_append_right _ (List.mem_of_getElem? (i := 1063) (by decide +kernel))) rfl, ini_RX8, by decide +kernel, by decide⟩
set_option maxRecDepth 100000 in
theorem mw_X8_undo : MwV yX8_undo cX8_undo 2 (some .int) 0 := ⟨lwg_in (List.mem_append_right _ (List.mem_of_getElem? (i := 1069) rfl)) rfl, lwg_in (List.mem_append_right _ (List.mem_of_getElem? (i := 1067) (by decide +kernel))) rfl, lwg_in (List.mem_append_right _ (List.mem_of_getElem? (i := 1068) (by decide +kernel))) rfl, ini_RX8, by decide +kernel, by decide⟩
set_option maxRecDepth 100000 in
theorem mw_X8_paper : MwV yX8_paper cX8_paper 3 (some .int) 2 := ⟨lwg_in (List.mem_append_right _ (List.mem_of_getElem? (i := 1073) rfl)) rfl, lwg_in (List.mem_append_right _ (List.mem_of_getElem? (i := 1071) (by decide +kernel))) rfl, lwg_in (List.mem_append_right _ (List.mem_of_getElem? (i := 1072) (by decide +kernel))) rfl, ini_RX8, by decide +kernel, by decide⟩
set_option maxRecDepth 100000 in
theorem mw_X8_cellOf : MwS yX8_cellOf cX8_cellOf 2 (some .int) 2 := ⟨lwg_in (List.mem_append_right _ (List.mem_of_getElem? (i := 1076) rfl)) rfl, lwg_in (List.mem_append_right _ (List.mem_of_getElem? (i := 1075) (by decide +kernel))) rfl, ini_RX8, by decide +kernel, by decide⟩
set_option maxRecDepth 100000 in
theorem mw_X8_force : MwV yX8_force cX8_force 2 (some .int) 1 := ⟨lwg_in (List.mem_append_right _ (List.mem_of_getElem? (i := 1080) rfl)) rfl, lwg_in (List.mem_append_right _ (List.mem_of_getElem? (i := 1078) (by decide +kernel))) rfl, lwg_in (List.mem_append_right _ (List.mem_of_getElem? (i := 1079) (by decide +kernel))) rfl, ini_RX8, by decide +kernel, by decide⟩
set_option maxRecDepth 100000 in
theorem mw_X8_stand : MwV yX8_stand cX8_stand 2 (some .int) 1 := ⟨lwg_in (List.mem_append_right _ (List.mem_of_getElem? (i := 1084) rfl)) rfl, lwg_in (List.mem_append_right _ (List.mem_of_getElem? (i := 1082) (by decide +kernel))) rfl, lwg_in (List.mem_append_right _ (List.mem_of_getElem? (i := 1083) (by decide +kernel))) rfl, ini_RX8, by decide +kernel, by decide⟩
set_option maxRecDepth 100000 in
theorem mw_X8_ahead : MwV yX8_ahead cX8_ahead 4 (some .int) 3 := ⟨lwg_in (List.mem_append_right _ (List.mem_of_getElem? (i := 1088) rfl)) rfl, lwg_in (List.mem_append_right _ (List.mem_of_getElem? (i := 1086) (by decide +kernel))) rfl, lwg_in (List.mem_append_right _ (List.mem_of_getElem? (i := 1087) (by decide +kernel))) rfl, ini_RX8, by decide +kernel, by decide⟩
set_option maxRecDepth 100000 in
theorem mw_X8_layThen : MwV yX8_layThen cX8_layThen 2 none 0 := ⟨lwg_in (List.mem_append_right _ (List.mem_of_getElem? (i := 1092) rfl)) rfl, lwg_in (List.mem_append_right _ (List.mem_of_getElem? (i := 1091) (by decide +kernel))) rfl, lwg_in (List.mem_append_left _ (List.mem_of_getElem? (i := 44) (by decide +kernel))) rfl, ini_RX8, by decide +kernel, by decide⟩
set_option maxRecDepth 100000 in
theorem mw_X8_hoursOf : MwV yX8_hoursOf cX8_hoursOf 4 none 2 := ⟨lwg_in (List.mem_append_right _ (List.mem_of_getElem? (i := 1096) rfl)) rfl, lwg_in (List.mem_append_right _ (List.mem_of_getElem? (i := 1095) (by decide +kernel))) rfl, lwg_in (List.mem_append_left _ (List.mem_of_getElem? (i := 45) (by decide +kernel))) rfl, ini_RX8, by decide +kernel, by decide⟩
set_option maxRecDepth 100000 in
theorem mw_X8_when : MwV yX8_when cX8_when 4 (some .int) 2 := ⟨lwg_in (List.mem_append_right _ (List.mem_of_getElem? (i := 1100) rfl)) rfl, lwg_in (List.mem_append_right _ (List.mem_of_getElem? (i := 1098) (by decide +kernel))) rfl, lwg_in (List.mem_append_right _ (List.mem_of_getElem? (i := 1099) (by decide +kernel))) rfl, ini_RX8, by decide +kernel, by decide⟩
set_option maxRecDepth 100000 in
theorem mw_X8_policy : MwV yX8_policy cX8_policy 2 (some .int) 1 := ⟨lwg_in (List.mem_append_right _ (List.mem_of_getElem? (i := 1104) rfl)) rfl, lwg_in (List.mem_append_right _ (List.mem_of_getElem? (i := 1102) (by decide +kernel))) rfl, lwg_in (List.mem_append_right _ (List.mem_of_getElem? (i := 1103) (by decide +kernel))) rfl, ini_RX8, by decide +kernel, by decide⟩
set_option maxRecDepth 100000 in
theorem mw_X8_pull : MwV yX8_pull cX8_pull 2 (some .int) 1 := ⟨lwg_in (List.mem_append_right _ (List.mem_of_getElem? (i := 1108) rfl)) rfl, lwg_in (List.mem_append_right _ (List.mem_of_getElem? (i := 1106) (by decide +kernel))) rfl, lwg_in (List.mem_append_right _ (List.mem_of_getElem? (i := 1107) (by decide +kernel))) rfl, ini_RX8, by decide +kernel, by decide⟩
set_option maxRecDepth 100000 in
theorem mw_X8_sends : MwV yX8_sends cX8_sends 8 (some .int) 3 := ⟨lwg_in (List.mem_append_right _ (List.mem_of_getElem? (i := 1112) rfl)) rfl, lwg_in (List.mem_append_right _ (List.mem_of_getElem? (i := 1110) (by decide +kernel))) rfl, lwg_in (List.mem_append_right _ (List.mem_of_getElem? (i := 1111) (by decide +kernel))) rfl, ini_RX8, by decide +kernel, by decide⟩
set_option maxRecDepth 100000 in
theorem mw_X8_has : MwS yX8_has cX8_has 2 (some .boolean) 2 := ⟨lwg_in (List.mem_append_right _ (List.mem_of_getElem? (i := 1116) rfl)) rfl, lwg_in (List.mem_append_right _ (List.mem_of_getElem? (i := 1115) (by decide +kernel))) rfl, ini_RX8, by decide +kernel, by decide⟩
set_option maxRecDepth 100000 in
theorem mw_X8_bits : MwS yX8_bits cX8_bits 3 (some .int) 1 := ⟨lwg_in (List.mem_append_right _ (List.mem_of_getElem? (i := 1119) rfl)) rfl, lwg_in (List.mem_append_right _ (List.mem_of_getElem? (i := 1118) (by decide +kernel))) rfl, ini_RX8, by decide +kernel, by decide⟩
set_option maxRecDepth 100000 in
theorem mw_X8_lets : MwV yX8_lets cX8_lets 10 (some .int) 3 := ⟨lwg_in (List.mem_append_right _ (List.mem_of_getElem? (i := 1123) rfl)) rfl, lwg_in (List.mem_append_right _ (List.mem_of_getElem? (i := 1121) (by decide +kernel))) rfl, lwg_in (List.mem_append_right _ (List.mem_of_getElem? (i := 1122) (by decide +kernel))) rfl, ini_RX8, by decide +kernel, by decide⟩
set_option maxRecDepth 100000 in
theorem mw_X8_light : MwV yX8_light cX8_light 4 (some .int) 2 := ⟨lwg_in (List.mem_append_right _ (List.mem_of_getElem? (i := 1128) rfl)) rfl, lwg_in (List.mem_append_right _ (List.mem_of_getElem? (i := 1126) (by decide +kernel))) rfl, lwg_in (List.mem_append_right _ (List.mem_of_getElem? (i := 1127) (by decide +kernel))) rfl, ini_RX8, by decide +kernel, by decide⟩
set_option maxRecDepth 100000 in
theorem mw_X8_gust : MwV yX8_gust cX8_gust 3 (some .int) 1 := ⟨lwg_in (List.mem_append_right _ (List.mem_of_getElem? (i := 1132) rfl)) rfl, lwg_in (List.mem_append_right _ (List.mem_of_getElem? (i := 1130) (by decide +kernel))) rfl, lwg_in (List.mem_append_right _ (List.mem_of_getElem? (i := 1131) (by decide +kernel))) rfl, ini_RX8, by decide +kernel, by decide⟩
set_option maxRecDepth 100000 in
theorem mw_X8_quarrels : MwV yX8_quarrels cX8_quarrels 6 (some .int) 1 := ⟨lwg_in (List.mem_append_right _ (List.mem_of_getElem? (i := 1136) rfl)) rfl, lwg_in (List.mem_append_right _ (List.mem_of_getElem? (i := 1134) (by decide +kernel))) rfl, lwg_in (List.mem_append_right _ (List.mem_of_getElem? (i := 1135) (by decide +kernel))) rfl, ini_RX8, by decide +kernel, by decide⟩
set_option maxRecDepth 100000 in
theorem mw_X8_who : MwV yX8_who cX8_who 13 (some .int) 5 := ⟨lwg_in (List.mem_append_right _ (List.mem_of_getElem? (i := 1140) rfl)) rfl, lwg_in (List.mem_append_right _ (List.mem_of_getElem? (i := 1138) (by decide +kernel))) rfl, lwg_in (List.mem_append_right _ (List.mem_of_getElem? (i := 1139) (by decide +kernel))) rfl, ini_RX8, by decide +kernel, by decide⟩
set_option maxRecDepth 100000 in
theorem mw_X8_isMany : MwS yX8_isMany cX8_isMany 2 (some .boolean) 2 := ⟨lwg_in (List.mem_append_right _ (List.mem_of_getElem? (i := 1143) rfl)) rfl, lwg_in (List.mem_append_right _ (List.mem_of_getElem? (i := 1142) (by decide +kernel))) rfl, ini_RX8, by decide +kernel, by decide⟩
set_option maxRecDepth 100000 in
theorem mw_X8_rowFound : MwV yX8_rowFound cX8_rowFound 4 (some .int) 3 := ⟨lwg_in (List.mem_append_right _ (List.mem_of_getElem? (i := 1148) rfl)) rfl, lwg_in (List.mem_append_right _ (List.mem_of_getElem? (i := 1147) (by decide +kernel))) rfl, lwg_in (List.mem_append_left _ (List.mem_of_getElem? (i := 46) (by decide +kernel))) rfl, ini_RX8, by decide +kernel, by decide⟩
set_option maxRecDepth 100000 in
theorem mw_X8_isSo : MwV yX8_isSo cX8_isSo 6 (some .boolean) 3 := ⟨lwg_in (List.mem_append_right _ (List.mem_of_getElem? (i := 1152) rfl)) rfl, lwg_in (List.mem_append_right _ (List.mem_of_getElem? (i := 1151) (by decide +kernel))) rfl, lwg_in (List.mem_append_left _ (List.mem_of_getElem? (i := 47) (by decide +kernel))) rfl, ini_RX8, by decide +kernel, by decide⟩
set_option maxRecDepth 100000 in
theorem mw_X8_winds : MwV yX8_winds cX8_winds 9 (some .int) 5 := ⟨lwg_in (List.mem_append_right _ (List.mem_of_getElem? (i := 1156) rfl)) rfl, lwg_in (List.mem_append_right _ (List.mem_of_getElem? (i := 1154) (by decide +kernel))) rfl, lwg_in (List.mem_append_right _ (List.mem_of_getElem? (i := 1155) (by decide +kernel))) rfl, ini_RX8, by decide +kernel, by decide⟩
set_option maxRecDepth 100000 in
theorem mw_X8_tapes : MwV yX8_tapes cX8_tapes 10 (some .int) 5 := ⟨lwg_in (List.mem_append_right _ (List.mem_of_getElem? (i := 1160) rfl)) rfl, lwg_in (List.mem_append_right _ (List.mem_of_getElem? (i := 1158) (by decide +kernel))) rfl, lwg_in (List.mem_append_right _ (List.mem_of_getElem? (i := 1159) (by decide +kernel))) rfl, ini_RX8, by decide +kernel, by decide⟩
set_option maxRecDepth 100000 in
theorem mw_X8_calm : MwV yX8_calm cX8_calm 15 (some .long) 4 := ⟨lwg_in (List.mem_append_right _ (List.mem_of_getElem? (i := 1164) rfl)) rfl, lwg_in (List.mem_append_right _ (List.mem_of_getElem? (i := 1162) (by decide +kernel))) rfl, lwg_in (List.mem_append_right _ (List.mem_of_getElem? (i := 1163) (by decide +kernel))) rfl, ini_RX8, by decide +kernel, by decide⟩
set_option maxRecDepth 100000 in
theorem mw_X8_drawn : MwV yX8_drawn cX8_drawn 9 (some .int) 3 := ⟨lwg_in (List.mem_append_right _ (List.mem_of_getElem? (i := 1171) rfl)) rfl, lwg_in (List.mem_append_right _ (List.mem_of_getElem? (i := 1169) (by decide +kernel))) rfl, lwg_in (List.mem_append_right _ (List.mem_of_getElem? (i := 1170) (by decide +kernel))) rfl, ini_RX8, by decide +kernel, by decide⟩
set_option maxRecDepth 100000 in
theorem mw_X8_image : MwV yX8_image cX8_image 3 (some .int) 1 := ⟨lwg_in (List.mem_append_right _ (List.mem_of_getElem? (i := 1178) rfl)) rfl, lwg_in (List.mem_append_right _ (List.mem_of_getElem? (i := 1176) (by decide +kernel))) rfl, lwg_in (List.mem_append_right _ (List.mem_of_getElem? (i := 1177) (by decide +kernel))) rfl, ini_RX8, by decide +kernel, by decide⟩
set_option maxRecDepth 100000 in
theorem mw_X8_restore : MwV yX8_restore cX8_restore 3 (some .int) 1 := ⟨lwg_in (List.mem_append_right _ (List.mem_of_getElem? (i := 1182) rfl)) rfl, lwg_in (List.mem_append_right _ (List.mem_of_getElem? (i := 1180) (by decide +kernel))) rfl, lwg_in (List.mem_append_right _ (List.mem_of_getElem? (i := 1181) (by decide +kernel))) rfl, ini_RX8, by decide +kernel, by decide⟩
set_option maxRecDepth 100000 in
theorem mw_X8_kind : MwV yX8_kind cX8_kind 2 (some .int) 1 := ⟨lwg_in (List.mem_append_right _ (List.mem_of_getElem? (i := 1186) rfl)) rfl, lwg_in (List.mem_append_right _ (List.mem_of_getElem? (i := 1184) (by decide +kernel))) rfl, lwg_in (List.mem_append_right _ (List.mem_of_getElem? (i := 1185) (by decide +kernel))) rfl, ini_RX8, by decide +kernel, by decide⟩
set_option maxRecDepth 100000 in
theorem mw_X8_as : MwV yX8_as cX8_as 3 (some .int) 2 := ⟨lwg_in (List.mem_append_right _ (List.mem_of_getElem? (i := 1190) rfl)) rfl, lwg_in (List.mem_append_right _ (List.mem_of_getElem? (i := 1188) (by decide +kernel))) rfl, lwg_in (List.mem_append_right _ (List.mem_of_getElem? (i := 1189) (by decide +kernel))) rfl, ini_RX8, by decide +kernel, by decide⟩
set_option maxRecDepth 100000 in
theorem mw_X8_isOf : MwS yX8_isOf cX8_isOf 2 (some .boolean) 2 := ⟨lwg_in (List.mem_append_right _ (List.mem_of_getElem? (i := 1194) rfl)) rfl, lwg_in (List.mem_append_right _ (List.mem_of_getElem? (i := 1193) (by decide +kernel))) rfl, ini_RX8, by decide +kernel, by decide⟩
set_option maxRecDepth 100000 in
theorem mw_X8_ask : MwV yX8_ask cX8_ask 3 (some .int) 2 := ⟨lwg_in (List.mem_append_right _ (List.mem_of_getElem? (i := 1198) rfl)) rfl, lwg_in (List.mem_append_right _ (List.mem_of_getElem? (i := 1196) (by decide +kernel))) rfl, lwg_in (List.mem_append_right _ (List.mem_of_getElem? (i := 1197) (by decide +kernel))) rfl, ini_RX8, by decide +kernel, by decide⟩
set_option maxRecDepth 100000 in
theorem mw_X8_sizeOf : MwV yX8_sizeOf cX8_sizeOf 4 (some .int) 1 := ⟨lwg_in (List.mem_append_right _ (List.mem_of_getElem? (i := 1202) rfl)) rfl, lwg_in (List.mem_append_right _ (List.mem_of_getElem? (i := 1201) (by decide +kernel))) rfl, lwg_in (List.mem_append_left _ (List.mem_of_getElem? (i := 48) (by decide +kernel))) rfl, ini_RX8, by decide +kernel, by decide⟩
set_option maxRecDepth 100000 in
theorem mw_X8_leafSize : MwV yX8_leafSize cX8_leafSize 4 (some .int) 1 := ⟨lwg_in (List.mem_append_right _ (List.mem_of_getElem? (i := 1206) rfl)) rfl, lwg_in (List.mem_append_right _ (List.mem_of_getElem? (i := 1205) (by decide +kernel))) rfl, lwg_in (List.mem_append_left _ (List.mem_of_getElem? (i := 49) (by decide +kernel))) rfl, ini_RX8, by decide +kernel, by decide⟩
set_option maxRecDepth 100000 in
theorem mw_X8_began : MwV yX8_began cX8_began 2 none 1 := ⟨lwg_in (List.mem_append_right _ (List.mem_of_getElem? (i := 1210) rfl)) rfl, lwg_in (List.mem_append_right _ (List.mem_of_getElem? (i := 1209) (by decide +kernel))) rfl, lwg_in (List.mem_append_left _ (List.mem_of_getElem? (i := 50) (by decide +kernel))) rfl, ini_RX8, by decide +kernel, by decide⟩
set_option maxRecDepth 100000 in
theorem mw_X8_plainSize : MwV yX8_plainSize cX8_plainSize 2 (some .int) 1 := ⟨lwg_in (List.mem_append_right _ (List.mem_of_getElem? (i := 1214) rfl)) rfl, lwg_in (List.mem_append_right _ (List.mem_of_getElem? (i := 1213) (by decide +kernel))) rfl, lwg_in (List.mem_append_left _ (List.mem_of_getElem? (i := 51) (by decide +kernel))) rfl, ini_RX8, by decide +kernel, by decide⟩
set_option maxRecDepth 100000 in
theorem mw_X8_markOf : MwV yX8_markOf cX8_markOf 4 (some .int) 1 := ⟨lwg_in (List.mem_append_right _ (List.mem_of_getElem? (i := 1218) rfl)) rfl, lwg_in (List.mem_append_right _ (List.mem_of_getElem? (i := 1217) (by decide +kernel))) rfl, lwg_in (List.mem_append_left _ (List.mem_of_getElem? (i := 52) (by decide +kernel))) rfl, ini_RX8, by decide +kernel, by decide⟩
set_option maxRecDepth 100000 in
theorem mw_X8_trace : MwV yX8_trace cX8_trace 2 (some .int) 1 := ⟨lwg_in (List.mem_append_right _ (List.mem_of_getElem? (i := 1222) rfl)) rfl, lwg_in (List.mem_append_right _ (List.mem_of_getElem? (i := 1220) (by decide +kernel))) rfl, lwg_in (List.mem_append_right _ (List.mem_of_getElem? (i := 1221) (by decide +kernel))) rfl, ini_RX8, by decide +kernel, by decide⟩
set_option maxRecDepth 100000 in
theorem mw_X8_count : MwV yX8_count cX8_count 4 (some .int) 1 := ⟨lwg_in (List.mem_append_right _ (List.mem_of_getElem? (i := 1226) rfl)) rfl, lwg_in (List.mem_append_right _ (List.mem_of_getElem? (i := 1224) (by decide +kernel))) rfl, lwg_in (List.mem_append_right _ (List.mem_of_getElem? (i := 1225) (by decide +kernel))) rfl, ini_RX8, by decide +kernel, by decide⟩
set_option maxRecDepth 100000 in
theorem mw_X8_status : MwV yX8_status cX8_status 1 (some .int) 0 := ⟨lwg_in (List.mem_append_right _ (List.mem_of_getElem? (i := 1230) rfl)) rfl, lwg_in (List.mem_append_right _ (List.mem_of_getElem? (i := 1228) (by decide +kernel))) rfl, lwg_in (List.mem_append_right _ (List.mem_of_getElem? (i := 1229) (by decide +kernel))) rfl, ini_RX8, by decide +kernel, by decide⟩
theorem ml_L_9 : Cond.methodLink RL 9 yX7_init ∈ lwg := lwg_in (List.mem_append_right _ (List.mem_of_getElem? (i := 15) (by decide +kernel))) rfl
theorem ml_X7_17 : Cond.methodLink RX7 17 yX6_init ∈ lwg := lwg_in (List.mem_append_right _ (List.mem_of_getElem? (i := 25) (by decide +kernel))) rfl
theorem ml_X7_24 : Cond.methodLink RX7 24 yX2_init ∈ lwg := lwg_in (List.mem_append_right _ (List.mem_of_getElem? (i := 48) (by decide +kernel))) rfl
theorem ml_X2_11 : Cond.methodLink RX2 11 yX4_init ∈ lwg := lwg_in (List.mem_append_right _ (List.mem_of_getElem? (i := 54) (by decide +kernel))) rfl
theorem ml_X4_37 : Cond.methodLink RX4 37 yX3_init ∈ lwg := lwg_in (List.mem_append_right _ (List.mem_of_getElem? (i := 61) (by decide +kernel))) rfl
theorem ml_X7_40 : Cond.methodLink RX7 40 yX0_init ∈ lwg := lwg_in (List.mem_append_right _ (List.mem_of_getElem? (i := 186) (by decide +kernel))) rfl
theorem ml_X0_24 : Cond.methodLink RX0 24 yX4_init ∈ lwg := lwg_in (List.mem_append_right _ (List.mem_of_getElem? (i := 192) (by decide +kernel))) rfl
theorem ml_X7_53 : Cond.methodLink RX7 53 yX1_init ∈ lwg := lwg_in (List.mem_append_right _ (List.mem_of_getElem? (i := 207) (by decide +kernel))) rfl
theorem ml_X7_65 : Cond.methodLink RX7 65 yX5_init ∈ lwg := lwg_in (List.mem_append_right _ (List.mem_of_getElem? (i := 219) (by decide +kernel))) rfl
theorem ml_X7_66 : Cond.methodLink RX7 66 yX4_init ∈ lwg := lwg_in (List.mem_append_right _ (List.mem_of_getElem? (i := 237) (by decide +kernel))) rfl
theorem ml_L_13 : Cond.methodLink RL 13 yX7_row ∈ lwg := lwg_in (List.mem_append_right _ (List.mem_of_getElem? (i := 269) (by decide +kernel))) rfl
theorem ml_X7_67 : Cond.methodLink RX7 67 yX7_isRow ∈ lwg := lwg_in (List.mem_append_right _ (List.mem_of_getElem? (i := 273) (by decide +kernel))) rfl
theorem ml_X7_71 : Cond.methodLink RX7 71 yX7_isWithin ∈ lwg := lwg_in (List.mem_append_right _ (List.mem_of_getElem? (i := 276) (by decide +kernel))) rfl
theorem ml_X7_76 : Cond.methodLink RX7 76 yX7_found ∈ lwg := lwg_in (List.mem_append_right _ (List.mem_of_getElem? (i := 280) (by decide +kernel))) rfl
theorem ml_X7_80 : Cond.methodLink RX7 80 yX5_begin ∈ lwg := lwg_in (List.mem_append_right _ (List.mem_of_getElem? (i := 285) (by decide +kernel))) rfl
theorem ml_X7_84 : Cond.methodLink RX7 84 yX7_unfound ∈ lwg := lwg_in (List.mem_append_right _ (List.mem_of_getElem? (i := 289) (by decide +kernel))) rfl
theorem ml_L_18 : Cond.methodLink RL 18 yX7_set ∈ lwg := lwg_in (List.mem_append_right _ (List.mem_of_getElem? (i := 293) (by decide +kernel))) rfl
theorem ml_X7_87 : Cond.methodLink RX7 87 yX5_isMissing ∈ lwg := lwg_in (List.mem_append_right _ (List.mem_of_getElem? (i := 297) (by decide +kernel))) rfl
theorem ml_X7_91 : Cond.methodLink RX7 91 yX5_hasPlaces ∈ lwg := lwg_in (List.mem_append_right _ (List.mem_of_getElem? (i := 301) (by decide +kernel))) rfl
theorem ml_X7_95 : Cond.methodLink RX7 95 yX5_put ∈ lwg := lwg_in (List.mem_append_right _ (List.mem_of_getElem? (i := 305) (by decide +kernel))) rfl
theorem ml_X5_22 : Cond.methodLink RX5 22 yX5_cut ∈ lwg := lwg_in (List.mem_append_right _ (List.mem_of_getElem? (i := 309) (by decide +kernel))) rfl
theorem ml_L_22 : Cond.methodLink RL 22 yX7_copy ∈ lwg := lwg_in (List.mem_append_right _ (List.mem_of_getElem? (i := 313) (by decide +kernel))) rfl
theorem ml_L_27 : Cond.methodLink RL 27 yX7_drop ∈ lwg := lwg_in (List.mem_append_right _ (List.mem_of_getElem? (i := 320) (by decide +kernel))) rfl
theorem ml_X7_115 : Cond.methodLink RX7 115 yX5_end ∈ lwg := lwg_in (List.mem_append_right _ (List.mem_of_getElem? (i := 324) (by decide +kernel))) rfl
theorem ml_L_32 : Cond.methodLink RL 32 yX7_feed ∈ lwg := lwg_in (List.mem_append_right _ (List.mem_of_getElem? (i := 328) (by decide +kernel))) rfl
theorem ml_X7_120 : Cond.methodLink RX7 120 yX6_append ∈ lwg := lwg_in (List.mem_append_right _ (List.mem_of_getElem? (i := 333) (by decide +kernel))) rfl
theorem ml_L_36 : Cond.methodLink RL 36 yX7_roof ∈ lwg := lwg_in (List.mem_append_right _ (List.mem_of_getElem? (i := 337) (by decide +kernel))) rfl
theorem ml_X7_124 : Cond.methodLink RX7 124 yX6_readInto ∈ lwg := lwg_in (List.mem_append_right _ (List.mem_of_getElem? (i := 341) (by decide +kernel))) rfl
theorem ml_X6_36 : Cond.methodLink RX6 36 yX6_readLaw ∈ lwg := lwg_in (List.mem_append_right _ (List.mem_of_getElem? (i := 345) (by decide +kernel))) rfl
theorem ml_X6_50 : Cond.methodLink RX6 50 yX6_take ∈ lwg := lwg_in (List.mem_append_right _ (List.mem_of_getElem? (i := 349) (by decide +kernel))) rfl
theorem ml_X6_64 : Cond.methodLink RX6 64 yX6_next ∈ lwg := lwg_in (List.mem_append_right _ (List.mem_of_getElem? (i := 353) (by decide +kernel))) rfl
theorem ml_X6_102 : Cond.methodLink RX6 102 yX6_byteAt ∈ lwg := lwg_in (List.mem_append_right _ (List.mem_of_getElem? (i := 357) (by decide +kernel))) rfl
theorem ml_X6_68 : Cond.methodLink RX6 68 yX6_hasFault ∈ lwg := lwg_in (List.mem_append_right _ (List.mem_of_getElem? (i := 361) (by decide +kernel))) rfl
theorem ml_X6_54 : Cond.methodLink RX6 54 yX6_takeNumber ∈ lwg := lwg_in (List.mem_append_right _ (List.mem_of_getElem? (i := 365) (by decide +kernel))) rfl
theorem ml_X6_105 : Cond.methodLink RX6 105 yX6_figuresHere ∈ lwg := lwg_in (List.mem_append_right _ (List.mem_of_getElem? (i := 369) (by decide +kernel))) rfl
theorem ml_X6_108 : Cond.methodLink RX6 108 yX6_isFigure ∈ lwg := lwg_in (List.mem_append_right _ (List.mem_of_getElem? (i := 373) (by decide +kernel))) rfl
theorem ml_X6_40 : Cond.methodLink RX6 40 yX6_readWinds ∈ lwg := lwg_in (List.mem_append_right _ (List.mem_of_getElem? (i := 376) (by decide +kernel))) rfl
theorem ml_X6_43 : Cond.methodLink RX6 43 yX6_readPapers ∈ lwg := lwg_in (List.mem_append_right _ (List.mem_of_getElem? (i := 380) (by decide +kernel))) rfl
theorem ml_X6_74 : Cond.methodLink RX6 74 yX6_sortOf ∈ lwg := lwg_in (List.mem_append_right _ (List.mem_of_getElem? (i := 384) (by decide +kernel))) rfl
theorem ml_X6_82 : Cond.methodLink RX6 82 yX6_readPaper ∈ lwg := lwg_in (List.mem_append_right _ (List.mem_of_getElem? (i := 387) (by decide +kernel))) rfl
theorem ml_X6_98 : Cond.methodLink RX6 98 yX3_settle ∈ lwg := lwg_in (List.mem_append_right _ (List.mem_of_getElem? (i := 392) (by decide +kernel))) rfl
theorem ml_X6_46 : Cond.methodLink RX6 46 yX6_takeEnd ∈ lwg := lwg_in (List.mem_append_right _ (List.mem_of_getElem? (i := 396) (by decide +kernel))) rfl
theorem ml_X7_135 : Cond.methodLink RX7 135 yX4_become ∈ lwg := lwg_in (List.mem_append_right _ (List.mem_of_getElem? (i := 401) (by decide +kernel))) rfl
theorem ml_X4_38 : Cond.methodLink RX4 38 yX3_become ∈ lwg := lwg_in (List.mem_append_right _ (List.mem_of_getElem? (i := 405) (by decide +kernel))) rfl
theorem ml_X7_139 : Cond.methodLink RX7 139 yX0_forget ∈ lwg := lwg_in (List.mem_append_right _ (List.mem_of_getElem? (i := 409) (by decide +kernel))) rfl
theorem ml_L_41 : Cond.methodLink RL 41 yX7_fault ∈ lwg := lwg_in (List.mem_append_right _ (List.mem_of_getElem? (i := 413) (by decide +kernel))) rfl
theorem ml_L_45 : Cond.methodLink RL 45 yX7_undo ∈ lwg := lwg_in (List.mem_append_right _ (List.mem_of_getElem? (i := 417) (by decide +kernel))) rfl
theorem ml_X7_149 : Cond.methodLink RX7 149 yX0_takeBack ∈ lwg := lwg_in (List.mem_append_right _ (List.mem_of_getElem? (i := 422) (by decide +kernel))) rfl
theorem ml_X0_35 : Cond.methodLink RX0 35 yJ9_max_7cf53 ∈ lwg := lwg_in (List.mem_append_right _ (List.mem_of_getElem? (i := 426) (by decide +kernel))) rfl
theorem ml_X0_25 : Cond.methodLink RX0 25 yX4_become ∈ lwg := lwg_in (List.mem_append_right _ (List.mem_of_getElem? (i := 429) (by decide +kernel))) rfl
theorem ml_L_49 : Cond.methodLink RL 49 yX7_hours ∈ lwg := lwg_in (List.mem_append_right _ (List.mem_of_getElem? (i := 430) (by decide +kernel))) rfl
theorem ml_X7_152 : Cond.methodLink RX7 152 yX4_isRead ∈ lwg := lwg_in (List.mem_append_right _ (List.mem_of_getElem? (i := 434) (by decide +kernel))) rfl
theorem ml_X7_158 : Cond.methodLink RX7 158 yX0_keep ∈ lwg := lwg_in (List.mem_append_right _ (List.mem_of_getElem? (i := 438) (by decide +kernel))) rfl
theorem ml_X0_29 : Cond.methodLink RX0 29 yJ9_min_7cf53 ∈ lwg := lwg_in (List.mem_append_right _ (List.mem_of_getElem? (i := 442) (by decide +kernel))) rfl
theorem ml_X7_161 : Cond.methodLink RX7 161 yX4_forceAfter ∈ lwg := lwg_in (List.mem_append_right _ (List.mem_of_getElem? (i := 445) (by decide +kernel))) rfl
theorem ml_X7_164 : Cond.methodLink RX7 164 yX4_passHourIn ∈ lwg := lwg_in (List.mem_append_right _ (List.mem_of_getElem? (i := 449) (by decide +kernel))) rfl
theorem ml_X4_42 : Cond.methodLink RX4 42 yX4_isPaired ∈ lwg := lwg_in (List.mem_append_right _ (List.mem_of_getElem? (i := 453) (by decide +kernel))) rfl
theorem ml_X4_53 : Cond.methodLink RX4 53 yX3_isUp ∈ lwg := lwg_in (List.mem_append_right _ (List.mem_of_getElem? (i := 457) (by decide +kernel))) rfl
theorem ml_X4_46 : Cond.methodLink RX4 46 yX3_liftIn ∈ lwg := lwg_in (List.mem_append_right _ (List.mem_of_getElem? (i := 461) (by decide +kernel))) rfl
theorem ml_X3_48 : Cond.methodLink RX3 48 yJ9_max_7cf53 ∈ lwg := lwg_in (List.mem_append_right _ (List.mem_of_getElem? (i := 465) (by decide +kernel))) rfl
theorem ml_X4_59 : Cond.methodLink RX4 59 yX3_moveBy ∈ lwg := lwg_in (List.mem_append_right _ (List.mem_of_getElem? (i := 466) (by decide +kernel))) rfl
theorem ml_X3_51 : Cond.methodLink RX3 51 yX3_snapsBy ∈ lwg := lwg_in (List.mem_append_right _ (List.mem_of_getElem? (i := 470) (by decide +kernel))) rfl
theorem ml_X3_55 : Cond.methodLink RX3 55 yX3_settle ∈ lwg := lwg_in (List.mem_append_right _ (List.mem_of_getElem? (i := 474) (by decide +kernel))) rfl
theorem ml_X3_42 : Cond.methodLink RX3 42 yJ9_min_7cf53 ∈ lwg := lwg_in (List.mem_append_right _ (List.mem_of_getElem? (i := 475) (by decide +kernel))) rfl
theorem ml_X7_167 : Cond.methodLink RX7 167 yX4_policyBits ∈ lwg := lwg_in (List.mem_append_right _ (List.mem_of_getElem? (i := 476) (by decide +kernel))) rfl
theorem ml_X4_66 : Cond.methodLink RX4 66 yX4_isPolicy ∈ lwg := lwg_in (List.mem_append_right _ (List.mem_of_getElem? (i := 480) (by decide +kernel))) rfl
theorem ml_L_53 : Cond.methodLink RL 53 yX7_send ∈ lwg := lwg_in (List.mem_append_right _ (List.mem_of_getElem? (i := 484) (by decide +kernel))) rfl
theorem ml_X7_171 : Cond.methodLink RX7 171 yX4_hasPaper ∈ lwg := lwg_in (List.mem_append_right _ (List.mem_of_getElem? (i := 488) (by decide +kernel))) rfl
theorem ml_X7_183 : Cond.methodLink RX7 183 yX3_rise ∈ lwg := lwg_in (List.mem_append_right _ (List.mem_of_getElem? (i := 492) (by decide +kernel))) rfl
theorem ml_X7_186 : Cond.methodLink RX7 186 yX4_bitsOf ∈ lwg := lwg_in (List.mem_append_right _ (List.mem_of_getElem? (i := 496) (by decide +kernel))) rfl
theorem ml_L_58 : Cond.methodLink RL 58 yX7_let ∈ lwg := lwg_in (List.mem_append_right _ (List.mem_of_getElem? (i := 500) (by decide +kernel))) rfl
theorem ml_X7_189 : Cond.methodLink RX7 189 yX3_isUp ∈ lwg := lwg_in (List.mem_append_right _ (List.mem_of_getElem? (i := 504) (by decide +kernel))) rfl
theorem ml_X7_195 : Cond.methodLink RX7 195 yX3_letOutBy ∈ lwg := lwg_in (List.mem_append_right _ (List.mem_of_getElem? (i := 505) (by decide +kernel))) rfl
theorem ml_L_62 : Cond.methodLink RL 62 yX7_weigh ∈ lwg := lwg_in (List.mem_append_right _ (List.mem_of_getElem? (i := 509) (by decide +kernel))) rfl
theorem ml_L_66 : Cond.methodLink RL 66 yX7_blow ∈ lwg := lwg_in (List.mem_append_right _ (List.mem_of_getElem? (i := 513) (by decide +kernel))) rfl
theorem ml_X7_201 : Cond.methodLink RX7 201 yX4_hasWind ∈ lwg := lwg_in (List.mem_append_right _ (List.mem_of_getElem? (i := 517) (by decide +kernel))) rfl
theorem ml_L_70 : Cond.methodLink RL 70 yX7_paper ∈ lwg := lwg_in (List.mem_append_right _ (List.mem_of_getElem? (i := 521) (by decide +kernel))) rfl
theorem ml_X7_216 : Cond.methodLink RX7 216 yX4_isPolicy ∈ lwg := lwg_in (List.mem_append_right _ (List.mem_of_getElem? (i := 525) (by decide +kernel))) rfl
theorem ml_L_74 : Cond.methodLink RL 74 yX7_force ∈ lwg := lwg_in (List.mem_append_right _ (List.mem_of_getElem? (i := 526) (by decide +kernel))) rfl
theorem ml_L_78 : Cond.methodLink RL 78 yX7_stand ∈ lwg := lwg_in (List.mem_append_right _ (List.mem_of_getElem? (i := 530) (by decide +kernel))) rfl
theorem ml_L_82 : Cond.methodLink RL 82 yX7_ahead ∈ lwg := lwg_in (List.mem_append_right _ (List.mem_of_getElem? (i := 534) (by decide +kernel))) rfl
theorem ml_X7_225 : Cond.methodLink RX7 225 yX2_draftAhead ∈ lwg := lwg_in (List.mem_append_right _ (List.mem_of_getElem? (i := 538) (by decide +kernel))) rfl
theorem ml_X2_48 : Cond.methodLink RX2 48 yX4_become ∈ lwg := lwg_in (List.mem_append_right _ (List.mem_of_getElem? (i := 542) (by decide +kernel))) rfl
theorem ml_X2_52 : Cond.methodLink RX2 52 yX2_passDraft ∈ lwg := lwg_in (List.mem_append_right _ (List.mem_of_getElem? (i := 543) (by decide +kernel))) rfl
theorem ml_X2_56 : Cond.methodLink RX2 56 yX4_forceAfter ∈ lwg := lwg_in (List.mem_append_right _ (List.mem_of_getElem? (i := 547) (by decide +kernel))) rfl
theorem ml_X2_60 : Cond.methodLink RX2 60 yX4_passHourIn ∈ lwg := lwg_in (List.mem_append_right _ (List.mem_of_getElem? (i := 548) (by decide +kernel))) rfl
theorem ml_L_86 : Cond.methodLink RL 86 yX7_when ∈ lwg := lwg_in (List.mem_append_right _ (List.mem_of_getElem? (i := 549) (by decide +kernel))) rfl
theorem ml_X7_228 : Cond.methodLink RX7 228 yX2_firstHour ∈ lwg := lwg_in (List.mem_append_right _ (List.mem_of_getElem? (i := 553) (by decide +kernel))) rfl
theorem ml_X2_72 : Cond.methodLink RX2 72 yX4_isPolicy ∈ lwg := lwg_in (List.mem_append_right _ (List.mem_of_getElem? (i := 557) (by decide +kernel))) rfl
theorem ml_L_90 : Cond.methodLink RL 90 yX7_policy ∈ lwg := lwg_in (List.mem_append_right _ (List.mem_of_getElem? (i := 558) (by decide +kernel))) rfl
theorem ml_L_94 : Cond.methodLink RL 94 yX7_pull ∈ lwg := lwg_in (List.mem_append_right _ (List.mem_of_getElem? (i := 562) (by decide +kernel))) rfl
theorem ml_X7_232 : Cond.methodLink RX7 232 yX4_riseOf ∈ lwg := lwg_in (List.mem_append_right _ (List.mem_of_getElem? (i := 566) (by decide +kernel))) rfl
theorem ml_L_98 : Cond.methodLink RL 98 yX7_sends ∈ lwg := lwg_in (List.mem_append_right _ (List.mem_of_getElem? (i := 570) (by decide +kernel))) rfl
theorem ml_X7_235 : Cond.methodLink RX7 235 yX2_bestToSend ∈ lwg := lwg_in (List.mem_append_right _ (List.mem_of_getElem? (i := 574) (by decide +kernel))) rfl
theorem ml_X2_76 : Cond.methodLink RX2 76 yX4_bitsOf ∈ lwg := lwg_in (List.mem_append_right _ (List.mem_of_getElem? (i := 578) (by decide +kernel))) rfl
theorem ml_X2_79 : Cond.methodLink RX2 79 yX4_sendAll ∈ lwg := lwg_in (List.mem_append_right _ (List.mem_of_getElem? (i := 579) (by decide +kernel))) rfl
theorem ml_X4_73 : Cond.methodLink RX4 73 yX3_rise ∈ lwg := lwg_in (List.mem_append_right _ (List.mem_of_getElem? (i := 583) (by decide +kernel))) rfl
theorem ml_X2_83 : Cond.methodLink RX2 83 yX4_policyBits ∈ lwg := lwg_in (List.mem_append_right _ (List.mem_of_getElem? (i := 584) (by decide +kernel))) rfl
theorem ml_X2_87 : Cond.methodLink RX2 87 yJ6_bitCount_0f7a4 ∈ lwg := lwg_in (List.mem_append_right _ (List.mem_of_getElem? (i := 585) (by decide +kernel))) rfl
theorem ml_L_102 : Cond.methodLink RL 102 yX7_lets ∈ lwg := lwg_in (List.mem_append_right _ (List.mem_of_getElem? (i := 591) (by decide +kernel))) rfl
theorem ml_X7_239 : Cond.methodLink RX7 239 yX2_bestLetting ∈ lwg := lwg_in (List.mem_append_right _ (List.mem_of_getElem? (i := 595) (by decide +kernel))) rfl
theorem ml_X2_92 : Cond.methodLink RX2 92 yX2_highBy ∈ lwg := lwg_in (List.mem_append_right _ (List.mem_of_getElem? (i := 599) (by decide +kernel))) rfl
theorem ml_X2_99 : Cond.methodLink RX2 99 yX3_isUp ∈ lwg := lwg_in (List.mem_append_right _ (List.mem_of_getElem? (i := 603) (by decide +kernel))) rfl
theorem ml_X2_96 : Cond.methodLink RX2 96 yX2_lettingAt ∈ lwg := lwg_in (List.mem_append_right _ (List.mem_of_getElem? (i := 604) (by decide +kernel))) rfl
theorem ml_X2_103 : Cond.methodLink RX2 103 yX2_yardsOf ∈ lwg := lwg_in (List.mem_append_right _ (List.mem_of_getElem? (i := 607) (by decide +kernel))) rfl
theorem ml_X2_106 : Cond.methodLink RX2 106 yX3_letOutBy ∈ lwg := lwg_in (List.mem_append_right _ (List.mem_of_getElem? (i := 610) (by decide +kernel))) rfl
theorem ml_L_106 : Cond.methodLink RL 106 yX7_light ∈ lwg := lwg_in (List.mem_append_right _ (List.mem_of_getElem? (i := 611) (by decide +kernel))) rfl
theorem ml_X7_243 : Cond.methodLink RX7 243 yX2_greatestWeight ∈ lwg := lwg_in (List.mem_append_right _ (List.mem_of_getElem? (i := 615) (by decide +kernel))) rfl
theorem ml_X2_112 : Cond.methodLink RX2 112 yX2_draftWith ∈ lwg := lwg_in (List.mem_append_right _ (List.mem_of_getElem? (i := 619) (by decide +kernel))) rfl
theorem ml_L_110 : Cond.methodLink RL 110 yX7_gust ∈ lwg := lwg_in (List.mem_append_right _ (List.mem_of_getElem? (i := 623) (by decide +kernel))) rfl
theorem ml_X7_246 : Cond.methodLink RX7 246 yX2_leastSnappingForce ∈ lwg := lwg_in (List.mem_append_right _ (List.mem_of_getElem? (i := 627) (by decide +kernel))) rfl
theorem ml_X2_116 : Cond.methodLink RX2 116 yX4_riseOf ∈ lwg := lwg_in (List.mem_append_right _ (List.mem_of_getElem? (i := 631) (by decide +kernel))) rfl
theorem ml_X2_123 : Cond.methodLink RX2 123 yX3_snapsBy ∈ lwg := lwg_in (List.mem_append_right _ (List.mem_of_getElem? (i := 632) (by decide +kernel))) rfl
theorem ml_L_114 : Cond.methodLink RL 114 yX7_quarrels ∈ lwg := lwg_in (List.mem_append_right _ (List.mem_of_getElem? (i := 633) (by decide +kernel))) rfl
theorem ml_X7_249 : Cond.methodLink RX7 249 yX4_quarrelCount ∈ lwg := lwg_in (List.mem_append_right _ (List.mem_of_getElem? (i := 637) (by decide +kernel))) rfl
theorem ml_X4_77 : Cond.methodLink RX4 77 yX4_quarrel ∈ lwg := lwg_in (List.mem_append_right _ (List.mem_of_getElem? (i := 641) (by decide +kernel))) rfl
theorem ml_X7_252 : Cond.methodLink RX7 252 yX4_firstQuarrel ∈ lwg := lwg_in (List.mem_append_right _ (List.mem_of_getElem? (i := 645) (by decide +kernel))) rfl
theorem ml_L_118 : Cond.methodLink RL 118 yX7_who ∈ lwg := lwg_in (List.mem_append_right _ (List.mem_of_getElem? (i := 650) (by decide +kernel))) rfl
theorem ml_X7_255 : Cond.methodLink RX7 255 yX7_watchRow ∈ lwg := lwg_in (List.mem_append_right _ (List.mem_of_getElem? (i := 654) (by decide +kernel))) rfl
theorem ml_X7_318 : Cond.methodLink RX7 318 yX2_watch ∈ lwg := lwg_in (List.mem_append_right _ (List.mem_of_getElem? (i := 658) (by decide +kernel))) rfl
theorem ml_X7_259 : Cond.methodLink RX7 259 yX2_fittingPapers ∈ lwg := lwg_in (List.mem_append_right _ (List.mem_of_getElem? (i := 662) (by decide +kernel))) rfl
theorem ml_X2_127 : Cond.methodLink RX2 127 yX2_search ∈ lwg := lwg_in (List.mem_append_right _ (List.mem_of_getElem? (i := 666) (by decide +kernel))) rfl
theorem ml_X2_131 : Cond.methodLink RX2 131 yX2_draftIsAsSeen ∈ lwg := lwg_in (List.mem_append_right _ (List.mem_of_getElem? (i := 670) (by decide +kernel))) rfl
theorem ml_X2_150 : Cond.methodLink RX2 150 yX5_hasPlaces ∈ lwg := lwg_in (List.mem_append_right _ (List.mem_of_getElem? (i := 674) (by decide +kernel))) rfl
theorem ml_X2_134 : Cond.methodLink RX2 134 yX2_noteFitting ∈ lwg := lwg_in (List.mem_append_right _ (List.mem_of_getElem? (i := 675) (by decide +kernel))) rfl
theorem ml_L_122 : Cond.methodLink RL 122 yX7_winds ∈ lwg := lwg_in (List.mem_append_right _ (List.mem_of_getElem? (i := 679) (by decide +kernel))) rfl
theorem ml_X7_262 : Cond.methodLink RX7 262 yX2_fittingForces ∈ lwg := lwg_in (List.mem_append_right _ (List.mem_of_getElem? (i := 683) (by decide +kernel))) rfl
theorem ml_L_126 : Cond.methodLink RL 126 yX7_tapes ∈ lwg := lwg_in (List.mem_append_right _ (List.mem_of_getElem? (i := 687) (by decide +kernel))) rfl
theorem ml_X7_265 : Cond.methodLink RX7 265 yX2_fittingTapes ∈ lwg := lwg_in (List.mem_append_right _ (List.mem_of_getElem? (i := 691) (by decide +kernel))) rfl
theorem ml_L_130 : Cond.methodLink RL 130 yX7_calm ∈ lwg := lwg_in (List.mem_append_right _ (List.mem_of_getElem? (i := 695) (by decide +kernel))) rfl
theorem ml_X7_270 : Cond.methodLink RX7 270 yX2_calmCases ∈ lwg := lwg_in (List.mem_append_right _ (List.mem_of_getElem? (i := 700) (by decide +kernel))) rfl
theorem ml_X7_276 : Cond.methodLink RX7 276 yX7_power ∈ lwg := lwg_in (List.mem_append_right _ (List.mem_of_getElem? (i := 708) (by decide +kernel))) rfl
theorem ml_X7_280 : Cond.methodLink RX7 280 yX7_greatestDivisor ∈ lwg := lwg_in (List.mem_append_right _ (List.mem_of_getElem? (i := 709) (by decide +kernel))) rfl
theorem ml_L_135 : Cond.methodLink RL 135 yX7_drawn ∈ lwg := lwg_in (List.mem_append_right _ (List.mem_of_getElem? (i := 712) (by decide +kernel))) rfl
theorem ml_X7_285 : Cond.methodLink RX7 285 yX2_draftYears ∈ lwg := lwg_in (List.mem_append_right _ (List.mem_of_getElem? (i := 717) (by decide +kernel))) rfl
theorem ml_X2_166 : Cond.methodLink RX2 166 yX2_drawAct ∈ lwg := lwg_in (List.mem_append_right _ (List.mem_of_getElem? (i := 723) (by decide +kernel))) rfl
theorem ml_X2_174 : Cond.methodLink RX2 174 yX3_rise ∈ lwg := lwg_in (List.mem_append_right _ (List.mem_of_getElem? (i := 727) (by decide +kernel))) rfl
theorem ml_X7_288 : Cond.methodLink RX7 288 yJ6_bitCount_0f7a4 ∈ lwg := lwg_in (List.mem_append_right _ (List.mem_of_getElem? (i := 729) (by decide +kernel))) rfl
theorem ml_L_139 : Cond.methodLink RL 139 yX7_image ∈ lwg := lwg_in (List.mem_append_right _ (List.mem_of_getElem? (i := 730) (by decide +kernel))) rfl
theorem ml_L_143 : Cond.methodLink RL 143 yX7_restore ∈ lwg := lwg_in (List.mem_append_right _ (List.mem_of_getElem? (i := 734) (by decide +kernel))) rfl
theorem ml_L_147 : Cond.methodLink RL 147 yX7_kind ∈ lwg := lwg_in (List.mem_append_right _ (List.mem_of_getElem? (i := 738) (by decide +kernel))) rfl
theorem ml_L_151 : Cond.methodLink RL 151 yX7_as ∈ lwg := lwg_in (List.mem_append_right _ (List.mem_of_getElem? (i := 742) (by decide +kernel))) rfl
theorem ml_X7_296 : Cond.methodLink RX7 296 yX3_isOf ∈ lwg := lwg_in (List.mem_append_right _ (List.mem_of_getElem? (i := 746) (by decide +kernel))) rfl
theorem ml_X3_34 : Cond.methodLink RX3 34 yX3_kindAbove ∈ lwg := lwg_in (List.mem_append_right _ (List.mem_of_getElem? (i := 750) (by decide +kernel))) rfl
theorem ml_L_155 : Cond.methodLink RL 155 yX7_ask ∈ lwg := lwg_in (List.mem_append_right _ (List.mem_of_getElem? (i := 753) (by decide +kernel))) rfl
theorem ml_X7_299 : Cond.methodLink RX7 299 yX3_sizeBody ∈ lwg := lwg_in (List.mem_append_right _ (List.mem_of_getElem? (i := 757) (by decide +kernel))) rfl
theorem ml_X3_38 : Cond.methodLink RX3 38 yX3_isOf ∈ lwg := lwg_in (List.mem_append_right _ (List.mem_of_getElem? (i := 761) (by decide +kernel))) rfl
theorem ml_X7_302 : Cond.methodLink RX7 302 yX3_markBody ∈ lwg := lwg_in (List.mem_append_right _ (List.mem_of_getElem? (i := 762) (by decide +kernel))) rfl
theorem ml_X7_305 : Cond.methodLink RX7 305 yX1_begin ∈ lwg := lwg_in (List.mem_append_right _ (List.mem_of_getElem? (i := 766) (by decide +kernel))) rfl
theorem ml_X1_20 : Cond.methodLink RX1 20 yX1_give ∈ lwg := lwg_in (List.mem_append_right _ (List.mem_of_getElem? (i := 770) (by decide +kernel))) rfl
theorem ml_X1_24 : Cond.methodLink RX1 24 yX1_leave ∈ lwg := lwg_in (List.mem_append_right _ (List.mem_of_getElem? (i := 774) (by decide +kernel))) rfl
theorem ml_X1_33 : Cond.methodLink RX1 33 yX3_markBody ∈ lwg := lwg_in (List.mem_append_right _ (List.mem_of_getElem? (i := 778) (by decide +kernel))) rfl
theorem ml_X1_40 : Cond.methodLink RX1 40 yX3_sizeBody ∈ lwg := lwg_in (List.mem_append_right _ (List.mem_of_getElem? (i := 779) (by decide +kernel))) rfl
theorem ml_L_159 : Cond.methodLink RL 159 yX7_trace ∈ lwg := lwg_in (List.mem_append_right _ (List.mem_of_getElem? (i := 780) (by decide +kernel))) rfl
theorem ml_X7_308 : Cond.methodLink RX7 308 yX1_traced ∈ lwg := lwg_in (List.mem_append_right _ (List.mem_of_getElem? (i := 784) (by decide +kernel))) rfl
theorem ml_L_163 : Cond.methodLink RL 163 yX7_count ∈ lwg := lwg_in (List.mem_append_right _ (List.mem_of_getElem? (i := 789) (by decide +kernel))) rfl
theorem ml_X7_311 : Cond.methodLink RX7 311 yX7_rowCount ∈ lwg := lwg_in (List.mem_append_right _ (List.mem_of_getElem? (i := 793) (by decide +kernel))) rfl
theorem ml_L_167 : Cond.methodLink RL 167 yX7_status ∈ lwg := lwg_in (List.mem_append_right _ (List.mem_of_getElem? (i := 797) (by decide +kernel))) rfl
theorem ml_L_12 : Cond.methodLink RL 12 yX8_init ∈ lwg := lwg_in (List.mem_append_right _ (List.mem_of_getElem? (i := 803) (by decide +kernel))) rfl
theorem ml_L_17 : Cond.methodLink RL 17 yX8_row ∈ lwg := lwg_in (List.mem_append_right _ (List.mem_of_getElem? (i := 884) (by decide +kernel))) rfl
theorem ml_X8_64 : Cond.methodLink RX8 64 yX8_isRow ∈ lwg := lwg_in (List.mem_append_right _ (List.mem_of_getElem? (i := 888) (by decide +kernel))) rfl
theorem ml_X8_60 : Cond.methodLink RX8 60 yX8_in ∈ lwg := lwg_in (List.mem_append_right _ (List.mem_of_getElem? (i := 892) (by decide +kernel))) rfl
theorem ml_X8_71 : Cond.methodLink RX8 71 yX8_finding ∈ lwg := lwg_in (List.mem_append_right _ (List.mem_of_getElem? (i := 897) (by decide +kernel))) rfl
theorem ml_L_21 : Cond.methodLink RL 21 yX8_set ∈ lwg := lwg_in (List.mem_append_right _ (List.mem_of_getElem? (i := 902) (by decide +kernel))) rfl
theorem ml_L_26 : Cond.methodLink RL 26 yX8_copy ∈ lwg := lwg_in (List.mem_append_right _ (List.mem_of_getElem? (i := 906) (by decide +kernel))) rfl
theorem ml_L_31 : Cond.methodLink RL 31 yX8_drop ∈ lwg := lwg_in (List.mem_append_right _ (List.mem_of_getElem? (i := 910) (by decide +kernel))) rfl
theorem ml_L_35 : Cond.methodLink RL 35 yX8_feed ∈ lwg := lwg_in (List.mem_append_right _ (List.mem_of_getElem? (i := 914) (by decide +kernel))) rfl
theorem ml_L_44 : Cond.methodLink RL 44 yX8_fault ∈ lwg := lwg_in (List.mem_append_right _ (List.mem_of_getElem? (i := 920) (by decide +kernel))) rfl
theorem ml_L_40 : Cond.methodLink RL 40 yX8_roof ∈ lwg := lwg_in (List.mem_append_right _ (List.mem_of_getElem? (i := 924) (by decide +kernel))) rfl
theorem ml_X8_135 : Cond.methodLink RX8 135 yX8_begin ∈ lwg := lwg_in (List.mem_append_right _ (List.mem_of_getElem? (i := 928) (by decide +kernel))) rfl
theorem ml_X8_112 : Cond.methodLink RX8 112 yX8_nextToken ∈ lwg := lwg_in (List.mem_append_right _ (List.mem_of_getElem? (i := 932) (by decide +kernel))) rfl
theorem ml_X8_125 : Cond.methodLink RX8 125 yX8_isLetter ∈ lwg := lwg_in (List.mem_append_right _ (List.mem_of_getElem? (i := 941) (by decide +kernel))) rfl
theorem ml_X8_115 : Cond.methodLink RX8 115 yX8_must ∈ lwg := lwg_in (List.mem_append_right _ (List.mem_of_getElem? (i := 945) (by decide +kernel))) rfl
theorem ml_X8_108 : Cond.methodLink RX8 108 yX8_bad ∈ lwg := lwg_in (List.mem_append_right _ (List.mem_of_getElem? (i := 949) (by decide +kernel))) rfl
theorem ml_X8_128 : Cond.methodLink RX8 128 yX8_number ∈ lwg := lwg_in (List.mem_append_right _ (List.mem_of_getElem? (i := 953) (by decide +kernel))) rfl
theorem ml_X8_132 : Cond.methodLink RX8 132 yX8_mustSign ∈ lwg := lwg_in (List.mem_append_right _ (List.mem_of_getElem? (i := 957) (by decide +kernel))) rfl
theorem ml_X8_138 : Cond.methodLink RX8 138 yX8_readWind ∈ lwg := lwg_in (List.mem_append_right _ (List.mem_of_getElem? (i := 961) (by decide +kernel))) rfl
theorem ml_X8_141 : Cond.methodLink RX8 141 yX8_isSort ∈ lwg := lwg_in (List.mem_append_right _ (List.mem_of_getElem? (i := 965) (by decide +kernel))) rfl
theorem ml_X8_122 : Cond.methodLink RX8 122 yX8_kindBy ∈ lwg := lwg_in (List.mem_append_right _ (List.mem_of_getElem? (i := 969) (by decide +kernel))) rfl
theorem ml_X8_145 : Cond.methodLink RX8 145 yX8_readPaper ∈ lwg := lwg_in (List.mem_append_right _ (List.mem_of_getElem? (i := 972) (by decide +kernel))) rfl
theorem ml_X8_148 : Cond.methodLink RX8 148 yX8_failed ∈ lwg := lwg_in (List.mem_append_right _ (List.mem_of_getElem? (i := 976) (by decide +kernel))) rfl
theorem ml_L_52 : Cond.methodLink RL 52 yX8_hours ∈ lwg := lwg_in (List.mem_append_right _ (List.mem_of_getElem? (i := 981) (by decide +kernel))) rfl
theorem ml_X8_195 : Cond.methodLink RX8 195 yX8_isThere ∈ lwg := lwg_in (List.mem_append_right _ (List.mem_of_getElem? (i := 985) (by decide +kernel))) rfl
theorem ml_X8_201 : Cond.methodLink RX8 201 yX8_keep ∈ lwg := lwg_in (List.mem_append_right _ (List.mem_of_getElem? (i := 991) (by decide +kernel))) rfl
theorem ml_X8_188 : Cond.methodLink RX8 188 yX8_hour ∈ lwg := lwg_in (List.mem_append_right _ (List.mem_of_getElem? (i := 995) (by decide +kernel))) rfl
theorem ml_X8_180 : Cond.methodLink RX8 180 yX8_forceOf ∈ lwg := lwg_in (List.mem_append_right _ (List.mem_of_getElem? (i := 999) (by decide +kernel))) rfl
theorem ml_X8_184 : Cond.methodLink RX8 184 yX8_hourBy ∈ lwg := lwg_in (List.mem_append_right _ (List.mem_of_getElem? (i := 1002) (by decide +kernel))) rfl
theorem ml_X8_174 : Cond.methodLink RX8 174 yX8_riseOf ∈ lwg := lwg_in (List.mem_append_right _ (List.mem_of_getElem? (i := 1006) (by decide +kernel))) rfl
theorem ml_X8_155 : Cond.methodLink RX8 155 yX8_of ∈ lwg := lwg_in (List.mem_append_right _ (List.mem_of_getElem? (i := 1009) (by decide +kernel))) rfl
theorem ml_X8_163 : Cond.methodLink RX8 163 yX8_isOtherUp ∈ lwg := lwg_in (List.mem_append_right _ (List.mem_of_getElem? (i := 1012) (by decide +kernel))) rfl
theorem ml_X8_159 : Cond.methodLink RX8 159 yX8_isUp ∈ lwg := lwg_in (List.mem_append_right _ (List.mem_of_getElem? (i := 1015) (by decide +kernel))) rfl
theorem ml_X8_177 : Cond.methodLink RX8 177 yX8_moves ∈ lwg := lwg_in (List.mem_append_right _ (List.mem_of_getElem? (i := 1018) (by decide +kernel))) rfl
theorem ml_X8_166 : Cond.methodLink RX8 166 yX8_doesSnap ∈ lwg := lwg_in (List.mem_append_right _ (List.mem_of_getElem? (i := 1021) (by decide +kernel))) rfl
theorem ml_X8_170 : Cond.methodLink RX8 170 yX8_be ∈ lwg := lwg_in (List.mem_append_right _ (List.mem_of_getElem? (i := 1024) (by decide +kernel))) rfl
theorem ml_X8_204 : Cond.methodLink RX8 204 yX8_policies ∈ lwg := lwg_in (List.mem_append_right _ (List.mem_of_getElem? (i := 1027) (by decide +kernel))) rfl
theorem ml_X8_192 : Cond.methodLink RX8 192 yX8_isPolicy ∈ lwg := lwg_in (List.mem_append_right _ (List.mem_of_getElem? (i := 1030) (by decide +kernel))) rfl
theorem ml_L_57 : Cond.methodLink RL 57 yX8_send ∈ lwg := lwg_in (List.mem_append_right _ (List.mem_of_getElem? (i := 1033) (by decide +kernel))) rfl
theorem ml_X8_208 : Cond.methodLink RX8 208 yX8_isPaper ∈ lwg := lwg_in (List.mem_append_right _ (List.mem_of_getElem? (i := 1037) (by decide +kernel))) rfl
theorem ml_X8_213 : Cond.methodLink RX8 213 yX8_goesUp ∈ lwg := lwg_in (List.mem_append_right _ (List.mem_of_getElem? (i := 1042) (by decide +kernel))) rfl
theorem ml_X8_217 : Cond.methodLink RX8 217 yX8_those ∈ lwg := lwg_in (List.mem_append_right _ (List.mem_of_getElem? (i := 1045) (by decide +kernel))) rfl
theorem ml_L_61 : Cond.methodLink RL 61 yX8_let ∈ lwg := lwg_in (List.mem_append_right _ (List.mem_of_getElem? (i := 1048) (by decide +kernel))) rfl
theorem ml_X8_222 : Cond.methodLink RX8 222 yX8_letsOut ∈ lwg := lwg_in (List.mem_append_right _ (List.mem_of_getElem? (i := 1053) (by decide +kernel))) rfl
theorem ml_L_65 : Cond.methodLink RL 65 yX8_weigh ∈ lwg := lwg_in (List.mem_append_right _ (List.mem_of_getElem? (i := 1056) (by decide +kernel))) rfl
theorem ml_L_69 : Cond.methodLink RL 69 yX8_blow ∈ lwg := lwg_in (List.mem_append_right _ (List.mem_of_getElem? (i := 1061) (by decide +kernel))) rfl
theorem ml_L_48 : Cond.methodLink RL 48 yX8_undo ∈ lwg := lwg_in (List.mem_append_right _ (List.mem_of_getElem? (i := 1066) (by decide +kernel))) rfl
theorem ml_L_73 : Cond.methodLink RL 73 yX8_paper ∈ lwg := lwg_in (List.mem_append_right _ (List.mem_of_getElem? (i := 1070) (by decide +kernel))) rfl
theorem ml_X8_229 : Cond.methodLink RX8 229 yX8_cellOf ∈ lwg := lwg_in (List.mem_append_right _ (List.mem_of_getElem? (i := 1074) (by decide +kernel))) rfl
theorem ml_L_77 : Cond.methodLink RL 77 yX8_force ∈ lwg := lwg_in (List.mem_append_right _ (List.mem_of_getElem? (i := 1077) (by decide +kernel))) rfl
theorem ml_L_81 : Cond.methodLink RL 81 yX8_stand ∈ lwg := lwg_in (List.mem_append_right _ (List.mem_of_getElem? (i := 1081) (by decide +kernel))) rfl
theorem ml_L_85 : Cond.methodLink RL 85 yX8_ahead ∈ lwg := lwg_in (List.mem_append_right _ (List.mem_of_getElem? (i := 1085) (by decide +kernel))) rfl
theorem ml_X8_232 : Cond.methodLink RX8 232 yX8_layThen ∈ lwg := lwg_in (List.mem_append_right _ (List.mem_of_getElem? (i := 1089) (by decide +kernel))) rfl
theorem ml_X8_235 : Cond.methodLink RX8 235 yX8_hoursOf ∈ lwg := lwg_in (List.mem_append_right _ (List.mem_of_getElem? (i := 1093) (by decide +kernel))) rfl
theorem ml_L_89 : Cond.methodLink RL 89 yX8_when ∈ lwg := lwg_in (List.mem_append_right _ (List.mem_of_getElem? (i := 1097) (by decide +kernel))) rfl
theorem ml_L_93 : Cond.methodLink RL 93 yX8_policy ∈ lwg := lwg_in (List.mem_append_right _ (List.mem_of_getElem? (i := 1101) (by decide +kernel))) rfl
theorem ml_L_97 : Cond.methodLink RL 97 yX8_pull ∈ lwg := lwg_in (List.mem_append_right _ (List.mem_of_getElem? (i := 1105) (by decide +kernel))) rfl
theorem ml_L_101 : Cond.methodLink RL 101 yX8_sends ∈ lwg := lwg_in (List.mem_append_right _ (List.mem_of_getElem? (i := 1109) (by decide +kernel))) rfl
theorem ml_X8_240 : Cond.methodLink RX8 240 yX8_has ∈ lwg := lwg_in (List.mem_append_right _ (List.mem_of_getElem? (i := 1114) (by decide +kernel))) rfl
theorem ml_X8_244 : Cond.methodLink RX8 244 yX8_bits ∈ lwg := lwg_in (List.mem_append_right _ (List.mem_of_getElem? (i := 1117) (by decide +kernel))) rfl
theorem ml_L_105 : Cond.methodLink RL 105 yX8_lets ∈ lwg := lwg_in (List.mem_append_right _ (List.mem_of_getElem? (i := 1120) (by decide +kernel))) rfl
theorem ml_L_109 : Cond.methodLink RL 109 yX8_light ∈ lwg := lwg_in (List.mem_append_right _ (List.mem_of_getElem? (i := 1125) (by decide +kernel))) rfl
theorem ml_L_113 : Cond.methodLink RL 113 yX8_gust ∈ lwg := lwg_in (List.mem_append_right _ (List.mem_of_getElem? (i := 1129) (by decide +kernel))) rfl
theorem ml_L_117 : Cond.methodLink RL 117 yX8_quarrels ∈ lwg := lwg_in (List.mem_append_right _ (List.mem_of_getElem? (i := 1133) (by decide +kernel))) rfl
theorem ml_L_121 : Cond.methodLink RL 121 yX8_who ∈ lwg := lwg_in (List.mem_append_right _ (List.mem_of_getElem? (i := 1137) (by decide +kernel))) rfl
theorem ml_X8_251 : Cond.methodLink RX8 251 yX8_isMany ∈ lwg := lwg_in (List.mem_append_right _ (List.mem_of_getElem? (i := 1141) (by decide +kernel))) rfl
theorem ml_X8_254 : Cond.methodLink RX8 254 yX8_rowFound ∈ lwg := lwg_in (List.mem_append_right _ (List.mem_of_getElem? (i := 1145) (by decide +kernel))) rfl
theorem ml_X8_258 : Cond.methodLink RX8 258 yX8_isSo ∈ lwg := lwg_in (List.mem_append_right _ (List.mem_of_getElem? (i := 1149) (by decide +kernel))) rfl
theorem ml_L_125 : Cond.methodLink RL 125 yX8_winds ∈ lwg := lwg_in (List.mem_append_right _ (List.mem_of_getElem? (i := 1153) (by decide +kernel))) rfl
theorem ml_L_129 : Cond.methodLink RL 129 yX8_tapes ∈ lwg := lwg_in (List.mem_append_right _ (List.mem_of_getElem? (i := 1157) (by decide +kernel))) rfl
theorem ml_L_134 : Cond.methodLink RL 134 yX8_calm ∈ lwg := lwg_in (List.mem_append_right _ (List.mem_of_getElem? (i := 1161) (by decide +kernel))) rfl
theorem ml_L_138 : Cond.methodLink RL 138 yX8_drawn ∈ lwg := lwg_in (List.mem_append_right _ (List.mem_of_getElem? (i := 1168) (by decide +kernel))) rfl
theorem ml_L_142 : Cond.methodLink RL 142 yX8_image ∈ lwg := lwg_in (List.mem_append_right _ (List.mem_of_getElem? (i := 1175) (by decide +kernel))) rfl
theorem ml_L_146 : Cond.methodLink RL 146 yX8_restore ∈ lwg := lwg_in (List.mem_append_right _ (List.mem_of_getElem? (i := 1179) (by decide +kernel))) rfl
theorem ml_L_150 : Cond.methodLink RL 150 yX8_kind ∈ lwg := lwg_in (List.mem_append_right _ (List.mem_of_getElem? (i := 1183) (by decide +kernel))) rfl
theorem ml_L_154 : Cond.methodLink RL 154 yX8_as ∈ lwg := lwg_in (List.mem_append_right _ (List.mem_of_getElem? (i := 1187) (by decide +kernel))) rfl
theorem ml_X8_276 : Cond.methodLink RX8 276 yX8_isOf ∈ lwg := lwg_in (List.mem_append_right _ (List.mem_of_getElem? (i := 1192) (by decide +kernel))) rfl
theorem ml_L_158 : Cond.methodLink RL 158 yX8_ask ∈ lwg := lwg_in (List.mem_append_right _ (List.mem_of_getElem? (i := 1195) (by decide +kernel))) rfl
theorem ml_X8_294 : Cond.methodLink RX8 294 yX8_sizeOf ∈ lwg := lwg_in (List.mem_append_right _ (List.mem_of_getElem? (i := 1199) (by decide +kernel))) rfl
theorem ml_X8_288 : Cond.methodLink RX8 288 yX8_leafSize ∈ lwg := lwg_in (List.mem_append_right _ (List.mem_of_getElem? (i := 1203) (by decide +kernel))) rfl
theorem ml_X8_282 : Cond.methodLink RX8 282 yX8_began ∈ lwg := lwg_in (List.mem_append_right _ (List.mem_of_getElem? (i := 1207) (by decide +kernel))) rfl
theorem ml_X8_285 : Cond.methodLink RX8 285 yX8_plainSize ∈ lwg := lwg_in (List.mem_append_right _ (List.mem_of_getElem? (i := 1211) (by decide +kernel))) rfl
theorem ml_X8_291 : Cond.methodLink RX8 291 yX8_markOf ∈ lwg := lwg_in (List.mem_append_right _ (List.mem_of_getElem? (i := 1215) (by decide +kernel))) rfl
theorem ml_L_162 : Cond.methodLink RL 162 yX8_trace ∈ lwg := lwg_in (List.mem_append_right _ (List.mem_of_getElem? (i := 1219) (by decide +kernel))) rfl
theorem ml_L_166 : Cond.methodLink RL 166 yX8_count ∈ lwg := lwg_in (List.mem_append_right _ (List.mem_of_getElem? (i := 1223) (by decide +kernel))) rfl
theorem ml_L_170 : Cond.methodLink RL 170 yX8_status ∈ lwg := lwg_in (List.mem_append_right _ (List.mem_of_getElem? (i := 1227) (by decide +kernel))) rfl
theorem kc_X3_30 : Cond.constant RX3 30 (-1000000) ∈ lwg := lwg_in (List.mem_append_right _ (List.mem_of_getElem? (i := 65) (by decide +kernel))) rfl
theorem kc_X2_41 : Cond.constant RX2 41 (-1000000) ∈ lwg := lwg_in (List.mem_append_right _ (List.mem_of_getElem? (i := 150) (by decide +kernel))) rfl
theorem kc_X7_75 : Cond.constant RX7 75 (-1000001) ∈ lwg := lwg_in (List.mem_append_right _ (List.mem_of_getElem? (i := 279) (by decide +kernel))) rfl
theorem kc_X7_317 : Cond.constant RX7 317 (-1000010) ∈ lwg := lwg_in (List.mem_append_right _ (List.mem_of_getElem? (i := 284) (by decide +kernel))) rfl
theorem kc_X7_119 : Cond.constant RX7 119 (-1000003) ∈ lwg := lwg_in (List.mem_append_right _ (List.mem_of_getElem? (i := 332) (by decide +kernel))) rfl
theorem kc_X6_97 : Cond.constant RX6 97 (-1000000) ∈ lwg := lwg_in (List.mem_append_right _ (List.mem_of_getElem? (i := 391) (by decide +kernel))) rfl
theorem kc_X7_131 : Cond.constant RX7 131 (-1000100) ∈ lwg := lwg_in (List.mem_append_right _ (List.mem_of_getElem? (i := 400) (by decide +kernel))) rfl
theorem kc_X7_148 : Cond.constant RX7 148 (-1000002) ∈ lwg := lwg_in (List.mem_append_right _ (List.mem_of_getElem? (i := 421) (by decide +kernel))) rfl
theorem kc_J6_265 : Cond.constant RJ6 265 (1431655765) ∈ lwg := lwg_in (List.mem_append_right _ (List.mem_of_getElem? (i := 588) (by decide +kernel))) rfl
theorem kc_J6_266 : Cond.constant RJ6 266 (858993459) ∈ lwg := lwg_in (List.mem_append_right _ (List.mem_of_getElem? (i := 589) (by decide +kernel))) rfl
theorem kc_J6_267 : Cond.constant RJ6 267 (252645135) ∈ lwg := lwg_in (List.mem_append_right _ (List.mem_of_getElem? (i := 590) (by decide +kernel))) rfl
theorem kc_X4_81 : Cond.constant RX4 81 (-1000000) ∈ lwg := lwg_in (List.mem_append_right _ (List.mem_of_getElem? (i := 649) (by decide +kernel))) rfl
theorem kc_X7_284 : Cond.constant RX7 284 (999999) ∈ lwg := lwg_in (List.mem_append_right _ (List.mem_of_getElem? (i := 716) (by decide +kernel))) rfl
theorem kc_X1_19 : Cond.constant RX1 19 (-1000000) ∈ lwg := lwg_in (List.mem_append_right _ (List.mem_of_getElem? (i := 788) (by decide +kernel))) rfl
theorem kc_X8_70 : Cond.constant RX8 70 (-1000001) ∈ lwg := lwg_in (List.mem_append_right _ (List.mem_of_getElem? (i := 896) (by decide +kernel))) rfl
theorem kc_X8_57 : Cond.constant RX8 57 (-1000010) ∈ lwg := lwg_in (List.mem_append_right _ (List.mem_of_getElem? (i := 901) (by decide +kernel))) rfl
theorem kc_X8_80 : Cond.constant RX8 80 (-1000003) ∈ lwg := lwg_in (List.mem_append_right _ (List.mem_of_getElem? (i := 919) (by decide +kernel))) rfl
theorem kc_X8_93 : Cond.constant RX8 93 (-1000000) ∈ lwg := lwg_in (List.mem_append_right _ (List.mem_of_getElem? (i := 936) (by decide +kernel))) rfl
theorem kc_X8_151 : Cond.constant RX8 151 (-1000100) ∈ lwg := lwg_in (List.mem_append_right _ (List.mem_of_getElem? (i := 980) (by decide +kernel))) rfl
theorem kc_X8_198 : Cond.constant RX8 198 (-1000002) ∈ lwg := lwg_in (List.mem_append_right _ (List.mem_of_getElem? (i := 989) (by decide +kernel))) rfl
theorem kl_X7_268 : Cond.constantLong RX7 268 (-1000001) ∈ lwg := lwg_in (List.mem_append_right _ (List.mem_of_getElem? (i := 699) (by decide +kernel))) rfl
theorem kl_X7_274 : Cond.constantLong RX7 274 (10) ∈ lwg := lwg_in (List.mem_append_right _ (List.mem_of_getElem? (i := 707) (by decide +kernel))) rfl
theorem kl_X2_162 : Cond.constantLong RX2 162 (16807) ∈ lwg := lwg_in (List.mem_append_right _ (List.mem_of_getElem? (i := 721) (by decide +kernel))) rfl
theorem kl_X2_164 : Cond.constantLong RX2 164 (2147483647) ∈ lwg := lwg_in (List.mem_append_right _ (List.mem_of_getElem? (i := 722) (by decide +kernel))) rfl
theorem kl_X2_169 : Cond.constantLong RX2 169 (10) ∈ lwg := lwg_in (List.mem_append_right _ (List.mem_of_getElem? (i := 728) (by decide +kernel))) rfl
theorem kl_X8_58 : Cond.constantLong RX8 58 (7) ∈ lwg := lwg_in (List.mem_append_right _ (List.mem_of_getElem? (i := 891) (by decide +kernel))) rfl
theorem kl_X8_68 : Cond.constantLong RX8 68 (2) ∈ lwg := lwg_in (List.mem_append_right _ (List.mem_of_getElem? (i := 895) (by decide +kernel))) rfl
theorem kl_X8_75 : Cond.constantLong RX8 75 (255) ∈ lwg := lwg_in (List.mem_append_right _ (List.mem_of_getElem? (i := 918) (by decide +kernel))) rfl
theorem kl_X8_97 : Cond.constantLong RX8 97 (97) ∈ lwg := lwg_in (List.mem_append_right _ (List.mem_of_getElem? (i := 937) (by decide +kernel))) rfl
theorem kl_X8_99 : Cond.constantLong RX8 99 (122) ∈ lwg := lwg_in (List.mem_append_right _ (List.mem_of_getElem? (i := 938) (by decide +kernel))) rfl
theorem kl_X8_101 : Cond.constantLong RX8 101 (48) ∈ lwg := lwg_in (List.mem_append_right _ (List.mem_of_getElem? (i := 939) (by decide +kernel))) rfl
theorem kl_X8_103 : Cond.constantLong RX8 103 (57) ∈ lwg := lwg_in (List.mem_append_right _ (List.mem_of_getElem? (i := 940) (by decide +kernel))) rfl
theorem kl_X8_199 : Cond.constantLong RX8 199 (24) ∈ lwg := lwg_in (List.mem_append_right _ (List.mem_of_getElem? (i := 990) (by decide +kernel))) rfl
theorem kl_X8_211 : Cond.constantLong RX8 211 (40) ∈ lwg := lwg_in (List.mem_append_right _ (List.mem_of_getElem? (i := 1041) (by decide +kernel))) rfl
theorem kl_X8_220 : Cond.constantLong RX8 220 (-40) ∈ lwg := lwg_in (List.mem_append_right _ (List.mem_of_getElem? (i := 1052) (by decide +kernel))) rfl
theorem kl_X8_225 : Cond.constantLong RX8 225 (60) ∈ lwg := lwg_in (List.mem_append_right _ (List.mem_of_getElem? (i := 1060) (by decide +kernel))) rfl
theorem kl_X8_227 : Cond.constantLong RX8 227 (9) ∈ lwg := lwg_in (List.mem_append_right _ (List.mem_of_getElem? (i := 1065) (by decide +kernel))) rfl
theorem kl_X8_238 : Cond.constantLong RX8 238 (30) ∈ lwg := lwg_in (List.mem_append_right _ (List.mem_of_getElem? (i := 1113) (by decide +kernel))) rfl
theorem kl_X8_247 : Cond.constantLong RX8 247 (4) ∈ lwg := lwg_in (List.mem_append_right _ (List.mem_of_getElem? (i := 1124) (by decide +kernel))) rfl
theorem kl_X8_249 : Cond.constantLong RX8 249 (12) ∈ lwg := lwg_in (List.mem_append_right _ (List.mem_of_getElem? (i := 1144) (by decide +kernel))) rfl
theorem kl_X8_262 : Cond.constantLong RX8 262 (8) ∈ lwg := lwg_in (List.mem_append_right _ (List.mem_of_getElem? (i := 1165) (by decide +kernel))) rfl
theorem kl_X8_264 : Cond.constantLong RX8 264 (10) ∈ lwg := lwg_in (List.mem_append_right _ (List.mem_of_getElem? (i := 1166) (by decide +kernel))) rfl
theorem kl_X8_266 : Cond.constantLong RX8 266 (-1000001) ∈ lwg := lwg_in (List.mem_append_right _ (List.mem_of_getElem? (i := 1167) (by decide +kernel))) rfl
theorem kl_X8_268 : Cond.constantLong RX8 268 (999999) ∈ lwg := lwg_in (List.mem_append_right _ (List.mem_of_getElem? (i := 1172) (by decide +kernel))) rfl
theorem kl_X8_270 : Cond.constantLong RX8 270 (16807) ∈ lwg := lwg_in (List.mem_append_right _ (List.mem_of_getElem? (i := 1173) (by decide +kernel))) rfl
theorem kl_X8_272 : Cond.constantLong RX8 272 (2147483647) ∈ lwg := lwg_in (List.mem_append_right _ (List.mem_of_getElem? (i := 1174) (by decide +kernel))) rfl
theorem kl_X8_274 : Cond.constantLong RX8 274 (5) ∈ lwg := lwg_in (List.mem_append_right _ (List.mem_of_getElem? (i := 1191) (by decide +kernel))) rfl
theorem fl_X6_9 : Cond.fieldLink RX6 9 (TX6 0).1 (TX6 0).2.1 (TX6 0).2.2.1 ∈ lwg := lwg_in (List.mem_append_right _ (List.mem_of_getElem? (i := 29) (by decide +kernel))) rfl
theorem fl_X6_15 : Cond.fieldLink RX6 15 (TX6 1).1 (TX6 1).2.1 (TX6 1).2.2.1 ∈ lwg := lwg_in (List.mem_append_right _ (List.mem_of_getElem? (i := 30) (by decide +kernel))) rfl
theorem fl_X7_118 : Cond.fieldLink RX7 118 (TX6 1).1 (TX6 1).2.1 (TX6 1).2.2.1 ∈ lwg := lwg_in (List.mem_append_right _ (List.mem_of_getElem? (i := 31) (by decide +kernel))) rfl
theorem fl_X6_19 : Cond.fieldLink RX6 19 (TX6 2).1 (TX6 2).2.1 (TX6 2).2.2.1 ∈ lwg := lwg_in (List.mem_append_right _ (List.mem_of_getElem? (i := 32) (by decide +kernel))) rfl
theorem fl_X7_132 : Cond.fieldLink RX7 132 (TX6 2).1 (TX6 2).2.1 (TX6 2).2.2.1 ∈ lwg := lwg_in (List.mem_append_right _ (List.mem_of_getElem? (i := 33) (by decide +kernel))) rfl
theorem fl_X6_22 : Cond.fieldLink RX6 22 (TX6 3).1 (TX6 3).2.1 (TX6 3).2.2.1 ∈ lwg := lwg_in (List.mem_append_right _ (List.mem_of_getElem? (i := 34) (by decide +kernel))) rfl
theorem fl_X7_128 : Cond.fieldLink RX7 128 (TX6 3).1 (TX6 3).2.1 (TX6 3).2.2.1 ∈ lwg := lwg_in (List.mem_append_right _ (List.mem_of_getElem? (i := 35) (by decide +kernel))) rfl
theorem fl_X3_9 : Cond.fieldLink RX3 9 (TX3 0).1 (TX3 0).2.1 (TX3 0).2.2.1 ∈ lwg := lwg_in (List.mem_append_right _ (List.mem_of_getElem? (i := 66) (by decide +kernel))) rfl
theorem fl_X6_86 : Cond.fieldLink RX6 86 (TX3 0).1 (TX3 0).2.1 (TX3 0).2.2.1 ∈ lwg := lwg_in (List.mem_append_right _ (List.mem_of_getElem? (i := 67) (by decide +kernel))) rfl
theorem fl_X4_56 : Cond.fieldLink RX4 56 (TX3 0).1 (TX3 0).2.1 (TX3 0).2.2.1 ∈ lwg := lwg_in (List.mem_append_right _ (List.mem_of_getElem? (i := 68) (by decide +kernel))) rfl
theorem fl_X2_137 : Cond.fieldLink RX2 137 (TX3 0).1 (TX3 0).2.1 (TX3 0).2.2.1 ∈ lwg := lwg_in (List.mem_append_right _ (List.mem_of_getElem? (i := 69) (by decide +kernel))) rfl
theorem fl_X7_293 : Cond.fieldLink RX7 293 (TX3 0).1 (TX3 0).2.1 (TX3 0).2.2.1 ∈ lwg := lwg_in (List.mem_append_right _ (List.mem_of_getElem? (i := 70) (by decide +kernel))) rfl
theorem fl_X3_15 : Cond.fieldLink RX3 15 (TX3 1).1 (TX3 1).2.1 (TX3 1).2.2.1 ∈ lwg := lwg_in (List.mem_append_right _ (List.mem_of_getElem? (i := 71) (by decide +kernel))) rfl
theorem fl_X6_91 : Cond.fieldLink RX6 91 (TX3 1).1 (TX3 1).2.1 (TX3 1).2.2.1 ∈ lwg := lwg_in (List.mem_append_right _ (List.mem_of_getElem? (i := 72) (by decide +kernel))) rfl
theorem fl_X7_207 : Cond.fieldLink RX7 207 (TX3 1).1 (TX3 1).2.1 (TX3 1).2.2.1 ∈ lwg := lwg_in (List.mem_append_right _ (List.mem_of_getElem? (i := 73) (by decide +kernel))) rfl
theorem fl_X2_140 : Cond.fieldLink RX2 140 (TX3 1).1 (TX3 1).2.1 (TX3 1).2.2.1 ∈ lwg := lwg_in (List.mem_append_right _ (List.mem_of_getElem? (i := 74) (by decide +kernel))) rfl
theorem fl_X3_18 : Cond.fieldLink RX3 18 (TX3 2).1 (TX3 2).2.1 (TX3 2).2.2.1 ∈ lwg := lwg_in (List.mem_append_right _ (List.mem_of_getElem? (i := 75) (by decide +kernel))) rfl
theorem fl_X1_28 : Cond.fieldLink RX1 28 (TX3 2).1 (TX3 2).2.1 (TX3 2).2.2.1 ∈ lwg := lwg_in (List.mem_append_right _ (List.mem_of_getElem? (i := 76) (by decide +kernel))) rfl
theorem fl_X4_50 : Cond.fieldLink RX4 50 (TX3 2).1 (TX3 2).2.1 (TX3 2).2.2.1 ∈ lwg := lwg_in (List.mem_append_right _ (List.mem_of_getElem? (i := 77) (by decide +kernel))) rfl
theorem fl_X6_94 : Cond.fieldLink RX6 94 (TX3 2).1 (TX3 2).2.1 (TX3 2).2.2.1 ∈ lwg := lwg_in (List.mem_append_right _ (List.mem_of_getElem? (i := 78) (by decide +kernel))) rfl
theorem fl_X7_198 : Cond.fieldLink RX7 198 (TX3 2).1 (TX3 2).2.1 (TX3 2).2.2.1 ∈ lwg := lwg_in (List.mem_append_right _ (List.mem_of_getElem? (i := 79) (by decide +kernel))) rfl
theorem fl_X2_143 : Cond.fieldLink RX2 143 (TX3 2).1 (TX3 2).2.1 (TX3 2).2.2.1 ∈ lwg := lwg_in (List.mem_append_right _ (List.mem_of_getElem? (i := 80) (by decide +kernel))) rfl
theorem fl_X3_21 : Cond.fieldLink RX3 21 (TX3 3).1 (TX3 3).2.1 (TX3 3).2.2.1 ∈ lwg := lwg_in (List.mem_append_right _ (List.mem_of_getElem? (i := 81) (by decide +kernel))) rfl
theorem fl_X2_67 : Cond.fieldLink RX2 67 (TX3 3).1 (TX3 3).2.1 (TX3 3).2.2.1 ∈ lwg := lwg_in (List.mem_append_right _ (List.mem_of_getElem? (i := 82) (by decide +kernel))) rfl
theorem fl_X7_178 : Cond.fieldLink RX7 178 (TX3 3).1 (TX3 3).2.1 (TX3 3).2.2.1 ∈ lwg := lwg_in (List.mem_append_right _ (List.mem_of_getElem? (i := 83) (by decide +kernel))) rfl
theorem fl_X4_70 : Cond.fieldLink RX4 70 (TX3 3).1 (TX3 3).2.1 (TX3 3).2.2.1 ∈ lwg := lwg_in (List.mem_append_right _ (List.mem_of_getElem? (i := 84) (by decide +kernel))) rfl
theorem fl_X3_24 : Cond.fieldLink RX3 24 (TX3 4).1 (TX3 4).2.1 (TX3 4).2.2.1 ∈ lwg := lwg_in (List.mem_append_right _ (List.mem_of_getElem? (i := 85) (by decide +kernel))) rfl
theorem fl_X1_37 : Cond.fieldLink RX1 37 (TX3 4).1 (TX3 4).2.1 (TX3 4).2.2.1 ∈ lwg := lwg_in (List.mem_append_right _ (List.mem_of_getElem? (i := 86) (by decide +kernel))) rfl
theorem fl_X2_109 : Cond.fieldLink RX2 109 (TX3 4).1 (TX3 4).2.1 (TX3 4).2.2.1 ∈ lwg := lwg_in (List.mem_append_right _ (List.mem_of_getElem? (i := 87) (by decide +kernel))) rfl
theorem fl_X4_63 : Cond.fieldLink RX4 63 (TX3 4).1 (TX3 4).2.1 (TX3 4).2.2.1 ∈ lwg := lwg_in (List.mem_append_right _ (List.mem_of_getElem? (i := 88) (by decide +kernel))) rfl
theorem fl_X7_210 : Cond.fieldLink RX7 210 (TX3 4).1 (TX3 4).2.1 (TX3 4).2.2.1 ∈ lwg := lwg_in (List.mem_append_right _ (List.mem_of_getElem? (i := 89) (by decide +kernel))) rfl
theorem fl_X3_27 : Cond.fieldLink RX3 27 (TX3 5).1 (TX3 5).2.1 (TX3 5).2.2.1 ∈ lwg := lwg_in (List.mem_append_right _ (List.mem_of_getElem? (i := 90) (by decide +kernel))) rfl
theorem fl_X7_192 : Cond.fieldLink RX7 192 (TX3 5).1 (TX3 5).2.1 (TX3 5).2.2.1 ∈ lwg := lwg_in (List.mem_append_right _ (List.mem_of_getElem? (i := 91) (by decide +kernel))) rfl
theorem fl_X3_31 : Cond.fieldLink RX3 31 (TX3 6).1 (TX3 6).2.1 (TX3 6).2.2.1 ∈ lwg := lwg_in (List.mem_append_right _ (List.mem_of_getElem? (i := 92) (by decide +kernel))) rfl
theorem fl_X7_213 : Cond.fieldLink RX7 213 (TX3 6).1 (TX3 6).2.1 (TX3 6).2.2.1 ∈ lwg := lwg_in (List.mem_append_right _ (List.mem_of_getElem? (i := 93) (by decide +kernel))) rfl
theorem fl_X4_82 : Cond.fieldLink RX4 82 (TX3 6).1 (TX3 6).2.1 (TX3 6).2.2.1 ∈ lwg := lwg_in (List.mem_append_right _ (List.mem_of_getElem? (i := 94) (by decide +kernel))) rfl
theorem fl_X4_9 : Cond.fieldLink RX4 9 (TX4 0).1 (TX4 0).2.1 (TX4 0).2.2.1 ∈ lwg := lwg_in (List.mem_append_right _ (List.mem_of_getElem? (i := 110) (by decide +kernel))) rfl
theorem fl_X6_58 : Cond.fieldLink RX6 58 (TX4 0).1 (TX4 0).2.1 (TX4 0).2.2.1 ∈ lwg := lwg_in (List.mem_append_right _ (List.mem_of_getElem? (i := 111) (by decide +kernel))) rfl
theorem fl_X7_219 : Cond.fieldLink RX7 219 (TX4 0).1 (TX4 0).2.1 (TX4 0).2.2.1 ∈ lwg := lwg_in (List.mem_append_right _ (List.mem_of_getElem? (i := 112) (by decide +kernel))) rfl
theorem fl_X4_15 : Cond.fieldLink RX4 15 (TX4 1).1 (TX4 1).2.1 (TX4 1).2.2.1 ∈ lwg := lwg_in (List.mem_append_right _ (List.mem_of_getElem? (i := 113) (by decide +kernel))) rfl
theorem fl_X6_61 : Cond.fieldLink RX6 61 (TX4 1).1 (TX4 1).2.1 (TX4 1).2.2.1 ∈ lwg := lwg_in (List.mem_append_right _ (List.mem_of_getElem? (i := 114) (by decide +kernel))) rfl
theorem fl_X2_120 : Cond.fieldLink RX2 120 (TX4 1).1 (TX4 1).2.1 (TX4 1).2.2.1 ∈ lwg := lwg_in (List.mem_append_right _ (List.mem_of_getElem? (i := 115) (by decide +kernel))) rfl
theorem fl_X7_222 : Cond.fieldLink RX7 222 (TX4 1).1 (TX4 1).2.1 (TX4 1).2.2.1 ∈ lwg := lwg_in (List.mem_append_right _ (List.mem_of_getElem? (i := 116) (by decide +kernel))) rfl
theorem fl_X4_18 : Cond.fieldLink RX4 18 (TX4 2).1 (TX4 2).2.1 (TX4 2).2.2.1 ∈ lwg := lwg_in (List.mem_append_right _ (List.mem_of_getElem? (i := 117) (by decide +kernel))) rfl
theorem fl_X6_25 : Cond.fieldLink RX6 25 (TX4 2).1 (TX4 2).2.1 (TX4 2).2.2.1 ∈ lwg := lwg_in (List.mem_append_right _ (List.mem_of_getElem? (i := 118) (by decide +kernel))) rfl
theorem fl_X7_155 : Cond.fieldLink RX7 155 (TX4 2).1 (TX4 2).2.1 (TX4 2).2.2.1 ∈ lwg := lwg_in (List.mem_append_right _ (List.mem_of_getElem? (i := 119) (by decide +kernel))) rfl
theorem fl_X4_21 : Cond.fieldLink RX4 21 (TX4 3).1 (TX4 3).2.1 (TX4 3).2.2.1 ∈ lwg := lwg_in (List.mem_append_right _ (List.mem_of_getElem? (i := 120) (by decide +kernel))) rfl
theorem fl_X6_30 : Cond.fieldLink RX6 30 (TX4 3).1 (TX4 3).2.1 (TX4 3).2.2.1 ∈ lwg := lwg_in (List.mem_append_right _ (List.mem_of_getElem? (i := 121) (by decide +kernel))) rfl
theorem fl_X7_314 : Cond.fieldLink RX7 314 (TX4 3).1 (TX4 3).2.1 (TX4 3).2.2.1 ∈ lwg := lwg_in (List.mem_append_right _ (List.mem_of_getElem? (i := 122) (by decide +kernel))) rfl
theorem fl_X4_24 : Cond.fieldLink RX4 24 (TX4 4).1 (TX4 4).2.1 (TX4 4).2.2.1 ∈ lwg := lwg_in (List.mem_append_right _ (List.mem_of_getElem? (i := 123) (by decide +kernel))) rfl
theorem fl_X6_33 : Cond.fieldLink RX6 33 (TX4 4).1 (TX4 4).2.1 (TX4 4).2.2.1 ∈ lwg := lwg_in (List.mem_append_right _ (List.mem_of_getElem? (i := 124) (by decide +kernel))) rfl
theorem fl_X7_142 : Cond.fieldLink RX7 142 (TX4 4).1 (TX4 4).2.1 (TX4 4).2.2.1 ∈ lwg := lwg_in (List.mem_append_right _ (List.mem_of_getElem? (i := 125) (by decide +kernel))) rfl
theorem fl_X2_171 : Cond.fieldLink RX2 171 (TX4 4).1 (TX4 4).2.1 (TX4 4).2.2.1 ∈ lwg := lwg_in (List.mem_append_right _ (List.mem_of_getElem? (i := 126) (by decide +kernel))) rfl
theorem fl_X4_27 : Cond.fieldLink RX4 27 (TX4 5).1 (TX4 5).2.1 (TX4 5).2.2.1 ∈ lwg := lwg_in (List.mem_append_right _ (List.mem_of_getElem? (i := 127) (by decide +kernel))) rfl
theorem fl_X6_71 : Cond.fieldLink RX6 71 (TX4 5).1 (TX4 5).2.1 (TX4 5).2.2.1 ∈ lwg := lwg_in (List.mem_append_right _ (List.mem_of_getElem? (i := 128) (by decide +kernel))) rfl
theorem fl_X7_204 : Cond.fieldLink RX7 204 (TX4 5).1 (TX4 5).2.1 (TX4 5).2.2.1 ∈ lwg := lwg_in (List.mem_append_right _ (List.mem_of_getElem? (i := 129) (by decide +kernel))) rfl
theorem fl_X2_146 : Cond.fieldLink RX2 146 (TX4 5).1 (TX4 5).2.1 (TX4 5).2.2.1 ∈ lwg := lwg_in (List.mem_append_right _ (List.mem_of_getElem? (i := 130) (by decide +kernel))) rfl
theorem fl_X4_33 : Cond.fieldLink RX4 33 (TX4 6).1 (TX4 6).2.1 (TX4 6).2.2.1 ∈ lwg := lwg_in (List.mem_append_right _ (List.mem_of_getElem? (i := 131) (by decide +kernel))) rfl
theorem fl_X2_63 : Cond.fieldLink RX2 63 (TX4 6).1 (TX4 6).2.1 (TX4 6).2.2.1 ∈ lwg := lwg_in (List.mem_append_right _ (List.mem_of_getElem? (i := 132) (by decide +kernel))) rfl
theorem fl_X6_78 : Cond.fieldLink RX6 78 (TX4 6).1 (TX4 6).2.1 (TX4 6).2.2.1 ∈ lwg := lwg_in (List.mem_append_right _ (List.mem_of_getElem? (i := 133) (by decide +kernel))) rfl
theorem fl_X7_174 : Cond.fieldLink RX7 174 (TX4 6).1 (TX4 6).2.1 (TX4 6).2.2.1 ∈ lwg := lwg_in (List.mem_append_right _ (List.mem_of_getElem? (i := 134) (by decide +kernel))) rfl
theorem fl_X2_12 : Cond.fieldLink RX2 12 (TX2 0).1 (TX2 0).2.1 (TX2 0).2.2.1 ∈ lwg := lwg_in (List.mem_append_right _ (List.mem_of_getElem? (i := 151) (by decide +kernel))) rfl
theorem fl_X7_29 : Cond.fieldLink RX7 29 (TX2 0).1 (TX2 0).2.1 (TX2 0).2.2.1 ∈ lwg := lwg_in (List.mem_append_right _ (List.mem_of_getElem? (i := 152) (by decide +kernel))) rfl
theorem fl_X2_18 : Cond.fieldLink RX2 18 (TX2 1).1 (TX2 1).2.1 (TX2 1).2.2.1 ∈ lwg := lwg_in (List.mem_append_right _ (List.mem_of_getElem? (i := 153) (by decide +kernel))) rfl
theorem fl_X7_34 : Cond.fieldLink RX7 34 (TX2 1).1 (TX2 1).2.1 (TX2 1).2.2.1 ∈ lwg := lwg_in (List.mem_append_right _ (List.mem_of_getElem? (i := 154) (by decide +kernel))) rfl
theorem fl_X2_21 : Cond.fieldLink RX2 21 (TX2 2).1 (TX2 2).2.1 (TX2 2).2.2.1 ∈ lwg := lwg_in (List.mem_append_right _ (List.mem_of_getElem? (i := 155) (by decide +kernel))) rfl
theorem fl_X2_25 : Cond.fieldLink RX2 25 (TX2 3).1 (TX2 3).2.1 (TX2 3).2.2.1 ∈ lwg := lwg_in (List.mem_append_right _ (List.mem_of_getElem? (i := 156) (by decide +kernel))) rfl
theorem fl_X2_29 : Cond.fieldLink RX2 29 (TX2 4).1 (TX2 4).2.1 (TX2 4).2.2.1 ∈ lwg := lwg_in (List.mem_append_right _ (List.mem_of_getElem? (i := 157) (by decide +kernel))) rfl
theorem fl_X2_32 : Cond.fieldLink RX2 32 (TX2 5).1 (TX2 5).2.1 (TX2 5).2.2.1 ∈ lwg := lwg_in (List.mem_append_right _ (List.mem_of_getElem? (i := 158) (by decide +kernel))) rfl
theorem fl_X2_35 : Cond.fieldLink RX2 35 (TX2 6).1 (TX2 6).2.1 (TX2 6).2.2.1 ∈ lwg := lwg_in (List.mem_append_right _ (List.mem_of_getElem? (i := 159) (by decide +kernel))) rfl
theorem fl_X2_38 : Cond.fieldLink RX2 38 (TX2 7).1 (TX2 7).2.1 (TX2 7).2.2.1 ∈ lwg := lwg_in (List.mem_append_right _ (List.mem_of_getElem? (i := 160) (by decide +kernel))) rfl
theorem fl_X2_42 : Cond.fieldLink RX2 42 (TX2 8).1 (TX2 8).2.1 (TX2 8).2.2.1 ∈ lwg := lwg_in (List.mem_append_right _ (List.mem_of_getElem? (i := 161) (by decide +kernel))) rfl
theorem fl_X2_45 : Cond.fieldLink RX2 45 (TX2 9).1 (TX2 9).2.1 (TX2 9).2.2.1 ∈ lwg := lwg_in (List.mem_append_right _ (List.mem_of_getElem? (i := 162) (by decide +kernel))) rfl
theorem fl_X0_11 : Cond.fieldLink RX0 11 (TX0 0).1 (TX0 0).2.1 (TX0 0).2.2.1 ∈ lwg := lwg_in (List.mem_append_right _ (List.mem_of_getElem? (i := 193) (by decide +kernel))) rfl
theorem fl_X0_17 : Cond.fieldLink RX0 17 (TX0 1).1 (TX0 1).2.1 (TX0 1).2.2.1 ∈ lwg := lwg_in (List.mem_append_right _ (List.mem_of_getElem? (i := 194) (by decide +kernel))) rfl
theorem fl_X0_21 : Cond.fieldLink RX0 21 (TX0 2).1 (TX0 2).2.1 (TX0 2).2.2.1 ∈ lwg := lwg_in (List.mem_append_right _ (List.mem_of_getElem? (i := 195) (by decide +kernel))) rfl
theorem fl_X7_145 : Cond.fieldLink RX7 145 (TX0 2).1 (TX0 2).2.1 (TX0 2).2.2.1 ∈ lwg := lwg_in (List.mem_append_right _ (List.mem_of_getElem? (i := 196) (by decide +kernel))) rfl
theorem fl_X1_9 : Cond.fieldLink RX1 9 (TX1 0).1 (TX1 0).2.1 (TX1 0).2.2.1 ∈ lwg := lwg_in (List.mem_append_right _ (List.mem_of_getElem? (i := 211) (by decide +kernel))) rfl
theorem fl_X1_15 : Cond.fieldLink RX1 15 (TX1 1).1 (TX1 1).2.1 (TX1 1).2.2.1 ∈ lwg := lwg_in (List.mem_append_right _ (List.mem_of_getElem? (i := 212) (by decide +kernel))) rfl
theorem fl_X5_11 : Cond.fieldLink RX5 11 (TX5 0).1 (TX5 0).2.1 (TX5 0).2.2.1 ∈ lwg := lwg_in (List.mem_append_right _ (List.mem_of_getElem? (i := 223) (by decide +kernel))) rfl
theorem fl_X7_99 : Cond.fieldLink RX7 99 (TX5 0).1 (TX5 0).2.1 (TX5 0).2.2.1 ∈ lwg := lwg_in (List.mem_append_right _ (List.mem_of_getElem? (i := 224) (by decide +kernel))) rfl
theorem fl_X5_15 : Cond.fieldLink RX5 15 (TX5 1).1 (TX5 1).2.1 (TX5 1).2.2.1 ∈ lwg := lwg_in (List.mem_append_right _ (List.mem_of_getElem? (i := 225) (by decide +kernel))) rfl
theorem fl_X7_112 : Cond.fieldLink RX7 112 (TX5 1).1 (TX5 1).2.1 (TX5 1).2.2.1 ∈ lwg := lwg_in (List.mem_append_right _ (List.mem_of_getElem? (i := 226) (by decide +kernel))) rfl
theorem fl_X5_18 : Cond.fieldLink RX5 18 (TX5 2).1 (TX5 2).2.1 (TX5 2).2.2.1 ∈ lwg := lwg_in (List.mem_append_right _ (List.mem_of_getElem? (i := 227) (by decide +kernel))) rfl
theorem fl_X7_102 : Cond.fieldLink RX7 102 (TX5 2).1 (TX5 2).2.1 (TX5 2).2.2.1 ∈ lwg := lwg_in (List.mem_append_right _ (List.mem_of_getElem? (i := 228) (by decide +kernel))) rfl
theorem fl_X2_155 : Cond.fieldLink RX2 155 (TX5 2).1 (TX5 2).2.1 (TX5 2).2.2.1 ∈ lwg := lwg_in (List.mem_append_right _ (List.mem_of_getElem? (i := 229) (by decide +kernel))) rfl
theorem fl_X7_11 : Cond.fieldLink RX7 11 (TX7 0).1 (TX7 0).2.1 (TX7 0).2.2.1 ∈ lwg := lwg_in (List.mem_append_right _ (List.mem_of_getElem? (i := 238) (by decide +kernel))) rfl
theorem fl_X7_18 : Cond.fieldLink RX7 18 (TX7 1).1 (TX7 1).2.1 (TX7 1).2.2.1 ∈ lwg := lwg_in (List.mem_append_right _ (List.mem_of_getElem? (i := 239) (by decide +kernel))) rfl
theorem fl_X7_25 : Cond.fieldLink RX7 25 (TX7 2).1 (TX7 2).2.1 (TX7 2).2.2.1 ∈ lwg := lwg_in (List.mem_append_right _ (List.mem_of_getElem? (i := 240) (by decide +kernel))) rfl
theorem fl_X7_33 : Cond.fieldLink RX7 33 (TX7 3).1 (TX7 3).2.1 (TX7 3).2.2.1 ∈ lwg := lwg_in (List.mem_append_right _ (List.mem_of_getElem? (i := 241) (by decide +kernel))) rfl
theorem fl_X7_37 : Cond.fieldLink RX7 37 (TX7 4).1 (TX7 4).2.1 (TX7 4).2.2.1 ∈ lwg := lwg_in (List.mem_append_right _ (List.mem_of_getElem? (i := 242) (by decide +kernel))) rfl
theorem fl_X7_41 : Cond.fieldLink RX7 41 (TX7 5).1 (TX7 5).2.1 (TX7 5).2.2.1 ∈ lwg := lwg_in (List.mem_append_right _ (List.mem_of_getElem? (i := 243) (by decide +kernel))) rfl
theorem fl_X7_47 : Cond.fieldLink RX7 47 (TX7 6).1 (TX7 6).2.1 (TX7 6).2.2.1 ∈ lwg := lwg_in (List.mem_append_right _ (List.mem_of_getElem? (i := 244) (by decide +kernel))) rfl
theorem fl_X7_54 : Cond.fieldLink RX7 54 (TX7 7).1 (TX7 7).2.1 (TX7 7).2.2.1 ∈ lwg := lwg_in (List.mem_append_right _ (List.mem_of_getElem? (i := 245) (by decide +kernel))) rfl
theorem fl_X7_58 : Cond.fieldLink RX7 58 (TX7 8).1 (TX7 8).2.1 (TX7 8).2.2.1 ∈ lwg := lwg_in (List.mem_append_right _ (List.mem_of_getElem? (i := 246) (by decide +kernel))) rfl
theorem fl_X7_62 : Cond.fieldLink RX7 62 (TX7 9).1 (TX7 9).2.1 (TX7 9).2.2.1 ∈ lwg := lwg_in (List.mem_append_right _ (List.mem_of_getElem? (i := 247) (by decide +kernel))) rfl
theorem fl_X8_50 : Cond.fieldLink RX8 50 (TX8 0).1 (TX8 0).2.1 (TX8 0).2.2.1 ∈ lwg := lwg_in (List.mem_append_right _ (List.mem_of_getElem? (i := 807) (by decide +kernel))) rfl
theorem fl_X8_54 : Cond.fieldLink RX8 54 (TX8 1).1 (TX8 1).2.1 (TX8 1).2.2.1 ∈ lwg := lwg_in (List.mem_append_right _ (List.mem_of_getElem? (i := 808) (by decide +kernel))) rfl
theorem fl_X8_7 : Cond.fieldLink RX8 7 (TX8 2).1 (TX8 2).2.1 (TX8 2).2.2.1 ∈ lwg := lwg_in (List.mem_append_right _ (List.mem_of_getElem? (i := 809) (by decide +kernel))) rfl
theorem fl_X8_13 : Cond.fieldLink RX8 13 (TX8 3).1 (TX8 3).2.1 (TX8 3).2.2.1 ∈ lwg := lwg_in (List.mem_append_right _ (List.mem_of_getElem? (i := 810) (by decide +kernel))) rfl
theorem fl_X8_16 : Cond.fieldLink RX8 16 (TX8 4).1 (TX8 4).2.1 (TX8 4).2.2.1 ∈ lwg := lwg_in (List.mem_append_right _ (List.mem_of_getElem? (i := 811) (by decide +kernel))) rfl
theorem fl_X8_19 : Cond.fieldLink RX8 19 (TX8 5).1 (TX8 5).2.1 (TX8 5).2.2.1 ∈ lwg := lwg_in (List.mem_append_right _ (List.mem_of_getElem? (i := 812) (by decide +kernel))) rfl
theorem fl_X8_22 : Cond.fieldLink RX8 22 (TX8 6).1 (TX8 6).2.1 (TX8 6).2.2.1 ∈ lwg := lwg_in (List.mem_append_right _ (List.mem_of_getElem? (i := 813) (by decide +kernel))) rfl
theorem fl_X8_25 : Cond.fieldLink RX8 25 (TX8 7).1 (TX8 7).2.1 (TX8 7).2.2.1 ∈ lwg := lwg_in (List.mem_append_right _ (List.mem_of_getElem? (i := 814) (by decide +kernel))) rfl
theorem fl_X8_28 : Cond.fieldLink RX8 28 (TX8 8).1 (TX8 8).2.1 (TX8 8).2.2.1 ∈ lwg := lwg_in (List.mem_append_right _ (List.mem_of_getElem? (i := 815) (by decide +kernel))) rfl
theorem fl_X8_31 : Cond.fieldLink RX8 31 (TX8 9).1 (TX8 9).2.1 (TX8 9).2.2.1 ∈ lwg := lwg_in (List.mem_append_right _ (List.mem_of_getElem? (i := 816) (by decide +kernel))) rfl
theorem fl_X8_152 : Cond.fieldLink RX8 152 (TX8 10).1 (TX8 10).2.1 (TX8 10).2.2.1 ∈ lwg := lwg_in (List.mem_append_right _ (List.mem_of_getElem? (i := 817) (by decide +kernel))) rfl
theorem fl_X8_34 : Cond.fieldLink RX8 34 (TX8 11).1 (TX8 11).2.1 (TX8 11).2.2.1 ∈ lwg := lwg_in (List.mem_append_right _ (List.mem_of_getElem? (i := 818) (by decide +kernel))) rfl
theorem fl_X8_77 : Cond.fieldLink RX8 77 (TX8 12).1 (TX8 12).2.1 (TX8 12).2.2.1 ∈ lwg := lwg_in (List.mem_append_right _ (List.mem_of_getElem? (i := 819) (by decide +kernel))) rfl
theorem fl_X8_90 : Cond.fieldLink RX8 90 (TX8 13).1 (TX8 13).2.1 (TX8 13).2.2.1 ∈ lwg := lwg_in (List.mem_append_right _ (List.mem_of_getElem? (i := 820) (by decide +kernel))) rfl
theorem fl_X8_84 : Cond.fieldLink RX8 84 (TX8 14).1 (TX8 14).2.1 (TX8 14).2.2.1 ∈ lwg := lwg_in (List.mem_append_right _ (List.mem_of_getElem? (i := 821) (by decide +kernel))) rfl
theorem fl_X8_105 : Cond.fieldLink RX8 105 (TX8 15).1 (TX8 15).2.1 (TX8 15).2.2.1 ∈ lwg := lwg_in (List.mem_append_right _ (List.mem_of_getElem? (i := 822) (by decide +kernel))) rfl
theorem fl_X8_94 : Cond.fieldLink RX8 94 (TX8 16).1 (TX8 16).2.1 (TX8 16).2.2.1 ∈ lwg := lwg_in (List.mem_append_right _ (List.mem_of_getElem? (i := 823) (by decide +kernel))) rfl
theorem fl_X8_81 : Cond.fieldLink RX8 81 (TX8 17).1 (TX8 17).2.1 (TX8 17).2.2.1 ∈ lwg := lwg_in (List.mem_append_right _ (List.mem_of_getElem? (i := 824) (by decide +kernel))) rfl
theorem fl_X8_87 : Cond.fieldLink RX8 87 (TX8 18).1 (TX8 18).2.1 (TX8 18).2.2.1 ∈ lwg := lwg_in (List.mem_append_right _ (List.mem_of_getElem? (i := 825) (by decide +kernel))) rfl
theorem fl_X8_119 : Cond.fieldLink RX8 119 (TX8 19).1 (TX8 19).2.1 (TX8 19).2.2.1 ∈ lwg := lwg_in (List.mem_append_right _ (List.mem_of_getElem? (i := 826) (by decide +kernel))) rfl
theorem fl_X8_37 : Cond.fieldLink RX8 37 (TX8 20).1 (TX8 20).2.1 (TX8 20).2.2.1 ∈ lwg := lwg_in (List.mem_append_right _ (List.mem_of_getElem? (i := 827) (by decide +kernel))) rfl
theorem fl_X8_40 : Cond.fieldLink RX8 40 (TX8 21).1 (TX8 21).2.1 (TX8 21).2.2.1 ∈ lwg := lwg_in (List.mem_append_right _ (List.mem_of_getElem? (i := 828) (by decide +kernel))) rfl
theorem fl_X8_44 : Cond.fieldLink RX8 44 (TX8 22).1 (TX8 22).2.1 (TX8 22).2.2.1 ∈ lwg := lwg_in (List.mem_append_right _ (List.mem_of_getElem? (i := 829) (by decide +kernel))) rfl
theorem fl_X8_47 : Cond.fieldLink RX8 47 (TX8 23).1 (TX8 23).2.1 (TX8 23).2.2.1 ∈ lwg := lwg_in (List.mem_append_right _ (List.mem_of_getElem? (i := 830) (by decide +kernel))) rfl
theorem fl_X8_279 : Cond.fieldLink RX8 279 (TX8 24).1 (TX8 24).2.1 (TX8 24).2.2.1 ∈ lwg := lwg_in (List.mem_append_right _ (List.mem_of_getElem? (i := 831) (by decide +kernel))) rfl
