def MX11_init : pm_M := (yX11_init, cX11_init, 1, none)
theorem mtX11_init : pm_mt MX11_init 0 := ⟨by decide, pm_T_in (List.mem_of_getElem? (i := 76) (by decide +kernel)) rfl, pm_T_in (List.mem_of_getElem? (i := 52) (by decide +kernel)) rfl, ⟨by decide, by decide⟩, by decide +kernel, by decide⟩
theorem imX11_init : Cond.instanceMethod yX11_init ∈ pm_T := pm_T_in (List.mem_of_getElem? (i := 75) (by decide +kernel)) rfl
def MX6_init : pm_M := (yX6_init, cX6_init, 1, none)
theorem mtX6_init : pm_mt MX6_init 0 := ⟨by decide, pm_T_in (List.mem_of_getElem? (i := 84) (by decide +kernel)) rfl, pm_T_in (List.mem_of_getElem? (i := 53) (by decide +kernel)) rfl, ⟨by decide, by decide⟩, by decide +kernel, by decide⟩
theorem imX6_init : Cond.instanceMethod yX6_init ∈ pm_T := pm_T_in (List.mem_of_getElem? (i := 83) (by decide +kernel)) rfl
def MX3_init : pm_M := (yX3_init, cX3_init, 1, none)
theorem mtX3_init : pm_mt MX3_init 0 := ⟨by decide, pm_T_in (List.mem_of_getElem? (i := 99) (by decide +kernel)) rfl, pm_T_in (List.mem_of_getElem? (i := 54) (by decide +kernel)) rfl, ⟨by decide, by decide⟩, by decide +kernel, by decide⟩
theorem imX3_init : Cond.instanceMethod yX3_init ∈ pm_T := pm_T_in (List.mem_of_getElem? (i := 98) (by decide +kernel)) rfl
def MX7_init : pm_M := (yX7_init, cX7_init, 1, none)
theorem mtX7_init : pm_mt MX7_init 0 := ⟨by decide, pm_T_in (List.mem_of_getElem? (i := 118) (by decide +kernel)) rfl, pm_T_in (List.mem_of_getElem? (i := 55) (by decide +kernel)) rfl, ⟨by decide, by decide⟩, by decide +kernel, by decide⟩
theorem imX7_init : Cond.instanceMethod yX7_init ∈ pm_T := pm_T_in (List.mem_of_getElem? (i := 117) (by decide +kernel)) rfl
def MX4_init : pm_M := (yX4_init, cX4_init, 1, none)
theorem mtX4_init : pm_mt MX4_init 0 := ⟨by decide, pm_T_in (List.mem_of_getElem? (i := 132) (by decide +kernel)) rfl, pm_T_in (List.mem_of_getElem? (i := 56) (by decide +kernel)) rfl, ⟨by decide, by decide⟩, by decide +kernel, by decide⟩
theorem imX4_init : Cond.instanceMethod yX4_init ∈ pm_T := pm_T_in (List.mem_of_getElem? (i := 131) (by decide +kernel)) rfl
def MX5_init : pm_M := (yX5_init, cX5_init, 3, none)
theorem mtX5_init : pm_mt MX5_init 2 := ⟨by decide, pm_T_in (List.mem_of_getElem? (i := 157) (by decide +kernel)) rfl, pm_T_in (List.mem_of_getElem? (i := 57) (by decide +kernel)) rfl, ⟨by decide, by decide⟩, by decide +kernel, by decide⟩
theorem imX5_init : Cond.instanceMethod yX5_init ∈ pm_T := pm_T_in (List.mem_of_getElem? (i := 156) (by decide +kernel)) rfl
def MX10_init : pm_M := (yX10_init, cX10_init, 2, none)
theorem mtX10_init : pm_mt MX10_init 1 := ⟨by decide, pm_T_in (List.mem_of_getElem? (i := 163) (by decide +kernel)) rfl, pm_T_in (List.mem_of_getElem? (i := 58) (by decide +kernel)) rfl, ⟨by decide, by decide⟩, by decide +kernel, by decide⟩
theorem imX10_init : Cond.instanceMethod yX10_init ∈ pm_T := pm_T_in (List.mem_of_getElem? (i := 162) (by decide +kernel)) rfl
def MX8_init : pm_M := (yX8_init, cX8_init, 1, none)
theorem mtX8_init : pm_mt MX8_init 0 := ⟨by decide, pm_T_in (List.mem_of_getElem? (i := 206) (by decide +kernel)) rfl, pm_T_in (List.mem_of_getElem? (i := 59) (by decide +kernel)) rfl, ⟨by decide, by decide⟩, by decide +kernel, by decide⟩
theorem imX8_init : Cond.instanceMethod yX8_init ∈ pm_T := pm_T_in (List.mem_of_getElem? (i := 205) (by decide +kernel)) rfl
def MX2_init : pm_M := (yX2_init, cX2_init, 1, none)
theorem mtX2_init : pm_mt MX2_init 0 := ⟨by decide, pm_T_in (List.mem_of_getElem? (i := 217) (by decide +kernel)) rfl, pm_T_in (List.mem_of_getElem? (i := 60) (by decide +kernel)) rfl, ⟨by decide, by decide⟩, by decide +kernel, by decide⟩
theorem imX2_init : Cond.instanceMethod yX2_init ∈ pm_T := pm_T_in (List.mem_of_getElem? (i := 216) (by decide +kernel)) rfl
def MX1_init : pm_M := (yX1_init, cX1_init, 4, none)
theorem mtX1_init : pm_mt MX1_init 3 := ⟨by decide, pm_T_in (List.mem_of_getElem? (i := 227) (by decide +kernel)) rfl, pm_T_in (List.mem_of_getElem? (i := 61) (by decide +kernel)) rfl, ⟨by decide, by decide⟩, by decide +kernel, by decide⟩
theorem imX1_init : Cond.instanceMethod yX1_init ∈ pm_T := pm_T_in (List.mem_of_getElem? (i := 226) (by decide +kernel)) rfl
def MX11_thing : pm_M := (yX11_thing, cX11_thing, 7, (some .int))
theorem mtX11_thing : pm_mt MX11_thing 5 := ⟨by decide, pm_T_in (List.mem_of_getElem? (i := 313) (by decide +kernel)) rfl, pm_T_in (List.mem_of_getElem? (i := 52) (by decide +kernel)) rfl, ⟨by decide, by decide⟩, by decide +kernel, by decide⟩
theorem imX11_thing : Cond.instanceMethod yX11_thing ∈ pm_T := pm_T_in (List.mem_of_getElem? (i := 311) (by decide +kernel)) rfl
theorem ivX11_thing : pm_iv MX11_thing := ⟨imX11_thing, pm_T_in (List.mem_of_getElem? (i := 312) (by decide +kernel)) rfl⟩
def MX11_isWithin : pm_M := (yX11_isWithin, cX11_isWithin, 3, (some .boolean))
theorem mtX11_isWithin : pm_mt MX11_isWithin 3 := ⟨by decide, pm_T_in (List.mem_of_getElem? (i := 316) (by decide +kernel)) rfl, pm_T_in (List.mem_of_getElem? (i := 52) (by decide +kernel)) rfl, ⟨by decide, by decide⟩, by decide +kernel, by decide⟩
theorem stX11_isWithin : Cond.static yX11_isWithin ∈ pm_T := pm_T_in (List.mem_of_getElem? (i := 315) (by decide +kernel)) rfl
def MX11_isMark : pm_M := (yX11_isMark, cX11_isMark, 1, (some .boolean))
theorem mtX11_isMark : pm_mt MX11_isMark 1 := ⟨by decide, pm_T_in (List.mem_of_getElem? (i := 319) (by decide +kernel)) rfl, pm_T_in (List.mem_of_getElem? (i := 52) (by decide +kernel)) rfl, ⟨by decide, by decide⟩, by decide +kernel, by decide⟩
theorem stX11_isMark : Cond.static yX11_isMark ∈ pm_T := pm_T_in (List.mem_of_getElem? (i := 318) (by decide +kernel)) rfl
def MX11_isHouse : pm_M := (yX11_isHouse, cX11_isHouse, 1, (some .boolean))
theorem mtX11_isHouse : pm_mt MX11_isHouse 1 := ⟨by decide, pm_T_in (List.mem_of_getElem? (i := 322) (by decide +kernel)) rfl, pm_T_in (List.mem_of_getElem? (i := 52) (by decide +kernel)) rfl, ⟨by decide, by decide⟩, by decide +kernel, by decide⟩
theorem stX11_isHouse : Cond.static yX11_isHouse ∈ pm_T := pm_T_in (List.mem_of_getElem? (i := 321) (by decide +kernel)) rfl
def MX6_isFull : pm_M := (yX6_isFull, cX6_isFull, 1, (some .boolean))
theorem mtX6_isFull : pm_mt MX6_isFull 0 := ⟨by decide, pm_T_in (List.mem_of_getElem? (i := 326) (by decide +kernel)) rfl, pm_T_in (List.mem_of_getElem? (i := 53) (by decide +kernel)) rfl, ⟨by decide, by decide⟩, by decide +kernel, by decide⟩
theorem imX6_isFull : Cond.instanceMethod yX6_isFull ∈ pm_T := pm_T_in (List.mem_of_getElem? (i := 324) (by decide +kernel)) rfl
theorem ivX6_isFull : pm_iv MX6_isFull := ⟨imX6_isFull, pm_T_in (List.mem_of_getElem? (i := 325) (by decide +kernel)) rfl⟩
def MX0_init : pm_M := (yX0_init, cX0_init, 3, none)
theorem mtX0_init : pm_mt MX0_init 2 := ⟨by decide, pm_T_in (List.mem_of_getElem? (i := 331) (by decide +kernel)) rfl, pm_T_in (List.mem_of_getElem? (i := 63) (by decide +kernel)) rfl, ⟨by decide, by decide⟩, by decide +kernel, by decide⟩
theorem imX0_init : Cond.instanceMethod yX0_init ∈ pm_T := pm_T_in (List.mem_of_getElem? (i := 330) (by decide +kernel)) rfl
def MX6_count : pm_M := (yX6_count, cX6_count, 1, (some .int))
theorem mtX6_count : pm_mt MX6_count 0 := ⟨by decide, pm_T_in (List.mem_of_getElem? (i := 366) (by decide +kernel)) rfl, pm_T_in (List.mem_of_getElem? (i := 53) (by decide +kernel)) rfl, ⟨by decide, by decide⟩, by decide +kernel, by decide⟩
theorem imX6_count : Cond.instanceMethod yX6_count ∈ pm_T := pm_T_in (List.mem_of_getElem? (i := 364) (by decide +kernel)) rfl
theorem ivX6_count : pm_iv MX6_count := ⟨imX6_count, pm_T_in (List.mem_of_getElem? (i := 365) (by decide +kernel)) rfl⟩
def MX9_init : pm_M := (yX9_init, cX9_init, 7, none)
theorem mtX9_init : pm_mt MX9_init 6 := ⟨by decide, pm_T_in (List.mem_of_getElem? (i := 369) (by decide +kernel)) rfl, pm_T_in (List.mem_of_getElem? (i := 64) (by decide +kernel)) rfl, ⟨by decide, by decide⟩, by decide +kernel, by decide⟩
theorem imX9_init : Cond.instanceMethod yX9_init ∈ pm_T := pm_T_in (List.mem_of_getElem? (i := 368) (by decide +kernel)) rfl
def MX6_put : pm_M := (yX6_put, cX6_put, 2, (some .int))
theorem mtX6_put : pm_mt MX6_put 1 := ⟨by decide, pm_T_in (List.mem_of_getElem? (i := 418) (by decide +kernel)) rfl, pm_T_in (List.mem_of_getElem? (i := 53) (by decide +kernel)) rfl, ⟨by decide, by decide⟩, by decide +kernel, by decide⟩
theorem imX6_put : Cond.instanceMethod yX6_put ∈ pm_T := pm_T_in (List.mem_of_getElem? (i := 416) (by decide +kernel)) rfl
theorem ivX6_put : pm_iv MX6_put := ⟨imX6_put, pm_T_in (List.mem_of_getElem? (i := 417) (by decide +kernel)) rfl⟩
def MX11_copy : pm_M := (yX11_copy, cX11_copy, 5, (some .int))
theorem mtX11_copy : pm_mt MX11_copy 3 := ⟨by decide, pm_T_in (List.mem_of_getElem? (i := 423) (by decide +kernel)) rfl, pm_T_in (List.mem_of_getElem? (i := 52) (by decide +kernel)) rfl, ⟨by decide, by decide⟩, by decide +kernel, by decide⟩
theorem imX11_copy : Cond.instanceMethod yX11_copy ∈ pm_T := pm_T_in (List.mem_of_getElem? (i := 421) (by decide +kernel)) rfl
theorem ivX11_copy : pm_iv MX11_copy := ⟨imX11_copy, pm_T_in (List.mem_of_getElem? (i := 422) (by decide +kernel)) rfl⟩
def MX6_findThere : pm_M := (yX6_findThere, cX6_findThere, 3, (some (.object "TeaBook$Thing")))
theorem mtX6_findThere : pm_mt MX6_findThere 1 := ⟨by decide, pm_T_in (List.mem_of_getElem? (i := 427) (by decide +kernel)) rfl, pm_T_in (List.mem_of_getElem? (i := 53) (by decide +kernel)) rfl, ⟨by decide, by decide⟩, by decide +kernel, by decide⟩
theorem imX6_findThere : Cond.instanceMethod yX6_findThere ∈ pm_T := pm_T_in (List.mem_of_getElem? (i := 425) (by decide +kernel)) rfl
theorem ivX6_findThere : pm_iv MX6_findThere := ⟨imX6_findThere, pm_T_in (List.mem_of_getElem? (i := 426) (by decide +kernel)) rfl⟩
def MX6_find : pm_M := (yX6_find, cX6_find, 2, (some (.object "TeaBook$Thing")))
theorem mtX6_find : pm_mt MX6_find 1 := ⟨by decide, pm_T_in (List.mem_of_getElem? (i := 431) (by decide +kernel)) rfl, pm_T_in (List.mem_of_getElem? (i := 53) (by decide +kernel)) rfl, ⟨by decide, by decide⟩, by decide +kernel, by decide⟩
theorem imX6_find : Cond.instanceMethod yX6_find ∈ pm_T := pm_T_in (List.mem_of_getElem? (i := 429) (by decide +kernel)) rfl
theorem ivX6_find : pm_iv MX6_find := ⟨imX6_find, pm_T_in (List.mem_of_getElem? (i := 430) (by decide +kernel)) rfl⟩
def MX9_isThere : pm_M := (yX9_isThere, cX9_isThere, 1, (some .boolean))
theorem mtX9_isThere : pm_mt MX9_isThere 0 := ⟨by decide, pm_T_in (List.mem_of_getElem? (i := 435) (by decide +kernel)) rfl, pm_T_in (List.mem_of_getElem? (i := 64) (by decide +kernel)) rfl, ⟨by decide, by decide⟩, by decide +kernel, by decide⟩
theorem imX9_isThere : Cond.instanceMethod yX9_isThere ∈ pm_T := pm_T_in (List.mem_of_getElem? (i := 433) (by decide +kernel)) rfl
theorem ivX9_isThere : pm_iv MX9_isThere := ⟨imX9_isThere, pm_T_in (List.mem_of_getElem? (i := 434) (by decide +kernel)) rfl⟩
def MX9_init_ : pm_M := (yX9_init_, cX9_init_, 5, none)
theorem mtX9_init_ : pm_mt MX9_init_ 4 := ⟨by decide, pm_T_in (List.mem_of_getElem? (i := 438) (by decide +kernel)) rfl, pm_T_in (List.mem_of_getElem? (i := 64) (by decide +kernel)) rfl, ⟨by decide, by decide⟩, by decide +kernel, by decide⟩
theorem imX9_init_ : Cond.instanceMethod yX9_init_ ∈ pm_T := pm_T_in (List.mem_of_getElem? (i := 437) (by decide +kernel)) rfl
def MX11_pass : pm_M := (yX11_pass, cX11_pass, 4, (some .boolean))
theorem mtX11_pass : pm_mt MX11_pass 2 := ⟨by decide, pm_T_in (List.mem_of_getElem? (i := 442) (by decide +kernel)) rfl, pm_T_in (List.mem_of_getElem? (i := 52) (by decide +kernel)) rfl, ⟨by decide, by decide⟩, by decide +kernel, by decide⟩
theorem imX11_pass : Cond.instanceMethod yX11_pass ∈ pm_T := pm_T_in (List.mem_of_getElem? (i := 440) (by decide +kernel)) rfl
theorem ivX11_pass : pm_iv MX11_pass := ⟨imX11_pass, pm_T_in (List.mem_of_getElem? (i := 441) (by decide +kernel)) rfl⟩
def MX11_findFreeFor : pm_M := (yX11_findFreeFor, cX11_findFreeFor, 4, (some (.object "TeaBook$Thing")))
theorem mtX11_findFreeFor : pm_mt MX11_findFreeFor 2 := ⟨by decide, pm_T_in (List.mem_of_getElem? (i := 446) (by decide +kernel)) rfl, pm_T_in (List.mem_of_getElem? (i := 52) (by decide +kernel)) rfl, ⟨by decide, by decide⟩, by decide +kernel, by decide⟩
theorem imX11_findFreeFor : Cond.instanceMethod yX11_findFreeFor ∈ pm_T := pm_T_in (List.mem_of_getElem? (i := 445) (by decide +kernel)) rfl
theorem ivX11_findFreeFor : pm_iv MX11_findFreeFor := ⟨imX11_findFreeFor, pm_T_in (List.mem_of_getElem? (i := 0) (by decide +kernel)) rfl⟩
def MX9_isLent : pm_M := (yX9_isLent, cX9_isLent, 1, (some .boolean))
theorem mtX9_isLent : pm_mt MX9_isLent 0 := ⟨by decide, pm_T_in (List.mem_of_getElem? (i := 450) (by decide +kernel)) rfl, pm_T_in (List.mem_of_getElem? (i := 64) (by decide +kernel)) rfl, ⟨by decide, by decide⟩, by decide +kernel, by decide⟩
theorem imX9_isLent : Cond.instanceMethod yX9_isLent ∈ pm_T := pm_T_in (List.mem_of_getElem? (i := 448) (by decide +kernel)) rfl
theorem ivX9_isLent : pm_iv MX9_isLent := ⟨imX9_isLent, pm_T_in (List.mem_of_getElem? (i := 449) (by decide +kernel)) rfl⟩
def MX9_owner : pm_M := (yX9_owner, cX9_owner, 1, (some .int))
theorem mtX9_owner : pm_mt MX9_owner 0 := ⟨by decide, pm_T_in (List.mem_of_getElem? (i := 454) (by decide +kernel)) rfl, pm_T_in (List.mem_of_getElem? (i := 64) (by decide +kernel)) rfl, ⟨by decide, by decide⟩, by decide +kernel, by decide⟩
theorem imX9_owner : Cond.instanceMethod yX9_owner ∈ pm_T := pm_T_in (List.mem_of_getElem? (i := 452) (by decide +kernel)) rfl
theorem ivX9_owner : pm_iv MX9_owner := ⟨imX9_owner, pm_T_in (List.mem_of_getElem? (i := 453) (by decide +kernel)) rfl⟩
def MX11_spendAct : pm_M := (yX11_spendAct, cX11_spendAct, 1, (some .boolean))
theorem mtX11_spendAct : pm_mt MX11_spendAct 0 := ⟨by decide, pm_T_in (List.mem_of_getElem? (i := 458) (by decide +kernel)) rfl, pm_T_in (List.mem_of_getElem? (i := 52) (by decide +kernel)) rfl, ⟨by decide, by decide⟩, by decide +kernel, by decide⟩
theorem imX11_spendAct : Cond.instanceMethod yX11_spendAct ∈ pm_T := pm_T_in (List.mem_of_getElem? (i := 457) (by decide +kernel)) rfl
theorem ivX11_spendAct : pm_iv MX11_spendAct := ⟨imX11_spendAct, pm_T_in (List.mem_of_getElem? (i := 1) (by decide +kernel)) rfl⟩
def MX9_goTo : pm_M := (yX9_goTo, cX9_goTo, 3, none)
theorem mtX9_goTo : pm_mt MX9_goTo 2 := ⟨by decide, pm_T_in (List.mem_of_getElem? (i := 462) (by decide +kernel)) rfl, pm_T_in (List.mem_of_getElem? (i := 64) (by decide +kernel)) rfl, ⟨by decide, by decide⟩, by decide +kernel, by decide⟩
theorem imX9_goTo : Cond.instanceMethod yX9_goTo ∈ pm_T := pm_T_in (List.mem_of_getElem? (i := 460) (by decide +kernel)) rfl
theorem ivX9_goTo : pm_iv MX9_goTo := ⟨imX9_goTo, pm_T_in (List.mem_of_getElem? (i := 461) (by decide +kernel)) rfl⟩
def MX0_init_ : pm_M := (yX0_init_, cX0_init_, 7, none)
theorem mtX0_init_ : pm_mt MX0_init_ 6 := ⟨by decide, pm_T_in (List.mem_of_getElem? (i := 466) (by decide +kernel)) rfl, pm_T_in (List.mem_of_getElem? (i := 63) (by decide +kernel)) rfl, ⟨by decide, by decide⟩, by decide +kernel, by decide⟩
theorem imX0_init_ : Cond.instanceMethod yX0_init_ ∈ pm_T := pm_T_in (List.mem_of_getElem? (i := 465) (by decide +kernel)) rfl
def MX11_lend : pm_M := (yX11_lend, cX11_lend, 4, (some .boolean))
theorem mtX11_lend : pm_mt MX11_lend 2 := ⟨by decide, pm_T_in (List.mem_of_getElem? (i := 470) (by decide +kernel)) rfl, pm_T_in (List.mem_of_getElem? (i := 52) (by decide +kernel)) rfl, ⟨by decide, by decide⟩, by decide +kernel, by decide⟩
theorem imX11_lend : Cond.instanceMethod yX11_lend ∈ pm_T := pm_T_in (List.mem_of_getElem? (i := 468) (by decide +kernel)) rfl
theorem ivX11_lend : pm_iv MX11_lend := ⟨imX11_lend, pm_T_in (List.mem_of_getElem? (i := 469) (by decide +kernel)) rfl⟩
def MX9_stayWith : pm_M := (yX9_stayWith, cX9_stayWith, 3, none)
theorem mtX9_stayWith : pm_mt MX9_stayWith 2 := ⟨by decide, pm_T_in (List.mem_of_getElem? (i := 474) (by decide +kernel)) rfl, pm_T_in (List.mem_of_getElem? (i := 64) (by decide +kernel)) rfl, ⟨by decide, by decide⟩, by decide +kernel, by decide⟩
theorem imX9_stayWith : Cond.instanceMethod yX9_stayWith ∈ pm_T := pm_T_in (List.mem_of_getElem? (i := 472) (by decide +kernel)) rfl
theorem ivX9_stayWith : pm_iv MX9_stayWith := ⟨imX9_stayWith, pm_T_in (List.mem_of_getElem? (i := 473) (by decide +kernel)) rfl⟩
def MX11_back : pm_M := (yX11_back, cX11_back, 3, (some .boolean))
theorem mtX11_back : pm_mt MX11_back 1 := ⟨by decide, pm_T_in (List.mem_of_getElem? (i := 478) (by decide +kernel)) rfl, pm_T_in (List.mem_of_getElem? (i := 52) (by decide +kernel)) rfl, ⟨by decide, by decide⟩, by decide +kernel, by decide⟩
theorem imX11_back : Cond.instanceMethod yX11_back ∈ pm_T := pm_T_in (List.mem_of_getElem? (i := 476) (by decide +kernel)) rfl
theorem ivX11_back : pm_iv MX11_back := ⟨imX11_back, pm_T_in (List.mem_of_getElem? (i := 477) (by decide +kernel)) rfl⟩
def MX11_burn : pm_M := (yX11_burn, cX11_burn, 3, (some .boolean))
theorem mtX11_burn : pm_mt MX11_burn 1 := ⟨by decide, pm_T_in (List.mem_of_getElem? (i := 482) (by decide +kernel)) rfl, pm_T_in (List.mem_of_getElem? (i := 52) (by decide +kernel)) rfl, ⟨by decide, by decide⟩, by decide +kernel, by decide⟩
theorem imX11_burn : Cond.instanceMethod yX11_burn ∈ pm_T := pm_T_in (List.mem_of_getElem? (i := 480) (by decide +kernel)) rfl
theorem ivX11_burn : pm_iv MX11_burn := ⟨imX11_burn, pm_T_in (List.mem_of_getElem? (i := 481) (by decide +kernel)) rfl⟩
def MX9_vanish : pm_M := (yX9_vanish, cX9_vanish, 2, none)
theorem mtX9_vanish : pm_mt MX9_vanish 1 := ⟨by decide, pm_T_in (List.mem_of_getElem? (i := 486) (by decide +kernel)) rfl, pm_T_in (List.mem_of_getElem? (i := 64) (by decide +kernel)) rfl, ⟨by decide, by decide⟩, by decide +kernel, by decide⟩
theorem imX9_vanish : Cond.instanceMethod yX9_vanish ∈ pm_T := pm_T_in (List.mem_of_getElem? (i := 484) (by decide +kernel)) rfl
theorem ivX9_vanish : pm_iv MX9_vanish := ⟨imX9_vanish, pm_T_in (List.mem_of_getElem? (i := 485) (by decide +kernel)) rfl⟩
def MX11_days : pm_M := (yX11_days, cX11_days, 2, (some .int))
theorem mtX11_days : pm_mt MX11_days 1 := ⟨by decide, pm_T_in (List.mem_of_getElem? (i := 490) (by decide +kernel)) rfl, pm_T_in (List.mem_of_getElem? (i := 52) (by decide +kernel)) rfl, ⟨by decide, by decide⟩, by decide +kernel, by decide⟩
theorem imX11_days : Cond.instanceMethod yX11_days ∈ pm_T := pm_T_in (List.mem_of_getElem? (i := 488) (by decide +kernel)) rfl
theorem ivX11_days : pm_iv MX11_days := ⟨imX11_days, pm_T_in (List.mem_of_getElem? (i := 489) (by decide +kernel)) rfl⟩
def MX11_look : pm_M := (yX11_look, cX11_look, 2, (some .int))
theorem mtX11_look : pm_mt MX11_look 1 := ⟨by decide, pm_T_in (List.mem_of_getElem? (i := 494) (by decide +kernel)) rfl, pm_T_in (List.mem_of_getElem? (i := 52) (by decide +kernel)) rfl, ⟨by decide, by decide⟩, by decide +kernel, by decide⟩
theorem imX11_look : Cond.instanceMethod yX11_look ∈ pm_T := pm_T_in (List.mem_of_getElem? (i := 492) (by decide +kernel)) rfl
theorem ivX11_look : pm_iv MX11_look := ⟨imX11_look, pm_T_in (List.mem_of_getElem? (i := 493) (by decide +kernel)) rfl⟩
def MX6_countThere : pm_M := (yX6_countThere, cX6_countThere, 3, (some .int))
theorem mtX6_countThere : pm_mt MX6_countThere 0 := ⟨by decide, pm_T_in (List.mem_of_getElem? (i := 498) (by decide +kernel)) rfl, pm_T_in (List.mem_of_getElem? (i := 53) (by decide +kernel)) rfl, ⟨by decide, by decide⟩, by decide +kernel, by decide⟩
theorem imX6_countThere : Cond.instanceMethod yX6_countThere ∈ pm_T := pm_T_in (List.mem_of_getElem? (i := 496) (by decide +kernel)) rfl
theorem ivX6_countThere : pm_iv MX6_countThere := ⟨imX6_countThere, pm_T_in (List.mem_of_getElem? (i := 497) (by decide +kernel)) rfl⟩
def MX3_count : pm_M := (yX3_count, cX3_count, 1, (some .int))
theorem mtX3_count : pm_mt MX3_count 0 := ⟨by decide, pm_T_in (List.mem_of_getElem? (i := 503) (by decide +kernel)) rfl, pm_T_in (List.mem_of_getElem? (i := 54) (by decide +kernel)) rfl, ⟨by decide, by decide⟩, by decide +kernel, by decide⟩
theorem imX3_count : Cond.instanceMethod yX3_count ∈ pm_T := pm_T_in (List.mem_of_getElem? (i := 501) (by decide +kernel)) rfl
theorem ivX3_count : pm_iv MX3_count := ⟨imX3_count, pm_T_in (List.mem_of_getElem? (i := 502) (by decide +kernel)) rfl⟩
def MX4_count : pm_M := (yX4_count, cX4_count, 1, (some .int))
theorem mtX4_count : pm_mt MX4_count 0 := ⟨by decide, pm_T_in (List.mem_of_getElem? (i := 507) (by decide +kernel)) rfl, pm_T_in (List.mem_of_getElem? (i := 56) (by decide +kernel)) rfl, ⟨by decide, by decide⟩, by decide +kernel, by decide⟩
theorem imX4_count : Cond.instanceMethod yX4_count ∈ pm_T := pm_T_in (List.mem_of_getElem? (i := 505) (by decide +kernel)) rfl
theorem ivX4_count : pm_iv MX4_count := ⟨imX4_count, pm_T_in (List.mem_of_getElem? (i := 506) (by decide +kernel)) rfl⟩
def MX11_of : pm_M := (yX11_of, cX11_of, 4, (some .int))
theorem mtX11_of : pm_mt MX11_of 2 := ⟨by decide, pm_T_in (List.mem_of_getElem? (i := 511) (by decide +kernel)) rfl, pm_T_in (List.mem_of_getElem? (i := 52) (by decide +kernel)) rfl, ⟨by decide, by decide⟩, by decide +kernel, by decide⟩
theorem imX11_of : Cond.instanceMethod yX11_of ∈ pm_T := pm_T_in (List.mem_of_getElem? (i := 509) (by decide +kernel)) rfl
theorem ivX11_of : pm_iv MX11_of := ⟨imX11_of, pm_T_in (List.mem_of_getElem? (i := 510) (by decide +kernel)) rfl⟩
def MX6_isInDoubt : pm_M := (yX6_isInDoubt, cX6_isInDoubt, 4, (some .boolean))
theorem mtX6_isInDoubt : pm_mt MX6_isInDoubt 1 := ⟨by decide, pm_T_in (List.mem_of_getElem? (i := 517) (by decide +kernel)) rfl, pm_T_in (List.mem_of_getElem? (i := 53) (by decide +kernel)) rfl, ⟨by decide, by decide⟩, by decide +kernel, by decide⟩
theorem imX6_isInDoubt : Cond.instanceMethod yX6_isInDoubt ∈ pm_T := pm_T_in (List.mem_of_getElem? (i := 515) (by decide +kernel)) rfl
theorem ivX6_isInDoubt : pm_iv MX6_isInDoubt := ⟨imX6_isInDoubt, pm_T_in (List.mem_of_getElem? (i := 516) (by decide +kernel)) rfl⟩
def MX9_keeper : pm_M := (yX9_keeper, cX9_keeper, 1, (some .int))
theorem mtX9_keeper : pm_mt MX9_keeper 0 := ⟨by decide, pm_T_in (List.mem_of_getElem? (i := 521) (by decide +kernel)) rfl, pm_T_in (List.mem_of_getElem? (i := 64) (by decide +kernel)) rfl, ⟨by decide, by decide⟩, by decide +kernel, by decide⟩
theorem imX9_keeper : Cond.instanceMethod yX9_keeper ∈ pm_T := pm_T_in (List.mem_of_getElem? (i := 519) (by decide +kernel)) rfl
theorem ivX9_keeper : pm_iv MX9_keeper := ⟨imX9_keeper, pm_T_in (List.mem_of_getElem? (i := 520) (by decide +kernel)) rfl⟩
def MX11_held : pm_M := (yX11_held, cX11_held, 6, (some .int))
theorem mtX11_held : pm_mt MX11_held 3 := ⟨by decide, pm_T_in (List.mem_of_getElem? (i := 525) (by decide +kernel)) rfl, pm_T_in (List.mem_of_getElem? (i := 52) (by decide +kernel)) rfl, ⟨by decide, by decide⟩, by decide +kernel, by decide⟩
theorem imX11_held : Cond.instanceMethod yX11_held ∈ pm_T := pm_T_in (List.mem_of_getElem? (i := 523) (by decide +kernel)) rfl
theorem ivX11_held : pm_iv MX11_held := ⟨imX11_held, pm_T_in (List.mem_of_getElem? (i := 524) (by decide +kernel)) rfl⟩
def MX9_latestUpTo : pm_M := (yX9_latestUpTo, cX9_latestUpTo, 3, (some (.object "TeaBook$Act")))
theorem mtX9_latestUpTo : pm_mt MX9_latestUpTo 1 := ⟨by decide, pm_T_in (List.mem_of_getElem? (i := 529) (by decide +kernel)) rfl, pm_T_in (List.mem_of_getElem? (i := 64) (by decide +kernel)) rfl, ⟨by decide, by decide⟩, by decide +kernel, by decide⟩
theorem imX9_latestUpTo : Cond.instanceMethod yX9_latestUpTo ∈ pm_T := pm_T_in (List.mem_of_getElem? (i := 527) (by decide +kernel)) rfl
theorem ivX9_latestUpTo : pm_iv MX9_latestUpTo := ⟨imX9_latestUpTo, pm_T_in (List.mem_of_getElem? (i := 528) (by decide +kernel)) rfl⟩
def MX11_owners : pm_M := (yX11_owners, cX11_owners, 4, (some .int))
theorem mtX11_owners : pm_mt MX11_owners 2 := ⟨by decide, pm_T_in (List.mem_of_getElem? (i := 533) (by decide +kernel)) rfl, pm_T_in (List.mem_of_getElem? (i := 52) (by decide +kernel)) rfl, ⟨by decide, by decide⟩, by decide +kernel, by decide⟩
theorem imX11_owners : Cond.instanceMethod yX11_owners ∈ pm_T := pm_T_in (List.mem_of_getElem? (i := 531) (by decide +kernel)) rfl
theorem ivX11_owners : pm_iv MX11_owners := ⟨imX11_owners, pm_T_in (List.mem_of_getElem? (i := 532) (by decide +kernel)) rfl⟩
def MX9_countOwners : pm_M := (yX9_countOwners, cX9_countOwners, 1, (some .int))
theorem mtX9_countOwners : pm_mt MX9_countOwners 0 := ⟨by decide, pm_T_in (List.mem_of_getElem? (i := 537) (by decide +kernel)) rfl, pm_T_in (List.mem_of_getElem? (i := 64) (by decide +kernel)) rfl, ⟨by decide, by decide⟩, by decide +kernel, by decide⟩
theorem imX9_countOwners : Cond.instanceMethod yX9_countOwners ∈ pm_T := pm_T_in (List.mem_of_getElem? (i := 535) (by decide +kernel)) rfl
theorem ivX9_countOwners : pm_iv MX9_countOwners := ⟨imX9_countOwners, pm_T_in (List.mem_of_getElem? (i := 536) (by decide +kernel)) rfl⟩
def MX9_ownerAt : pm_M := (yX9_ownerAt, cX9_ownerAt, 3, (some .int))
theorem mtX9_ownerAt : pm_mt MX9_ownerAt 1 := ⟨by decide, pm_T_in (List.mem_of_getElem? (i := 541) (by decide +kernel)) rfl, pm_T_in (List.mem_of_getElem? (i := 64) (by decide +kernel)) rfl, ⟨by decide, by decide⟩, by decide +kernel, by decide⟩
theorem imX9_ownerAt : Cond.instanceMethod yX9_ownerAt ∈ pm_T := pm_T_in (List.mem_of_getElem? (i := 539) (by decide +kernel)) rfl
theorem ivX9_ownerAt : pm_iv MX9_ownerAt := ⟨imX9_ownerAt, pm_T_in (List.mem_of_getElem? (i := 540) (by decide +kernel)) rfl⟩
def MX11_gather : pm_M := (yX11_gather, cX11_gather, 5, (some .int))
theorem mtX11_gather : pm_mt MX11_gather 4 := ⟨by decide, pm_T_in (List.mem_of_getElem? (i := 545) (by decide +kernel)) rfl, pm_T_in (List.mem_of_getElem? (i := 52) (by decide +kernel)) rfl, ⟨by decide, by decide⟩, by decide +kernel, by decide⟩
theorem imX11_gather : Cond.instanceMethod yX11_gather ∈ pm_T := pm_T_in (List.mem_of_getElem? (i := 543) (by decide +kernel)) rfl
theorem ivX11_gather : pm_iv MX11_gather := ⟨imX11_gather, pm_T_in (List.mem_of_getElem? (i := 544) (by decide +kernel)) rfl⟩
def MX11_isSeason : pm_M := (yX11_isSeason, cX11_isSeason, 1, (some .boolean))
theorem mtX11_isSeason : pm_mt MX11_isSeason 1 := ⟨by decide, pm_T_in (List.mem_of_getElem? (i := 548) (by decide +kernel)) rfl, pm_T_in (List.mem_of_getElem? (i := 52) (by decide +kernel)) rfl, ⟨by decide, by decide⟩, by decide +kernel, by decide⟩
theorem stX11_isSeason : Cond.static yX11_isSeason ∈ pm_T := pm_T_in (List.mem_of_getElem? (i := 547) (by decide +kernel)) rfl
def MX11_isGuests : pm_M := (yX11_isGuests, cX11_isGuests, 1, (some .boolean))
theorem mtX11_isGuests : pm_mt MX11_isGuests 1 := ⟨by decide, pm_T_in (List.mem_of_getElem? (i := 551) (by decide +kernel)) rfl, pm_T_in (List.mem_of_getElem? (i := 52) (by decide +kernel)) rfl, ⟨by decide, by decide⟩, by decide +kernel, by decide⟩
theorem stX11_isGuests : Cond.static yX11_isGuests ∈ pm_T := pm_T_in (List.mem_of_getElem? (i := 550) (by decide +kernel)) rfl
def MX3_isFull : pm_M := (yX3_isFull, cX3_isFull, 1, (some .boolean))
theorem mtX3_isFull : pm_mt MX3_isFull 0 := ⟨by decide, pm_T_in (List.mem_of_getElem? (i := 555) (by decide +kernel)) rfl, pm_T_in (List.mem_of_getElem? (i := 54) (by decide +kernel)) rfl, ⟨by decide, by decide⟩, by decide +kernel, by decide⟩
theorem imX3_isFull : Cond.instanceMethod yX3_isFull ∈ pm_T := pm_T_in (List.mem_of_getElem? (i := 553) (by decide +kernel)) rfl
theorem ivX3_isFull : pm_iv MX3_isFull := ⟨imX3_isFull, pm_T_in (List.mem_of_getElem? (i := 554) (by decide +kernel)) rfl⟩
def MX8_read : pm_M := (yX8_read, cX8_read, 5, (some .boolean))
theorem mtX8_read : pm_mt MX8_read 2 := ⟨by decide, pm_T_in (List.mem_of_getElem? (i := 559) (by decide +kernel)) rfl, pm_T_in (List.mem_of_getElem? (i := 59) (by decide +kernel)) rfl, ⟨by decide, by decide⟩, by decide +kernel, by decide⟩
theorem imX8_read : Cond.instanceMethod yX8_read ∈ pm_T := pm_T_in (List.mem_of_getElem? (i := 557) (by decide +kernel)) rfl
theorem ivX8_read : pm_iv MX8_read := ⟨imX8_read, pm_T_in (List.mem_of_getElem? (i := 558) (by decide +kernel)) rfl⟩
def MX8_clear : pm_M := (yX8_clear, cX8_clear, 2, none)
theorem mtX8_clear : pm_mt MX8_clear 0 := ⟨by decide, pm_T_in (List.mem_of_getElem? (i := 563) (by decide +kernel)) rfl, pm_T_in (List.mem_of_getElem? (i := 59) (by decide +kernel)) rfl, ⟨by decide, by decide⟩, by decide +kernel, by decide⟩
theorem imX8_clear : Cond.instanceMethod yX8_clear ∈ pm_T := pm_T_in (List.mem_of_getElem? (i := 561) (by decide +kernel)) rfl
theorem ivX8_clear : pm_iv MX8_clear := ⟨imX8_clear, pm_T_in (List.mem_of_getElem? (i := 562) (by decide +kernel)) rfl⟩
def MX8_at : pm_M := (yX8_at, cX8_at, 2, (some (.object "TeaBook$Thing")))
theorem mtX8_at : pm_mt MX8_at 1 := ⟨by decide, pm_T_in (List.mem_of_getElem? (i := 569) (by decide +kernel)) rfl, pm_T_in (List.mem_of_getElem? (i := 59) (by decide +kernel)) rfl, ⟨by decide, by decide⟩, by decide +kernel, by decide⟩
theorem imX8_at : Cond.instanceMethod yX8_at ∈ pm_T := pm_T_in (List.mem_of_getElem? (i := 567) (by decide +kernel)) rfl
theorem ivX8_at : pm_iv MX8_at := ⟨imX8_at, pm_T_in (List.mem_of_getElem? (i := 568) (by decide +kernel)) rfl⟩
def MX8_lay : pm_M := (yX8_lay, cX8_lay, 3, none)
theorem mtX8_lay : pm_mt MX8_lay 2 := ⟨by decide, pm_T_in (List.mem_of_getElem? (i := 573) (by decide +kernel)) rfl, pm_T_in (List.mem_of_getElem? (i := 59) (by decide +kernel)) rfl, ⟨by decide, by decide⟩, by decide +kernel, by decide⟩
theorem imX8_lay : Cond.instanceMethod yX8_lay ∈ pm_T := pm_T_in (List.mem_of_getElem? (i := 571) (by decide +kernel)) rfl
theorem ivX8_lay : pm_iv MX8_lay := ⟨imX8_lay, pm_T_in (List.mem_of_getElem? (i := 572) (by decide +kernel)) rfl⟩
def MX8_isAllKeptBy : pm_M := (yX8_isAllKeptBy, cX8_isAllKeptBy, 4, (some .boolean))
theorem mtX8_isAllKeptBy : pm_mt MX8_isAllKeptBy 1 := ⟨by decide, pm_T_in (List.mem_of_getElem? (i := 577) (by decide +kernel)) rfl, pm_T_in (List.mem_of_getElem? (i := 59) (by decide +kernel)) rfl, ⟨by decide, by decide⟩, by decide +kernel, by decide⟩
theorem imX8_isAllKeptBy : Cond.instanceMethod yX8_isAllKeptBy ∈ pm_T := pm_T_in (List.mem_of_getElem? (i := 575) (by decide +kernel)) rfl
theorem ivX8_isAllKeptBy : pm_iv MX8_isAllKeptBy := ⟨imX8_isAllKeptBy, pm_T_in (List.mem_of_getElem? (i := 576) (by decide +kernel)) rfl⟩
def MX3_put : pm_M := (yX3_put, cX3_put, 6, (some .int))
theorem mtX3_put : pm_mt MX3_put 5 := ⟨by decide, pm_T_in (List.mem_of_getElem? (i := 583) (by decide +kernel)) rfl, pm_T_in (List.mem_of_getElem? (i := 54) (by decide +kernel)) rfl, ⟨by decide, by decide⟩, by decide +kernel, by decide⟩
theorem imX3_put : Cond.instanceMethod yX3_put ∈ pm_T := pm_T_in (List.mem_of_getElem? (i := 581) (by decide +kernel)) rfl
theorem ivX3_put : pm_iv MX3_put := ⟨imX3_put, pm_T_in (List.mem_of_getElem? (i := 582) (by decide +kernel)) rfl⟩
def MX8_bits : pm_M := (yX8_bits, cX8_bits, 4, (some .int))
theorem mtX8_bits : pm_mt MX8_bits 0 := ⟨by decide, pm_T_in (List.mem_of_getElem? (i := 588) (by decide +kernel)) rfl, pm_T_in (List.mem_of_getElem? (i := 59) (by decide +kernel)) rfl, ⟨by decide, by decide⟩, by decide +kernel, by decide⟩
theorem imX8_bits : Cond.instanceMethod yX8_bits ∈ pm_T := pm_T_in (List.mem_of_getElem? (i := 586) (by decide +kernel)) rfl
theorem ivX8_bits : pm_iv MX8_bits := ⟨imX8_bits, pm_T_in (List.mem_of_getElem? (i := 587) (by decide +kernel)) rfl⟩
def MX3_showPairs : pm_M := (yX3_showPairs, cX3_showPairs, 6, none)
theorem mtX3_showPairs : pm_mt MX3_showPairs 2 := ⟨by decide, pm_T_in (List.mem_of_getElem? (i := 592) (by decide +kernel)) rfl, pm_T_in (List.mem_of_getElem? (i := 54) (by decide +kernel)) rfl, ⟨by decide, by decide⟩, by decide +kernel, by decide⟩
theorem imX3_showPairs : Cond.instanceMethod yX3_showPairs ∈ pm_T := pm_T_in (List.mem_of_getElem? (i := 591) (by decide +kernel)) rfl
theorem ivX3_showPairs : pm_iv MX3_showPairs := ⟨imX3_showPairs, pm_T_in (List.mem_of_getElem? (i := 2) (by decide +kernel)) rfl⟩
def MX3_pairOf : pm_M := (yX3_pairOf, cX3_pairOf, 2, (some .int))
theorem mtX3_pairOf : pm_mt MX3_pairOf 2 := ⟨by decide, pm_T_in (List.mem_of_getElem? (i := 596) (by decide +kernel)) rfl, pm_T_in (List.mem_of_getElem? (i := 54) (by decide +kernel)) rfl, ⟨by decide, by decide⟩, by decide +kernel, by decide⟩
theorem stX3_pairOf : Cond.static yX3_pairOf ∈ pm_T := pm_T_in (List.mem_of_getElem? (i := 595) (by decide +kernel)) rfl
def MX11_gathering : pm_M := (yX11_gathering, cX11_gathering, 3, (some .int))
theorem mtX11_gathering : pm_mt MX11_gathering 2 := ⟨by decide, pm_T_in (List.mem_of_getElem? (i := 600) (by decide +kernel)) rfl, pm_T_in (List.mem_of_getElem? (i := 52) (by decide +kernel)) rfl, ⟨by decide, by decide⟩, by decide +kernel, by decide⟩
theorem imX11_gathering : Cond.instanceMethod yX11_gathering ∈ pm_T := pm_T_in (List.mem_of_getElem? (i := 598) (by decide +kernel)) rfl
theorem ivX11_gathering : pm_iv MX11_gathering := ⟨imX11_gathering, pm_T_in (List.mem_of_getElem? (i := 599) (by decide +kernel)) rfl⟩
def MX3_tell : pm_M := (yX3_tell, cX3_tell, 3, (some .int))
theorem mtX3_tell : pm_mt MX3_tell 2 := ⟨by decide, pm_T_in (List.mem_of_getElem? (i := 604) (by decide +kernel)) rfl, pm_T_in (List.mem_of_getElem? (i := 54) (by decide +kernel)) rfl, ⟨by decide, by decide⟩, by decide +kernel, by decide⟩
theorem imX3_tell : Cond.instanceMethod yX3_tell ∈ pm_T := pm_T_in (List.mem_of_getElem? (i := 602) (by decide +kernel)) rfl
theorem ivX3_tell : pm_iv MX3_tell := ⟨imX3_tell, pm_T_in (List.mem_of_getElem? (i := 603) (by decide +kernel)) rfl⟩
def MX11_seen : pm_M := (yX11_seen, cX11_seen, 4, (some .int))
theorem mtX11_seen : pm_mt MX11_seen 3 := ⟨by decide, pm_T_in (List.mem_of_getElem? (i := 608) (by decide +kernel)) rfl, pm_T_in (List.mem_of_getElem? (i := 52) (by decide +kernel)) rfl, ⟨by decide, by decide⟩, by decide +kernel, by decide⟩
theorem imX11_seen : Cond.instanceMethod yX11_seen ∈ pm_T := pm_T_in (List.mem_of_getElem? (i := 606) (by decide +kernel)) rfl
theorem ivX11_seen : pm_iv MX11_seen := ⟨imX11_seen, pm_T_in (List.mem_of_getElem? (i := 607) (by decide +kernel)) rfl⟩
def MX3_countWith : pm_M := (yX3_countWith, cX3_countWith, 5, (some .int))
theorem mtX3_countWith : pm_mt MX3_countWith 2 := ⟨by decide, pm_T_in (List.mem_of_getElem? (i := 612) (by decide +kernel)) rfl, pm_T_in (List.mem_of_getElem? (i := 54) (by decide +kernel)) rfl, ⟨by decide, by decide⟩, by decide +kernel, by decide⟩
theorem imX3_countWith : Cond.instanceMethod yX3_countWith ∈ pm_T := pm_T_in (List.mem_of_getElem? (i := 610) (by decide +kernel)) rfl
theorem ivX3_countWith : pm_iv MX3_countWith := ⟨imX3_countWith, pm_T_in (List.mem_of_getElem? (i := 611) (by decide +kernel)) rfl⟩
def MX11_again : pm_M := (yX11_again, cX11_again, 3, (some .int))
theorem mtX11_again : pm_mt MX11_again 2 := ⟨by decide, pm_T_in (List.mem_of_getElem? (i := 616) (by decide +kernel)) rfl, pm_T_in (List.mem_of_getElem? (i := 52) (by decide +kernel)) rfl, ⟨by decide, by decide⟩, by decide +kernel, by decide⟩
theorem imX11_again : Cond.instanceMethod yX11_again ∈ pm_T := pm_T_in (List.mem_of_getElem? (i := 614) (by decide +kernel)) rfl
theorem ivX11_again : pm_iv MX11_again := ⟨imX11_again, pm_T_in (List.mem_of_getElem? (i := 615) (by decide +kernel)) rfl⟩
def MX3_sumAgain : pm_M := (yX3_sumAgain, cX3_sumAgain, 3, (some .int))
theorem mtX3_sumAgain : pm_mt MX3_sumAgain 2 := ⟨by decide, pm_T_in (List.mem_of_getElem? (i := 620) (by decide +kernel)) rfl, pm_T_in (List.mem_of_getElem? (i := 54) (by decide +kernel)) rfl, ⟨by decide, by decide⟩, by decide +kernel, by decide⟩
theorem imX3_sumAgain : Cond.instanceMethod yX3_sumAgain ∈ pm_T := pm_T_in (List.mem_of_getElem? (i := 618) (by decide +kernel)) rfl
theorem ivX3_sumAgain : pm_iv MX3_sumAgain := ⟨imX3_sumAgain, pm_T_in (List.mem_of_getElem? (i := 619) (by decide +kernel)) rfl⟩
def MX3_sumPairs : pm_M := (yX3_sumPairs, cX3_sumPairs, 7, (some .int))
theorem mtX3_sumPairs : pm_mt MX3_sumPairs 2 := ⟨by decide, pm_T_in (List.mem_of_getElem? (i := 624) (by decide +kernel)) rfl, pm_T_in (List.mem_of_getElem? (i := 54) (by decide +kernel)) rfl, ⟨by decide, by decide⟩, by decide +kernel, by decide⟩
theorem imX3_sumPairs : Cond.instanceMethod yX3_sumPairs ∈ pm_T := pm_T_in (List.mem_of_getElem? (i := 623) (by decide +kernel)) rfl
theorem ivX3_sumPairs : pm_iv MX3_sumPairs := ⟨imX3_sumPairs, pm_T_in (List.mem_of_getElem? (i := 3) (by decide +kernel)) rfl⟩
def MJ6_bitCount_0f7a4 : pm_M := (yJ6_bitCount_0f7a4, cJ6_bitCount_0f7a4, 1, (some .int))
theorem mtJ6_bitCount_0f7a4 : pm_mt MJ6_bitCount_0f7a4 1 := ⟨by decide, pm_T_in (List.mem_of_getElem? (i := 627) (by decide +kernel)) rfl, pm_T_in (List.mem_of_getElem? (i := 65) (by decide +kernel)) rfl, ⟨by decide, by decide⟩, by decide +kernel, by decide⟩
theorem stJ6_bitCount_0f7a4 : Cond.static yJ6_bitCount_0f7a4 ∈ pm_T := pm_T_in (List.mem_of_getElem? (i := 626) (by decide +kernel)) rfl
def MX3_countSame : pm_M := (yX3_countSame, cX3_countSame, 5, (some .int))
theorem mtX3_countSame : pm_mt MX3_countSame 2 := ⟨by decide, pm_T_in (List.mem_of_getElem? (i := 634) (by decide +kernel)) rfl, pm_T_in (List.mem_of_getElem? (i := 54) (by decide +kernel)) rfl, ⟨by decide, by decide⟩, by decide +kernel, by decide⟩
theorem imX3_countSame : Cond.instanceMethod yX3_countSame ∈ pm_T := pm_T_in (List.mem_of_getElem? (i := 633) (by decide +kernel)) rfl
theorem ivX3_countSame : pm_iv MX3_countSame := ⟨imX3_countSame, pm_T_in (List.mem_of_getElem? (i := 4) (by decide +kernel)) rfl⟩
def MX11_feed : pm_M := (yX11_feed, cX11_feed, 6, (some .int))
theorem mtX11_feed : pm_mt MX11_feed 5 := ⟨by decide, pm_T_in (List.mem_of_getElem? (i := 638) (by decide +kernel)) rfl, pm_T_in (List.mem_of_getElem? (i := 52) (by decide +kernel)) rfl, ⟨by decide, by decide⟩, by decide +kernel, by decide⟩
theorem imX11_feed : Cond.instanceMethod yX11_feed ∈ pm_T := pm_T_in (List.mem_of_getElem? (i := 636) (by decide +kernel)) rfl
theorem ivX11_feed : pm_iv MX11_feed := ⟨imX11_feed, pm_T_in (List.mem_of_getElem? (i := 637) (by decide +kernel)) rfl⟩
def MX7_hasRoomFor : pm_M := (yX7_hasRoomFor, cX7_hasRoomFor, 2, (some .boolean))
theorem mtX7_hasRoomFor : pm_mt MX7_hasRoomFor 1 := ⟨by decide, pm_T_in (List.mem_of_getElem? (i := 642) (by decide +kernel)) rfl, pm_T_in (List.mem_of_getElem? (i := 55) (by decide +kernel)) rfl, ⟨by decide, by decide⟩, by decide +kernel, by decide⟩
theorem imX7_hasRoomFor : Cond.instanceMethod yX7_hasRoomFor ∈ pm_T := pm_T_in (List.mem_of_getElem? (i := 640) (by decide +kernel)) rfl
theorem ivX7_hasRoomFor : pm_iv MX7_hasRoomFor := ⟨imX7_hasRoomFor, pm_T_in (List.mem_of_getElem? (i := 641) (by decide +kernel)) rfl⟩
def MX7_append : pm_M := (yX7_append, cX7_append, 2, none)
theorem mtX7_append : pm_mt MX7_append 1 := ⟨by decide, pm_T_in (List.mem_of_getElem? (i := 646) (by decide +kernel)) rfl, pm_T_in (List.mem_of_getElem? (i := 55) (by decide +kernel)) rfl, ⟨by decide, by decide⟩, by decide +kernel, by decide⟩
theorem imX7_append : Cond.instanceMethod yX7_append ∈ pm_T := pm_T_in (List.mem_of_getElem? (i := 644) (by decide +kernel)) rfl
theorem ivX7_append : pm_iv MX7_append := ⟨imX7_append, pm_T_in (List.mem_of_getElem? (i := 645) (by decide +kernel)) rfl⟩
def MX7_length : pm_M := (yX7_length, cX7_length, 1, (some .int))
theorem mtX7_length : pm_mt MX7_length 0 := ⟨by decide, pm_T_in (List.mem_of_getElem? (i := 651) (by decide +kernel)) rfl, pm_T_in (List.mem_of_getElem? (i := 55) (by decide +kernel)) rfl, ⟨by decide, by decide⟩, by decide +kernel, by decide⟩
theorem imX7_length : Cond.instanceMethod yX7_length ∈ pm_T := pm_T_in (List.mem_of_getElem? (i := 649) (by decide +kernel)) rfl
theorem ivX7_length : pm_iv MX7_length := ⟨imX7_length, pm_T_in (List.mem_of_getElem? (i := 650) (by decide +kernel)) rfl⟩
def MX11_end : pm_M := (yX11_end, cX11_end, 2, (some .boolean))
theorem mtX11_end : pm_mt MX11_end 1 := ⟨by decide, pm_T_in (List.mem_of_getElem? (i := 655) (by decide +kernel)) rfl, pm_T_in (List.mem_of_getElem? (i := 52) (by decide +kernel)) rfl, ⟨by decide, by decide⟩, by decide +kernel, by decide⟩
theorem imX11_end : Cond.instanceMethod yX11_end ∈ pm_T := pm_T_in (List.mem_of_getElem? (i := 653) (by decide +kernel)) rfl
theorem ivX11_end : pm_iv MX11_end := ⟨imX11_end, pm_T_in (List.mem_of_getElem? (i := 654) (by decide +kernel)) rfl⟩
def MX7_cut : pm_M := (yX7_cut, cX7_cut, 2, none)
theorem mtX7_cut : pm_mt MX7_cut 1 := ⟨by decide, pm_T_in (List.mem_of_getElem? (i := 659) (by decide +kernel)) rfl, pm_T_in (List.mem_of_getElem? (i := 55) (by decide +kernel)) rfl, ⟨by decide, by decide⟩, by decide +kernel, by decide⟩
theorem imX7_cut : Cond.instanceMethod yX7_cut ∈ pm_T := pm_T_in (List.mem_of_getElem? (i := 657) (by decide +kernel)) rfl
theorem ivX7_cut : pm_iv MX7_cut := ⟨imX7_cut, pm_T_in (List.mem_of_getElem? (i := 658) (by decide +kernel)) rfl⟩
def MX11_rules : pm_M := (yX11_rules, cX11_rules, 3, (some .int))
theorem mtX11_rules : pm_mt MX11_rules 0 := ⟨by decide, pm_T_in (List.mem_of_getElem? (i := 663) (by decide +kernel)) rfl, pm_T_in (List.mem_of_getElem? (i := 52) (by decide +kernel)) rfl, ⟨by decide, by decide⟩, by decide +kernel, by decide⟩
theorem imX11_rules : Cond.instanceMethod yX11_rules ∈ pm_T := pm_T_in (List.mem_of_getElem? (i := 661) (by decide +kernel)) rfl
theorem ivX11_rules : pm_iv MX11_rules := ⟨imX11_rules, pm_T_in (List.mem_of_getElem? (i := 662) (by decide +kernel)) rfl⟩
def MX5_readInto : pm_M := (yX5_readInto, cX5_readInto, 3, (some .boolean))
theorem mtX5_readInto : pm_mt MX5_readInto 1 := ⟨by decide, pm_T_in (List.mem_of_getElem? (i := 667) (by decide +kernel)) rfl, pm_T_in (List.mem_of_getElem? (i := 57) (by decide +kernel)) rfl, ⟨by decide, by decide⟩, by decide +kernel, by decide⟩
theorem imX5_readInto : Cond.instanceMethod yX5_readInto ∈ pm_T := pm_T_in (List.mem_of_getElem? (i := 665) (by decide +kernel)) rfl
theorem ivX5_readInto : pm_iv MX5_readInto := ⟨imX5_readInto, pm_T_in (List.mem_of_getElem? (i := 666) (by decide +kernel)) rfl⟩
def MX4_clear : pm_M := (yX4_clear, cX4_clear, 1, none)
theorem mtX4_clear : pm_mt MX4_clear 0 := ⟨by decide, pm_T_in (List.mem_of_getElem? (i := 671) (by decide +kernel)) rfl, pm_T_in (List.mem_of_getElem? (i := 56) (by decide +kernel)) rfl, ⟨by decide, by decide⟩, by decide +kernel, by decide⟩
theorem imX4_clear : Cond.instanceMethod yX4_clear ∈ pm_T := pm_T_in (List.mem_of_getElem? (i := 669) (by decide +kernel)) rfl
theorem ivX4_clear : pm_iv MX4_clear := ⟨imX4_clear, pm_T_in (List.mem_of_getElem? (i := 670) (by decide +kernel)) rfl⟩
def MX10_cutTape : pm_M := (yX10_cutTape, cX10_cutTape, 5, none)
theorem mtX10_cutTape : pm_mt MX10_cutTape 0 := ⟨by decide, pm_T_in (List.mem_of_getElem? (i := 675) (by decide +kernel)) rfl, pm_T_in (List.mem_of_getElem? (i := 58) (by decide +kernel)) rfl, ⟨by decide, by decide⟩, by decide +kernel, by decide⟩
theorem imX10_cutTape : Cond.instanceMethod yX10_cutTape ∈ pm_T := pm_T_in (List.mem_of_getElem? (i := 673) (by decide +kernel)) rfl
theorem ivX10_cutTape : pm_iv MX10_cutTape := ⟨imX10_cutTape, pm_T_in (List.mem_of_getElem? (i := 674) (by decide +kernel)) rfl⟩
def MX7_at : pm_M := (yX7_at, cX7_at, 2, (some .int))
theorem mtX7_at : pm_mt MX7_at 1 := ⟨by decide, pm_T_in (List.mem_of_getElem? (i := 680) (by decide +kernel)) rfl, pm_T_in (List.mem_of_getElem? (i := 55) (by decide +kernel)) rfl, ⟨by decide, by decide⟩, by decide +kernel, by decide⟩
theorem imX7_at : Cond.instanceMethod yX7_at ∈ pm_T := pm_T_in (List.mem_of_getElem? (i := 678) (by decide +kernel)) rfl
theorem ivX7_at : pm_iv MX7_at := ⟨imX7_at, pm_T_in (List.mem_of_getElem? (i := 679) (by decide +kernel)) rfl⟩
def MX10_isBlank : pm_M := (yX10_isBlank, cX10_isBlank, 1, (some .boolean))
theorem mtX10_isBlank : pm_mt MX10_isBlank 1 := ⟨by decide, pm_T_in (List.mem_of_getElem? (i := 683) (by decide +kernel)) rfl, pm_T_in (List.mem_of_getElem? (i := 58) (by decide +kernel)) rfl, ⟨by decide, by decide⟩, by decide +kernel, by decide⟩
theorem stX10_isBlank : Cond.static yX10_isBlank ∈ pm_T := pm_T_in (List.mem_of_getElem? (i := 682) (by decide +kernel)) rfl
def MX10_isLetter : pm_M := (yX10_isLetter, cX10_isLetter, 1, (some .boolean))
theorem mtX10_isLetter : pm_mt MX10_isLetter 1 := ⟨by decide, pm_T_in (List.mem_of_getElem? (i := 686) (by decide +kernel)) rfl, pm_T_in (List.mem_of_getElem? (i := 58) (by decide +kernel)) rfl, ⟨by decide, by decide⟩, by decide +kernel, by decide⟩
theorem stX10_isLetter : Cond.static yX10_isLetter ∈ pm_T := pm_T_in (List.mem_of_getElem? (i := 685) (by decide +kernel)) rfl
def MX10_takeWord : pm_M := (yX10_takeWord, cX10_takeWord, 5, (some .int))
theorem mtX10_takeWord : pm_mt MX10_takeWord 1 := ⟨by decide, pm_T_in (List.mem_of_getElem? (i := 690) (by decide +kernel)) rfl, pm_T_in (List.mem_of_getElem? (i := 58) (by decide +kernel)) rfl, ⟨by decide, by decide⟩, by decide +kernel, by decide⟩
theorem imX10_takeWord : Cond.instanceMethod yX10_takeWord ∈ pm_T := pm_T_in (List.mem_of_getElem? (i := 689) (by decide +kernel)) rfl
theorem ivX10_takeWord : pm_iv MX10_takeWord := ⟨imX10_takeWord, pm_T_in (List.mem_of_getElem? (i := 5) (by decide +kernel)) rfl⟩
def MX10_isWord : pm_M := (yX10_isWord, cX10_isWord, 6, (some .boolean))
theorem mtX10_isWord : pm_mt MX10_isWord 3 := ⟨by decide, pm_T_in (List.mem_of_getElem? (i := 694) (by decide +kernel)) rfl, pm_T_in (List.mem_of_getElem? (i := 58) (by decide +kernel)) rfl, ⟨by decide, by decide⟩, by decide +kernel, by decide⟩
theorem imX10_isWord : Cond.instanceMethod yX10_isWord ∈ pm_T := pm_T_in (List.mem_of_getElem? (i := 693) (by decide +kernel)) rfl
theorem ivX10_isWord : pm_iv MX10_isWord := ⟨imX10_isWord, pm_T_in (List.mem_of_getElem? (i := 6) (by decide +kernel)) rfl⟩
def MJ0_charAt_5068e : pm_M := (yJ0_charAt_5068e, cJ0_charAt_5068e, 2, (some .char))
theorem mtJ0_charAt_5068e : pm_mt MJ0_charAt_5068e 1 := ⟨by decide, pm_T_in (List.mem_of_getElem? (i := 699) (by decide +kernel)) rfl, pm_T_in (List.mem_of_getElem? (i := 66) (by decide +kernel)) rfl, ⟨by decide, by decide⟩, by decide +kernel, by decide⟩
theorem imJ0_charAt_5068e : Cond.instanceMethod yJ0_charAt_5068e ∈ pm_T := pm_T_in (List.mem_of_getElem? (i := 697) (by decide +kernel)) rfl
theorem ivJ0_charAt_5068e : pm_iv MJ0_charAt_5068e := ⟨imJ0_charAt_5068e, pm_T_in (List.mem_of_getElem? (i := 698) (by decide +kernel)) rfl⟩
def MJ0_isLatin1_aae02 : pm_M := (yJ0_isLatin1_aae02, cJ0_isLatin1_aae02, 1, (some .boolean))
theorem mtJ0_isLatin1_aae02 : pm_mt MJ0_isLatin1_aae02 0 := ⟨by decide, pm_T_in (List.mem_of_getElem? (i := 703) (by decide +kernel)) rfl, pm_T_in (List.mem_of_getElem? (i := 66) (by decide +kernel)) rfl, ⟨by decide, by decide⟩, by decide +kernel, by decide⟩
theorem imJ0_isLatin1_aae02 : Cond.instanceMethod yJ0_isLatin1_aae02 ∈ pm_T := pm_T_in (List.mem_of_getElem? (i := 701) (by decide +kernel)) rfl
theorem ivJ0_isLatin1_aae02 : pm_iv MJ0_isLatin1_aae02 := ⟨imJ0_isLatin1_aae02, pm_T_in (List.mem_of_getElem? (i := 702) (by decide +kernel)) rfl⟩
def MJ1_charAt_3b067 : pm_M := (yJ1_charAt_3b067, cJ1_charAt_3b067, 2, (some .char))
theorem mtJ1_charAt_3b067 : pm_mt MJ1_charAt_3b067 2 := ⟨by decide, pm_T_in (List.mem_of_getElem? (i := 708) (by decide +kernel)) rfl, pm_T_in (List.mem_of_getElem? (i := 67) (by decide +kernel)) rfl, ⟨by decide, by decide⟩, by decide +kernel, by decide⟩
theorem stJ1_charAt_3b067 : Cond.static yJ1_charAt_3b067 ∈ pm_T := pm_T_in (List.mem_of_getElem? (i := 707) (by decide +kernel)) rfl
def MJ0_checkIndex_df160 : pm_M := (yJ0_checkIndex_df160, cJ0_checkIndex_df160, 2, none)
theorem mtJ0_checkIndex_df160 : pm_mt MJ0_checkIndex_df160 2 := ⟨by decide, pm_T_in (List.mem_of_getElem? (i := 711) (by decide +kernel)) rfl, pm_T_in (List.mem_of_getElem? (i := 66) (by decide +kernel)) rfl, ⟨by decide, by decide⟩, by decide +kernel, by decide⟩
theorem stJ0_checkIndex_df160 : Cond.static yJ0_checkIndex_df160 ∈ pm_T := pm_T_in (List.mem_of_getElem? (i := 710) (by decide +kernel)) rfl
def MJ3_checkIndex_8e157 : pm_M := (yJ3_checkIndex_8e157, cJ3_checkIndex_8e157, 3, (some .int))
theorem mtJ3_checkIndex_8e157 : pm_mt MJ3_checkIndex_8e157 3 := ⟨by decide, pm_T_in (List.mem_of_getElem? (i := 716) (by decide +kernel)) rfl, pm_T_in (List.mem_of_getElem? (i := 68) (by decide +kernel)) rfl, ⟨by decide, by decide⟩, by decide +kernel, by decide⟩
theorem stJ3_checkIndex_8e157 : Cond.static yJ3_checkIndex_8e157 ∈ pm_T := pm_T_in (List.mem_of_getElem? (i := 715) (by decide +kernel)) rfl
def MJ2_charAt_3b067 : pm_M := (yJ2_charAt_3b067, cJ2_charAt_3b067, 2, (some .char))
theorem mtJ2_charAt_3b067 : pm_mt MJ2_charAt_3b067 2 := ⟨by decide, pm_T_in (List.mem_of_getElem? (i := 719) (by decide +kernel)) rfl, pm_T_in (List.mem_of_getElem? (i := 69) (by decide +kernel)) rfl, ⟨by decide, by decide⟩, by decide +kernel, by decide⟩
theorem stJ2_charAt_3b067 : Cond.static yJ2_charAt_3b067 ∈ pm_T := pm_T_in (List.mem_of_getElem? (i := 718) (by decide +kernel)) rfl
def MJ2_checkIndex_2214a : pm_M := (yJ2_checkIndex_2214a, cJ2_checkIndex_2214a, 2, none)
theorem mtJ2_checkIndex_2214a : pm_mt MJ2_checkIndex_2214a 2 := ⟨by decide, pm_T_in (List.mem_of_getElem? (i := 722) (by decide +kernel)) rfl, pm_T_in (List.mem_of_getElem? (i := 69) (by decide +kernel)) rfl, ⟨by decide, by decide⟩, by decide +kernel, by decide⟩
theorem stJ2_checkIndex_2214a : Cond.static yJ2_checkIndex_2214a ∈ pm_T := pm_T_in (List.mem_of_getElem? (i := 721) (by decide +kernel)) rfl
def MJ2_length_9d52b : pm_M := (yJ2_length_9d52b, cJ2_length_9d52b, 1, (some .int))
theorem mtJ2_length_9d52b : pm_mt MJ2_length_9d52b 1 := ⟨by decide, pm_T_in (List.mem_of_getElem? (i := 725) (by decide +kernel)) rfl, pm_T_in (List.mem_of_getElem? (i := 69) (by decide +kernel)) rfl, ⟨by decide, by decide⟩, by decide +kernel, by decide⟩
theorem stJ2_length_9d52b : Cond.static yJ2_length_9d52b ∈ pm_T := pm_T_in (List.mem_of_getElem? (i := 724) (by decide +kernel)) rfl
def MJ2_getChar_3b067 : pm_M := (yJ2_getChar_3b067, cJ2_getChar_3b067, 2, (some .char))
theorem mtJ2_getChar_3b067 : pm_mt MJ2_getChar_3b067 2 := ⟨by decide, pm_T_in (List.mem_of_getElem? (i := 729) (by decide +kernel)) rfl, pm_T_in (List.mem_of_getElem? (i := 69) (by decide +kernel)) rfl, ⟨by decide, by decide⟩, by decide +kernel, by decide⟩
theorem stJ2_getChar_3b067 : Cond.static yJ2_getChar_3b067 ∈ pm_T := pm_T_in (List.mem_of_getElem? (i := 728) (by decide +kernel)) rfl
def MX10_put : pm_M := (yX10_put, cX10_put, 4, none)
theorem mtX10_put : pm_mt MX10_put 3 := ⟨by decide, pm_T_in (List.mem_of_getElem? (i := 739) (by decide +kernel)) rfl, pm_T_in (List.mem_of_getElem? (i := 58) (by decide +kernel)) rfl, ⟨by decide, by decide⟩, by decide +kernel, by decide⟩
theorem imX10_put : Cond.instanceMethod yX10_put ∈ pm_T := pm_T_in (List.mem_of_getElem? (i := 738) (by decide +kernel)) rfl
theorem ivX10_put : pm_iv MX10_put := ⟨imX10_put, pm_T_in (List.mem_of_getElem? (i := 7) (by decide +kernel)) rfl⟩
def MX10_isDigit : pm_M := (yX10_isDigit, cX10_isDigit, 1, (some .boolean))
theorem mtX10_isDigit : pm_mt MX10_isDigit 1 := ⟨by decide, pm_T_in (List.mem_of_getElem? (i := 742) (by decide +kernel)) rfl, pm_T_in (List.mem_of_getElem? (i := 58) (by decide +kernel)) rfl, ⟨by decide, by decide⟩, by decide +kernel, by decide⟩
theorem stX10_isDigit : Cond.static yX10_isDigit ∈ pm_T := pm_T_in (List.mem_of_getElem? (i := 741) (by decide +kernel)) rfl
def MX10_takeNumber : pm_M := (yX10_takeNumber, cX10_takeNumber, 4, (some .int))
theorem mtX10_takeNumber : pm_mt MX10_takeNumber 1 := ⟨by decide, pm_T_in (List.mem_of_getElem? (i := 746) (by decide +kernel)) rfl, pm_T_in (List.mem_of_getElem? (i := 58) (by decide +kernel)) rfl, ⟨by decide, by decide⟩, by decide +kernel, by decide⟩
theorem imX10_takeNumber : Cond.instanceMethod yX10_takeNumber ∈ pm_T := pm_T_in (List.mem_of_getElem? (i := 745) (by decide +kernel)) rfl
theorem ivX10_takeNumber : pm_iv MX10_takeNumber := ⟨imX10_takeNumber, pm_T_in (List.mem_of_getElem? (i := 8) (by decide +kernel)) rfl⟩
def MJ0_indexOf_0f7a4 : pm_M := (yJ0_indexOf_0f7a4, cJ0_indexOf_0f7a4, 2, (some .int))
theorem mtJ0_indexOf_0f7a4 : pm_mt MJ0_indexOf_0f7a4 1 := ⟨by decide, pm_T_in (List.mem_of_getElem? (i := 751) (by decide +kernel)) rfl, pm_T_in (List.mem_of_getElem? (i := 66) (by decide +kernel)) rfl, ⟨by decide, by decide⟩, by decide +kernel, by decide⟩
theorem imJ0_indexOf_0f7a4 : Cond.instanceMethod yJ0_indexOf_0f7a4 ∈ pm_T := pm_T_in (List.mem_of_getElem? (i := 749) (by decide +kernel)) rfl
theorem ivJ0_indexOf_0f7a4 : pm_iv MJ0_indexOf_0f7a4 := ⟨imJ0_indexOf_0f7a4, pm_T_in (List.mem_of_getElem? (i := 750) (by decide +kernel)) rfl⟩
def MJ0_indexOf_7cf53 : pm_M := (yJ0_indexOf_7cf53, cJ0_indexOf_7cf53, 3, (some .int))
theorem mtJ0_indexOf_7cf53 : pm_mt MJ0_indexOf_7cf53 2 := ⟨by decide, pm_T_in (List.mem_of_getElem? (i := 755) (by decide +kernel)) rfl, pm_T_in (List.mem_of_getElem? (i := 66) (by decide +kernel)) rfl, ⟨by decide, by decide⟩, by decide +kernel, by decide⟩
theorem imJ0_indexOf_7cf53 : Cond.instanceMethod yJ0_indexOf_7cf53 ∈ pm_T := pm_T_in (List.mem_of_getElem? (i := 753) (by decide +kernel)) rfl
theorem ivJ0_indexOf_7cf53 : pm_iv MJ0_indexOf_7cf53 := ⟨imJ0_indexOf_7cf53, pm_T_in (List.mem_of_getElem? (i := 754) (by decide +kernel)) rfl⟩
def MJ0_length_8abf5 : pm_M := (yJ0_length_8abf5, cJ0_length_8abf5, 1, (some .int))
theorem mtJ0_length_8abf5 : pm_mt MJ0_length_8abf5 0 := ⟨by decide, pm_T_in (List.mem_of_getElem? (i := 759) (by decide +kernel)) rfl, pm_T_in (List.mem_of_getElem? (i := 66) (by decide +kernel)) rfl, ⟨by decide, by decide⟩, by decide +kernel, by decide⟩
theorem imJ0_length_8abf5 : Cond.instanceMethod yJ0_length_8abf5 ∈ pm_T := pm_T_in (List.mem_of_getElem? (i := 757) (by decide +kernel)) rfl
theorem ivJ0_length_8abf5 : pm_iv MJ0_length_8abf5 := ⟨imJ0_length_8abf5, pm_T_in (List.mem_of_getElem? (i := 758) (by decide +kernel)) rfl⟩
def MJ0_coder_7d493 : pm_M := (yJ0_coder_7d493, cJ0_coder_7d493, 1, (some .byte))
theorem mtJ0_coder_7d493 : pm_mt MJ0_coder_7d493 0 := ⟨by decide, pm_T_in (List.mem_of_getElem? (i := 763) (by decide +kernel)) rfl, pm_T_in (List.mem_of_getElem? (i := 66) (by decide +kernel)) rfl, ⟨by decide, by decide⟩, by decide +kernel, by decide⟩
theorem imJ0_coder_7d493 : Cond.instanceMethod yJ0_coder_7d493 ∈ pm_T := pm_T_in (List.mem_of_getElem? (i := 761) (by decide +kernel)) rfl
theorem ivJ0_coder_7d493 : pm_iv MJ0_coder_7d493 := ⟨imJ0_coder_7d493, pm_T_in (List.mem_of_getElem? (i := 762) (by decide +kernel)) rfl⟩
def MJ1_indexOf_4cfef : pm_M := (yJ1_indexOf_4cfef, cJ1_indexOf_4cfef, 4, (some .int))
theorem mtJ1_indexOf_4cfef : pm_mt MJ1_indexOf_4cfef 4 := ⟨by decide, pm_T_in (List.mem_of_getElem? (i := 766) (by decide +kernel)) rfl, pm_T_in (List.mem_of_getElem? (i := 67) (by decide +kernel)) rfl, ⟨by decide, by decide⟩, by decide +kernel, by decide⟩
theorem stJ1_indexOf_4cfef : Cond.static yJ1_indexOf_4cfef ∈ pm_T := pm_T_in (List.mem_of_getElem? (i := 765) (by decide +kernel)) rfl
def MJ1_canEncode_9a6ad : pm_M := (yJ1_canEncode_9a6ad, cJ1_canEncode_9a6ad, 1, (some .boolean))
theorem mtJ1_canEncode_9a6ad : pm_mt MJ1_canEncode_9a6ad 1 := ⟨by decide, pm_T_in (List.mem_of_getElem? (i := 769) (by decide +kernel)) rfl, pm_T_in (List.mem_of_getElem? (i := 67) (by decide +kernel)) rfl, ⟨by decide, by decide⟩, by decide +kernel, by decide⟩
theorem stJ1_canEncode_9a6ad : Cond.static yJ1_canEncode_9a6ad ∈ pm_T := pm_T_in (List.mem_of_getElem? (i := 768) (by decide +kernel)) rfl
def MJ1_indexOfChar_4cfef : pm_M := (yJ1_indexOfChar_4cfef, cJ1_indexOfChar_4cfef, 6, (some .int))
theorem mtJ1_indexOfChar_4cfef : pm_mt MJ1_indexOfChar_4cfef 4 := ⟨by decide, pm_T_in (List.mem_of_getElem? (i := 778) (by decide +kernel)) rfl, pm_T_in (List.mem_of_getElem? (i := 67) (by decide +kernel)) rfl, ⟨by decide, by decide⟩, by decide +kernel, by decide⟩
theorem stJ1_indexOfChar_4cfef : Cond.static yJ1_indexOfChar_4cfef ∈ pm_T := pm_T_in (List.mem_of_getElem? (i := 777) (by decide +kernel)) rfl
def MJ2_indexOf_4cfef : pm_M := (yJ2_indexOf_4cfef, cJ2_indexOf_4cfef, 4, (some .int))
theorem mtJ2_indexOf_4cfef : pm_mt MJ2_indexOf_4cfef 4 := ⟨by decide, pm_T_in (List.mem_of_getElem? (i := 781) (by decide +kernel)) rfl, pm_T_in (List.mem_of_getElem? (i := 69) (by decide +kernel)) rfl, ⟨by decide, by decide⟩, by decide +kernel, by decide⟩
theorem stJ2_indexOf_4cfef : Cond.static yJ2_indexOf_4cfef ∈ pm_T := pm_T_in (List.mem_of_getElem? (i := 780) (by decide +kernel)) rfl
def MJ2_indexOfChar_4cfef : pm_M := (yJ2_indexOfChar_4cfef, cJ2_indexOfChar_4cfef, 4, (some .int))
theorem mtJ2_indexOfChar_4cfef : pm_mt MJ2_indexOfChar_4cfef 4 := ⟨by decide, pm_T_in (List.mem_of_getElem? (i := 787) (by decide +kernel)) rfl, pm_T_in (List.mem_of_getElem? (i := 69) (by decide +kernel)) rfl, ⟨by decide, by decide⟩, by decide +kernel, by decide⟩
theorem stJ2_indexOfChar_4cfef : Cond.static yJ2_indexOfChar_4cfef ∈ pm_T := pm_T_in (List.mem_of_getElem? (i := 786) (by decide +kernel)) rfl
def MJ2_checkBoundsBeginEnd_d044e : pm_M := (yJ2_checkBoundsBeginEnd_d044e, cJ2_checkBoundsBeginEnd_d044e, 3, none)
theorem mtJ2_checkBoundsBeginEnd_d044e : pm_mt MJ2_checkBoundsBeginEnd_d044e 3 := ⟨by decide, pm_T_in (List.mem_of_getElem? (i := 790) (by decide +kernel)) rfl, pm_T_in (List.mem_of_getElem? (i := 69) (by decide +kernel)) rfl, ⟨by decide, by decide⟩, by decide +kernel, by decide⟩
theorem stJ2_checkBoundsBeginEnd_d044e : Cond.static yJ2_checkBoundsBeginEnd_d044e ∈ pm_T := pm_T_in (List.mem_of_getElem? (i := 789) (by decide +kernel)) rfl
def MJ0_checkBoundsBeginEnd_23922 : pm_M := (yJ0_checkBoundsBeginEnd_23922, cJ0_checkBoundsBeginEnd_23922, 3, none)
theorem mtJ0_checkBoundsBeginEnd_23922 : pm_mt MJ0_checkBoundsBeginEnd_23922 3 := ⟨by decide, pm_T_in (List.mem_of_getElem? (i := 793) (by decide +kernel)) rfl, pm_T_in (List.mem_of_getElem? (i := 66) (by decide +kernel)) rfl, ⟨by decide, by decide⟩, by decide +kernel, by decide⟩
theorem stJ0_checkBoundsBeginEnd_23922 : Cond.static yJ0_checkBoundsBeginEnd_23922 ∈ pm_T := pm_T_in (List.mem_of_getElem? (i := 792) (by decide +kernel)) rfl
def MJ3_checkFromToIndex_8c36e : pm_M := (yJ3_checkFromToIndex_8c36e, cJ3_checkFromToIndex_8c36e, 4, (some .int))
theorem mtJ3_checkFromToIndex_8c36e : pm_mt MJ3_checkFromToIndex_8c36e 4 := ⟨by decide, pm_T_in (List.mem_of_getElem? (i := 796) (by decide +kernel)) rfl, pm_T_in (List.mem_of_getElem? (i := 68) (by decide +kernel)) rfl, ⟨by decide, by decide⟩, by decide +kernel, by decide⟩
theorem stJ3_checkFromToIndex_8c36e : Cond.static yJ3_checkFromToIndex_8c36e ∈ pm_T := pm_T_in (List.mem_of_getElem? (i := 795) (by decide +kernel)) rfl
def MJ2_indexOfCharUnsafe_4cfef : pm_M := (yJ2_indexOfCharUnsafe_4cfef, cJ2_indexOfCharUnsafe_4cfef, 5, (some .int))
theorem mtJ2_indexOfCharUnsafe_4cfef : pm_mt MJ2_indexOfCharUnsafe_4cfef 4 := ⟨by decide, pm_T_in (List.mem_of_getElem? (i := 799) (by decide +kernel)) rfl, pm_T_in (List.mem_of_getElem? (i := 69) (by decide +kernel)) rfl, ⟨by decide, by decide⟩, by decide +kernel, by decide⟩
theorem stJ2_indexOfCharUnsafe_4cfef : Cond.static yJ2_indexOfCharUnsafe_4cfef ∈ pm_T := pm_T_in (List.mem_of_getElem? (i := 798) (by decide +kernel)) rfl
def MJ2_indexOfSupplementary_4cfef : pm_M := (yJ2_indexOfSupplementary_4cfef, cJ2_indexOfSupplementary_4cfef, 7, (some .int))
theorem mtJ2_indexOfSupplementary_4cfef : pm_mt MJ2_indexOfSupplementary_4cfef 4 := ⟨by decide, pm_T_in (List.mem_of_getElem? (i := 802) (by decide +kernel)) rfl, pm_T_in (List.mem_of_getElem? (i := 69) (by decide +kernel)) rfl, ⟨by decide, by decide⟩, by decide +kernel, by decide⟩
theorem stJ2_indexOfSupplementary_4cfef : Cond.static yJ2_indexOfSupplementary_4cfef ∈ pm_T := pm_T_in (List.mem_of_getElem? (i := 801) (by decide +kernel)) rfl
def MJ11_isValidCodePoint_9a6ad : pm_M := (yJ11_isValidCodePoint_9a6ad, cJ11_isValidCodePoint_9a6ad, 2, (some .boolean))
theorem mtJ11_isValidCodePoint_9a6ad : pm_mt MJ11_isValidCodePoint_9a6ad 1 := ⟨by decide, pm_T_in (List.mem_of_getElem? (i := 805) (by decide +kernel)) rfl, pm_T_in (List.mem_of_getElem? (i := 71) (by decide +kernel)) rfl, ⟨by decide, by decide⟩, by decide +kernel, by decide⟩
theorem stJ11_isValidCodePoint_9a6ad : Cond.static yJ11_isValidCodePoint_9a6ad ∈ pm_T := pm_T_in (List.mem_of_getElem? (i := 804) (by decide +kernel)) rfl
def MJ11_highSurrogate_5068e : pm_M := (yJ11_highSurrogate_5068e, cJ11_highSurrogate_5068e, 1, (some .char))
theorem mtJ11_highSurrogate_5068e : pm_mt MJ11_highSurrogate_5068e 1 := ⟨by decide, pm_T_in (List.mem_of_getElem? (i := 808) (by decide +kernel)) rfl, pm_T_in (List.mem_of_getElem? (i := 71) (by decide +kernel)) rfl, ⟨by decide, by decide⟩, by decide +kernel, by decide⟩
theorem stJ11_highSurrogate_5068e : Cond.static yJ11_highSurrogate_5068e ∈ pm_T := pm_T_in (List.mem_of_getElem? (i := 807) (by decide +kernel)) rfl
def MJ11_lowSurrogate_5068e : pm_M := (yJ11_lowSurrogate_5068e, cJ11_lowSurrogate_5068e, 1, (some .char))
theorem mtJ11_lowSurrogate_5068e : pm_mt MJ11_lowSurrogate_5068e 1 := ⟨by decide, pm_T_in (List.mem_of_getElem? (i := 812) (by decide +kernel)) rfl, pm_T_in (List.mem_of_getElem? (i := 71) (by decide +kernel)) rfl, ⟨by decide, by decide⟩, by decide +kernel, by decide⟩
theorem stJ11_lowSurrogate_5068e : Cond.static yJ11_lowSurrogate_5068e ∈ pm_T := pm_T_in (List.mem_of_getElem? (i := 811) (by decide +kernel)) rfl
def MX10_at : pm_M := (yX10_at, cX10_at, 2, (some .int))
theorem mtX10_at : pm_mt MX10_at 1 := ⟨by decide, pm_T_in (List.mem_of_getElem? (i := 817) (by decide +kernel)) rfl, pm_T_in (List.mem_of_getElem? (i := 58) (by decide +kernel)) rfl, ⟨by decide, by decide⟩, by decide +kernel, by decide⟩
theorem imX10_at : Cond.instanceMethod yX10_at ∈ pm_T := pm_T_in (List.mem_of_getElem? (i := 815) (by decide +kernel)) rfl
theorem ivX10_at : pm_iv MX10_at := ⟨imX10_at, pm_T_in (List.mem_of_getElem? (i := 816) (by decide +kernel)) rfl⟩
def MX5_advance : pm_M := (yX5_advance, cX5_advance, 1, none)
theorem mtX5_advance : pm_mt MX5_advance 0 := ⟨by decide, pm_T_in (List.mem_of_getElem? (i := 821) (by decide +kernel)) rfl, pm_T_in (List.mem_of_getElem? (i := 57) (by decide +kernel)) rfl, ⟨by decide, by decide⟩, by decide +kernel, by decide⟩
theorem imX5_advance : Cond.instanceMethod yX5_advance ∈ pm_T := pm_T_in (List.mem_of_getElem? (i := 820) (by decide +kernel)) rfl
theorem ivX5_advance : pm_iv MX5_advance := ⟨imX5_advance, pm_T_in (List.mem_of_getElem? (i := 9) (by decide +kernel)) rfl⟩
def MX5_readChoice : pm_M := (yX5_readChoice, cX5_readChoice, 3, none)
theorem mtX5_readChoice : pm_mt MX5_readChoice 1 := ⟨by decide, pm_T_in (List.mem_of_getElem? (i := 825) (by decide +kernel)) rfl, pm_T_in (List.mem_of_getElem? (i := 57) (by decide +kernel)) rfl, ⟨by decide, by decide⟩, by decide +kernel, by decide⟩
theorem imX5_readChoice : Cond.instanceMethod yX5_readChoice ∈ pm_T := pm_T_in (List.mem_of_getElem? (i := 824) (by decide +kernel)) rfl
theorem ivX5_readChoice : pm_iv MX5_readChoice := ⟨imX5_readChoice, pm_T_in (List.mem_of_getElem? (i := 10) (by decide +kernel)) rfl⟩
def MX5_readJoin : pm_M := (yX5_readJoin, cX5_readJoin, 3, none)
theorem mtX5_readJoin : pm_mt MX5_readJoin 1 := ⟨by decide, pm_T_in (List.mem_of_getElem? (i := 829) (by decide +kernel)) rfl, pm_T_in (List.mem_of_getElem? (i := 57) (by decide +kernel)) rfl, ⟨by decide, by decide⟩, by decide +kernel, by decide⟩
theorem imX5_readJoin : Cond.instanceMethod yX5_readJoin ∈ pm_T := pm_T_in (List.mem_of_getElem? (i := 828) (by decide +kernel)) rfl
theorem ivX5_readJoin : pm_iv MX5_readJoin := ⟨imX5_readJoin, pm_T_in (List.mem_of_getElem? (i := 11) (by decide +kernel)) rfl⟩
def MX5_readClause : pm_M := (yX5_readClause, cX5_readClause, 2, none)
theorem mtX5_readClause : pm_mt MX5_readClause 1 := ⟨by decide, pm_T_in (List.mem_of_getElem? (i := 833) (by decide +kernel)) rfl, pm_T_in (List.mem_of_getElem? (i := 57) (by decide +kernel)) rfl, ⟨by decide, by decide⟩, by decide +kernel, by decide⟩
theorem imX5_readClause : Cond.instanceMethod yX5_readClause ∈ pm_T := pm_T_in (List.mem_of_getElem? (i := 832) (by decide +kernel)) rfl
theorem ivX5_readClause : pm_iv MX5_readClause := ⟨imX5_readClause, pm_T_in (List.mem_of_getElem? (i := 12) (by decide +kernel)) rfl⟩
def MX5_readComparison : pm_M := (yX5_readComparison, cX5_readComparison, 4, none)
theorem mtX5_readComparison : pm_mt MX5_readComparison 0 := ⟨by decide, pm_T_in (List.mem_of_getElem? (i := 837) (by decide +kernel)) rfl, pm_T_in (List.mem_of_getElem? (i := 57) (by decide +kernel)) rfl, ⟨by decide, by decide⟩, by decide +kernel, by decide⟩
theorem imX5_readComparison : Cond.instanceMethod yX5_readComparison ∈ pm_T := pm_T_in (List.mem_of_getElem? (i := 836) (by decide +kernel)) rfl
theorem ivX5_readComparison : pm_iv MX5_readComparison := ⟨imX5_readComparison, pm_T_in (List.mem_of_getElem? (i := 13) (by decide +kernel)) rfl⟩
def MX5_readTerm : pm_M := (yX5_readTerm, cX5_readTerm, 2, (some .int))
theorem mtX5_readTerm : pm_mt MX5_readTerm 0 := ⟨by decide, pm_T_in (List.mem_of_getElem? (i := 841) (by decide +kernel)) rfl, pm_T_in (List.mem_of_getElem? (i := 57) (by decide +kernel)) rfl, ⟨by decide, by decide⟩, by decide +kernel, by decide⟩
theorem imX5_readTerm : Cond.instanceMethod yX5_readTerm ∈ pm_T := pm_T_in (List.mem_of_getElem? (i := 840) (by decide +kernel)) rfl
theorem ivX5_readTerm : pm_iv MX5_readTerm := ⟨imX5_readTerm, pm_T_in (List.mem_of_getElem? (i := 14) (by decide +kernel)) rfl⟩
def MX10_valueOf : pm_M := (yX10_valueOf, cX10_valueOf, 2, (some .int))
theorem mtX10_valueOf : pm_mt MX10_valueOf 1 := ⟨by decide, pm_T_in (List.mem_of_getElem? (i := 845) (by decide +kernel)) rfl, pm_T_in (List.mem_of_getElem? (i := 58) (by decide +kernel)) rfl, ⟨by decide, by decide⟩, by decide +kernel, by decide⟩
theorem imX10_valueOf : Cond.instanceMethod yX10_valueOf ∈ pm_T := pm_T_in (List.mem_of_getElem? (i := 843) (by decide +kernel)) rfl
theorem ivX10_valueOf : pm_iv MX10_valueOf := ⟨imX10_valueOf, pm_T_in (List.mem_of_getElem? (i := 844) (by decide +kernel)) rfl⟩
def MX5_refuse : pm_M := (yX5_refuse, cX5_refuse, 2, none)
theorem mtX5_refuse : pm_mt MX5_refuse 1 := ⟨by decide, pm_T_in (List.mem_of_getElem? (i := 849) (by decide +kernel)) rfl, pm_T_in (List.mem_of_getElem? (i := 57) (by decide +kernel)) rfl, ⟨by decide, by decide⟩, by decide +kernel, by decide⟩
theorem imX5_refuse : Cond.instanceMethod yX5_refuse ∈ pm_T := pm_T_in (List.mem_of_getElem? (i := 848) (by decide +kernel)) rfl
theorem ivX5_refuse : pm_iv MX5_refuse := ⟨imX5_refuse, pm_T_in (List.mem_of_getElem? (i := 15) (by decide +kernel)) rfl⟩
def MX10_placeOf : pm_M := (yX10_placeOf, cX10_placeOf, 2, (some .int))
theorem mtX10_placeOf : pm_mt MX10_placeOf 1 := ⟨by decide, pm_T_in (List.mem_of_getElem? (i := 853) (by decide +kernel)) rfl, pm_T_in (List.mem_of_getElem? (i := 58) (by decide +kernel)) rfl, ⟨by decide, by decide⟩, by decide +kernel, by decide⟩
theorem imX10_placeOf : Cond.instanceMethod yX10_placeOf ∈ pm_T := pm_T_in (List.mem_of_getElem? (i := 851) (by decide +kernel)) rfl
theorem ivX10_placeOf : pm_iv MX10_placeOf := ⟨imX10_placeOf, pm_T_in (List.mem_of_getElem? (i := 852) (by decide +kernel)) rfl⟩
def MX4_addStep : pm_M := (yX4_addStep, cX4_addStep, 4, none)
theorem mtX4_addStep : pm_mt MX4_addStep 3 := ⟨by decide, pm_T_in (List.mem_of_getElem? (i := 857) (by decide +kernel)) rfl, pm_T_in (List.mem_of_getElem? (i := 56) (by decide +kernel)) rfl, ⟨by decide, by decide⟩, by decide +kernel, by decide⟩
theorem imX4_addStep : Cond.instanceMethod yX4_addStep ∈ pm_T := pm_T_in (List.mem_of_getElem? (i := 855) (by decide +kernel)) rfl
theorem ivX4_addStep : pm_iv MX4_addStep := ⟨imX4_addStep, pm_T_in (List.mem_of_getElem? (i := 856) (by decide +kernel)) rfl⟩
def MX5_take : pm_M := (yX5_take, cX5_take, 2, none)
theorem mtX5_take : pm_mt MX5_take 1 := ⟨by decide, pm_T_in (List.mem_of_getElem? (i := 861) (by decide +kernel)) rfl, pm_T_in (List.mem_of_getElem? (i := 57) (by decide +kernel)) rfl, ⟨by decide, by decide⟩, by decide +kernel, by decide⟩
theorem imX5_take : Cond.instanceMethod yX5_take ∈ pm_T := pm_T_in (List.mem_of_getElem? (i := 860) (by decide +kernel)) rfl
theorem ivX5_take : pm_iv MX5_take := ⟨imX5_take, pm_T_in (List.mem_of_getElem? (i := 16) (by decide +kernel)) rfl⟩
def MX4_closeRule : pm_M := (yX4_closeRule, cX4_closeRule, 1, none)
theorem mtX4_closeRule : pm_mt MX4_closeRule 0 := ⟨by decide, pm_T_in (List.mem_of_getElem? (i := 865) (by decide +kernel)) rfl, pm_T_in (List.mem_of_getElem? (i := 56) (by decide +kernel)) rfl, ⟨by decide, by decide⟩, by decide +kernel, by decide⟩
theorem imX4_closeRule : Cond.instanceMethod yX4_closeRule ∈ pm_T := pm_T_in (List.mem_of_getElem? (i := 863) (by decide +kernel)) rfl
theorem ivX4_closeRule : pm_iv MX4_closeRule := ⟨imX4_closeRule, pm_T_in (List.mem_of_getElem? (i := 864) (by decide +kernel)) rfl⟩
def MX11_fault : pm_M := (yX11_fault, cX11_fault, 2, (some .int))
theorem mtX11_fault : pm_mt MX11_fault 1 := ⟨by decide, pm_T_in (List.mem_of_getElem? (i := 869) (by decide +kernel)) rfl, pm_T_in (List.mem_of_getElem? (i := 52) (by decide +kernel)) rfl, ⟨by decide, by decide⟩, by decide +kernel, by decide⟩
theorem imX11_fault : Cond.instanceMethod yX11_fault ∈ pm_T := pm_T_in (List.mem_of_getElem? (i := 867) (by decide +kernel)) rfl
theorem ivX11_fault : pm_iv MX11_fault := ⟨imX11_fault, pm_T_in (List.mem_of_getElem? (i := 868) (by decide +kernel)) rfl⟩
def MX11_barred : pm_M := (yX11_barred, cX11_barred, 4, (some .int))
theorem mtX11_barred : pm_mt MX11_barred 3 := ⟨by decide, pm_T_in (List.mem_of_getElem? (i := 873) (by decide +kernel)) rfl, pm_T_in (List.mem_of_getElem? (i := 52) (by decide +kernel)) rfl, ⟨by decide, by decide⟩, by decide +kernel, by decide⟩
theorem imX11_barred : Cond.instanceMethod yX11_barred ∈ pm_T := pm_T_in (List.mem_of_getElem? (i := 871) (by decide +kernel)) rfl
theorem ivX11_barred : pm_iv MX11_barred := ⟨imX11_barred, pm_T_in (List.mem_of_getElem? (i := 872) (by decide +kernel)) rfl⟩
def MX2_tellParty : pm_M := (yX2_tellParty, cX2_tellParty, 3, none)
theorem mtX2_tellParty : pm_mt MX2_tellParty 2 := ⟨by decide, pm_T_in (List.mem_of_getElem? (i := 877) (by decide +kernel)) rfl, pm_T_in (List.mem_of_getElem? (i := 60) (by decide +kernel)) rfl, ⟨by decide, by decide⟩, by decide +kernel, by decide⟩
theorem imX2_tellParty : Cond.instanceMethod yX2_tellParty ∈ pm_T := pm_T_in (List.mem_of_getElem? (i := 875) (by decide +kernel)) rfl
theorem ivX2_tellParty : pm_iv MX2_tellParty := ⟨imX2_tellParty, pm_T_in (List.mem_of_getElem? (i := 876) (by decide +kernel)) rfl⟩
def MX2_tellSet : pm_M := (yX2_tellSet, cX2_tellSet, 5, none)
theorem mtX2_tellSet : pm_mt MX2_tellSet 2 := ⟨by decide, pm_T_in (List.mem_of_getElem? (i := 882) (by decide +kernel)) rfl, pm_T_in (List.mem_of_getElem? (i := 60) (by decide +kernel)) rfl, ⟨by decide, by decide⟩, by decide +kernel, by decide⟩
theorem imX2_tellSet : Cond.instanceMethod yX2_tellSet ∈ pm_T := pm_T_in (List.mem_of_getElem? (i := 880) (by decide +kernel)) rfl
theorem ivX2_tellSet : pm_iv MX2_tellSet := ⟨imX2_tellSet, pm_T_in (List.mem_of_getElem? (i := 881) (by decide +kernel)) rfl⟩
def MX4_firstThatBars : pm_M := (yX4_firstThatBars, cX4_firstThatBars, 4, (some .int))
theorem mtX4_firstThatBars : pm_mt MX4_firstThatBars 1 := ⟨by decide, pm_T_in (List.mem_of_getElem? (i := 887) (by decide +kernel)) rfl, pm_T_in (List.mem_of_getElem? (i := 56) (by decide +kernel)) rfl, ⟨by decide, by decide⟩, by decide +kernel, by decide⟩
theorem imX4_firstThatBars : Cond.instanceMethod yX4_firstThatBars ∈ pm_T := pm_T_in (List.mem_of_getElem? (i := 885) (by decide +kernel)) rfl
theorem ivX4_firstThatBars : pm_iv MX4_firstThatBars := ⟨imX4_firstThatBars, pm_T_in (List.mem_of_getElem? (i := 886) (by decide +kernel)) rfl⟩
def MX4_holds : pm_M := (yX4_holds, cX4_holds, 6, (some .boolean))
theorem mtX4_holds : pm_mt MX4_holds 3 := ⟨by decide, pm_T_in (List.mem_of_getElem? (i := 891) (by decide +kernel)) rfl, pm_T_in (List.mem_of_getElem? (i := 56) (by decide +kernel)) rfl, ⟨by decide, by decide⟩, by decide +kernel, by decide⟩
theorem imX4_holds : Cond.instanceMethod yX4_holds ∈ pm_T := pm_T_in (List.mem_of_getElem? (i := 890) (by decide +kernel)) rfl
theorem ivX4_holds : pm_iv MX4_holds := ⟨imX4_holds, pm_T_in (List.mem_of_getElem? (i := 17) (by decide +kernel)) rfl⟩
def MX4_compares : pm_M := (yX4_compares, cX4_compares, 5, (some .boolean))
theorem mtX4_compares : pm_mt MX4_compares 2 := ⟨by decide, pm_T_in (List.mem_of_getElem? (i := 895) (by decide +kernel)) rfl, pm_T_in (List.mem_of_getElem? (i := 56) (by decide +kernel)) rfl, ⟨by decide, by decide⟩, by decide +kernel, by decide⟩
theorem imX4_compares : Cond.instanceMethod yX4_compares ∈ pm_T := pm_T_in (List.mem_of_getElem? (i := 894) (by decide +kernel)) rfl
theorem ivX4_compares : pm_iv MX4_compares := ⟨imX4_compares, pm_T_in (List.mem_of_getElem? (i := 18) (by decide +kernel)) rfl⟩
def MX2_value : pm_M := (yX2_value, cX2_value, 3, (some .int))
theorem mtX2_value : pm_mt MX2_value 1 := ⟨by decide, pm_T_in (List.mem_of_getElem? (i := 899) (by decide +kernel)) rfl, pm_T_in (List.mem_of_getElem? (i := 60) (by decide +kernel)) rfl, ⟨by decide, by decide⟩, by decide +kernel, by decide⟩
theorem imX2_value : Cond.instanceMethod yX2_value ∈ pm_T := pm_T_in (List.mem_of_getElem? (i := 897) (by decide +kernel)) rfl
theorem ivX2_value : pm_iv MX2_value := ⟨imX2_value, pm_T_in (List.mem_of_getElem? (i := 898) (by decide +kernel)) rfl⟩
def MX11_best : pm_M := (yX11_best, cX11_best, 6, (some .int))
theorem mtX11_best : pm_mt MX11_best 5 := ⟨by decide, pm_T_in (List.mem_of_getElem? (i := 903) (by decide +kernel)) rfl, pm_T_in (List.mem_of_getElem? (i := 52) (by decide +kernel)) rfl, ⟨by decide, by decide⟩, by decide +kernel, by decide⟩
theorem imX11_best : Cond.instanceMethod yX11_best ∈ pm_T := pm_T_in (List.mem_of_getElem? (i := 901) (by decide +kernel)) rfl
theorem ivX11_best : pm_iv MX11_best := ⟨imX11_best, pm_T_in (List.mem_of_getElem? (i := 902) (by decide +kernel)) rfl⟩
def MX1_invite : pm_M := (yX1_invite, cX1_invite, 4, none)
theorem mtX1_invite : pm_mt MX1_invite 3 := ⟨by decide, pm_T_in (List.mem_of_getElem? (i := 907) (by decide +kernel)) rfl, pm_T_in (List.mem_of_getElem? (i := 61) (by decide +kernel)) rfl, ⟨by decide, by decide⟩, by decide +kernel, by decide⟩
theorem imX1_invite : Cond.instanceMethod yX1_invite ∈ pm_T := pm_T_in (List.mem_of_getElem? (i := 905) (by decide +kernel)) rfl
theorem ivX1_invite : pm_iv MX1_invite := ⟨imX1_invite, pm_T_in (List.mem_of_getElem? (i := 906) (by decide +kernel)) rfl⟩
def MX1_choose : pm_M := (yX1_choose, cX1_choose, 4, none)
theorem mtX1_choose : pm_mt MX1_choose 3 := ⟨by decide, pm_T_in (List.mem_of_getElem? (i := 912) (by decide +kernel)) rfl, pm_T_in (List.mem_of_getElem? (i := 61) (by decide +kernel)) rfl, ⟨by decide, by decide⟩, by decide +kernel, by decide⟩
theorem imX1_choose : Cond.instanceMethod yX1_choose ∈ pm_T := pm_T_in (List.mem_of_getElem? (i := 910) (by decide +kernel)) rfl
theorem ivX1_choose : pm_iv MX1_choose := ⟨imX1_choose, pm_T_in (List.mem_of_getElem? (i := 911) (by decide +kernel)) rfl⟩
def MX1_layFrom : pm_M := (yX1_layFrom, cX1_layFrom, 4, none)
theorem mtX1_layFrom : pm_mt MX1_layFrom 1 := ⟨by decide, pm_T_in (List.mem_of_getElem? (i := 917) (by decide +kernel)) rfl, pm_T_in (List.mem_of_getElem? (i := 61) (by decide +kernel)) rfl, ⟨by decide, by decide⟩, by decide +kernel, by decide⟩
theorem imX1_layFrom : Cond.instanceMethod yX1_layFrom ∈ pm_T := pm_T_in (List.mem_of_getElem? (i := 916) (by decide +kernel)) rfl
theorem ivX1_layFrom : pm_iv MX1_layFrom := ⟨imX1_layFrom, pm_T_in (List.mem_of_getElem? (i := 19) (by decide +kernel)) rfl⟩
def MX1_judge : pm_M := (yX1_judge, cX1_judge, 3, none)
theorem mtX1_judge : pm_mt MX1_judge 0 := ⟨by decide, pm_T_in (List.mem_of_getElem? (i := 921) (by decide +kernel)) rfl, pm_T_in (List.mem_of_getElem? (i := 61) (by decide +kernel)) rfl, ⟨by decide, by decide⟩, by decide +kernel, by decide⟩
theorem imX1_judge : Cond.instanceMethod yX1_judge ∈ pm_T := pm_T_in (List.mem_of_getElem? (i := 920) (by decide +kernel)) rfl
theorem ivX1_judge : pm_iv MX1_judge := ⟨imX1_judge, pm_T_in (List.mem_of_getElem? (i := 20) (by decide +kernel)) rfl⟩
def MX8_sumRanks : pm_M := (yX8_sumRanks, cX8_sumRanks, 4, (some .int))
theorem mtX8_sumRanks : pm_mt MX8_sumRanks 0 := ⟨by decide, pm_T_in (List.mem_of_getElem? (i := 928) (by decide +kernel)) rfl, pm_T_in (List.mem_of_getElem? (i := 59) (by decide +kernel)) rfl, ⟨by decide, by decide⟩, by decide +kernel, by decide⟩
theorem imX8_sumRanks : Cond.instanceMethod yX8_sumRanks ∈ pm_T := pm_T_in (List.mem_of_getElem? (i := 926) (by decide +kernel)) rfl
theorem ivX8_sumRanks : pm_iv MX8_sumRanks := ⟨imX8_sumRanks, pm_T_in (List.mem_of_getElem? (i := 927) (by decide +kernel)) rfl⟩
def MX9_suits : pm_M := (yX9_suits, cX9_suits, 2, (some .boolean))
theorem mtX9_suits : pm_mt MX9_suits 1 := ⟨by decide, pm_T_in (List.mem_of_getElem? (i := 936) (by decide +kernel)) rfl, pm_T_in (List.mem_of_getElem? (i := 64) (by decide +kernel)) rfl, ⟨by decide, by decide⟩, by decide +kernel, by decide⟩
theorem imX9_suits : Cond.instanceMethod yX9_suits ∈ pm_T := pm_T_in (List.mem_of_getElem? (i := 934) (by decide +kernel)) rfl
theorem ivX9_suits : pm_iv MX9_suits := ⟨imX9_suits, pm_T_in (List.mem_of_getElem? (i := 935) (by decide +kernel)) rfl⟩
def MX1_tell : pm_M := (yX1_tell, cX1_tell, 2, (some .int))
theorem mtX1_tell : pm_mt MX1_tell 1 := ⟨by decide, pm_T_in (List.mem_of_getElem? (i := 941) (by decide +kernel)) rfl, pm_T_in (List.mem_of_getElem? (i := 61) (by decide +kernel)) rfl, ⟨by decide, by decide⟩, by decide +kernel, by decide⟩
theorem imX1_tell : Cond.instanceMethod yX1_tell ∈ pm_T := pm_T_in (List.mem_of_getElem? (i := 939) (by decide +kernel)) rfl
theorem ivX1_tell : pm_iv MX1_tell := ⟨imX1_tell, pm_T_in (List.mem_of_getElem? (i := 940) (by decide +kernel)) rfl⟩
def MX12_init : pm_M := (yX12_init, cX12_init, 1, none)
theorem mtX12_init : pm_mt MX12_init 0 := ⟨by decide, pm_T_in (List.mem_of_getElem? (i := 946) (by decide +kernel)) rfl, pm_T_in (List.mem_of_getElem? (i := 62) (by decide +kernel)) rfl, ⟨by decide, by decide⟩, by decide +kernel, by decide⟩
theorem imX12_init : Cond.instanceMethod yX12_init ∈ pm_T := pm_T_in (List.mem_of_getElem? (i := 945) (by decide +kernel)) rfl
def MX12_thing : pm_M := (yX12_thing, cX12_thing, 6, (some .int))
theorem mtX12_thing : pm_mt MX12_thing 5 := ⟨by decide, pm_T_in (List.mem_of_getElem? (i := 1087) (by decide +kernel)) rfl, pm_T_in (List.mem_of_getElem? (i := 62) (by decide +kernel)) rfl, ⟨by decide, by decide⟩, by decide +kernel, by decide⟩
theorem imX12_thing : Cond.instanceMethod yX12_thing ∈ pm_T := pm_T_in (List.mem_of_getElem? (i := 1085) (by decide +kernel)) rfl
theorem ivX12_thing : pm_iv MX12_thing := ⟨imX12_thing, pm_T_in (List.mem_of_getElem? (i := 1086) (by decide +kernel)) rfl⟩
def MX12_isIn : pm_M := (yX12_isIn, cX12_isIn, 3, (some .boolean))
theorem mtX12_isIn : pm_mt MX12_isIn 3 := ⟨by decide, pm_T_in (List.mem_of_getElem? (i := 1090) (by decide +kernel)) rfl, pm_T_in (List.mem_of_getElem? (i := 62) (by decide +kernel)) rfl, ⟨by decide, by decide⟩, by decide +kernel, by decide⟩
theorem stX12_isIn : Cond.static yX12_isIn ∈ pm_T := pm_T_in (List.mem_of_getElem? (i := 1089) (by decide +kernel)) rfl
def MX12_isHouse : pm_M := (yX12_isHouse, cX12_isHouse, 1, (some .boolean))
theorem mtX12_isHouse : pm_mt MX12_isHouse 1 := ⟨by decide, pm_T_in (List.mem_of_getElem? (i := 1093) (by decide +kernel)) rfl, pm_T_in (List.mem_of_getElem? (i := 62) (by decide +kernel)) rfl, ⟨by decide, by decide⟩, by decide +kernel, by decide⟩
theorem stX12_isHouse : Cond.static yX12_isHouse ∈ pm_T := pm_T_in (List.mem_of_getElem? (i := 1092) (by decide +kernel)) rfl
def MX12_comes : pm_M := (yX12_comes, cX12_comes, 8, (some .int))
theorem mtX12_comes : pm_mt MX12_comes 6 := ⟨by decide, pm_T_in (List.mem_of_getElem? (i := 1097) (by decide +kernel)) rfl, pm_T_in (List.mem_of_getElem? (i := 62) (by decide +kernel)) rfl, ⟨by decide, by decide⟩, by decide +kernel, by decide⟩
theorem imX12_comes : Cond.instanceMethod yX12_comes ∈ pm_T := pm_T_in (List.mem_of_getElem? (i := 1096) (by decide +kernel)) rfl
theorem ivX12_comes : pm_iv MX12_comes := ⟨imX12_comes, pm_T_in (List.mem_of_getElem? (i := 21) (by decide +kernel)) rfl⟩
def MX12_copy : pm_M := (yX12_copy, cX12_copy, 4, (some .int))
theorem mtX12_copy : pm_mt MX12_copy 3 := ⟨by decide, pm_T_in (List.mem_of_getElem? (i := 1101) (by decide +kernel)) rfl, pm_T_in (List.mem_of_getElem? (i := 62) (by decide +kernel)) rfl, ⟨by decide, by decide⟩, by decide +kernel, by decide⟩
theorem imX12_copy : Cond.instanceMethod yX12_copy ∈ pm_T := pm_T_in (List.mem_of_getElem? (i := 1099) (by decide +kernel)) rfl
theorem ivX12_copy : pm_iv MX12_copy := ⟨imX12_copy, pm_T_in (List.mem_of_getElem? (i := 1100) (by decide +kernel)) rfl⟩
def MX12_isThere : pm_M := (yX12_isThere, cX12_isThere, 2, (some .boolean))
theorem mtX12_isThere : pm_mt MX12_isThere 1 := ⟨by decide, pm_T_in (List.mem_of_getElem? (i := 1105) (by decide +kernel)) rfl, pm_T_in (List.mem_of_getElem? (i := 62) (by decide +kernel)) rfl, ⟨by decide, by decide⟩, by decide +kernel, by decide⟩
theorem imX12_isThere : Cond.instanceMethod yX12_isThere ∈ pm_T := pm_T_in (List.mem_of_getElem? (i := 1104) (by decide +kernel)) rfl
theorem ivX12_isThere : pm_iv MX12_isThere := ⟨imX12_isThere, pm_T_in (List.mem_of_getElem? (i := 22) (by decide +kernel)) rfl⟩
def MX12_isThing : pm_M := (yX12_isThing, cX12_isThing, 2, (some .boolean))
theorem mtX12_isThing : pm_mt MX12_isThing 1 := ⟨by decide, pm_T_in (List.mem_of_getElem? (i := 1109) (by decide +kernel)) rfl, pm_T_in (List.mem_of_getElem? (i := 62) (by decide +kernel)) rfl, ⟨by decide, by decide⟩, by decide +kernel, by decide⟩
theorem imX12_isThing : Cond.instanceMethod yX12_isThing ∈ pm_T := pm_T_in (List.mem_of_getElem? (i := 1108) (by decide +kernel)) rfl
theorem ivX12_isThing : pm_iv MX12_isThing := ⟨imX12_isThing, pm_T_in (List.mem_of_getElem? (i := 23) (by decide +kernel)) rfl⟩
def MX12_pass : pm_M := (yX12_pass, cX12_pass, 3, (some .boolean))
theorem mtX12_pass : pm_mt MX12_pass 2 := ⟨by decide, pm_T_in (List.mem_of_getElem? (i := 1113) (by decide +kernel)) rfl, pm_T_in (List.mem_of_getElem? (i := 62) (by decide +kernel)) rfl, ⟨by decide, by decide⟩, by decide +kernel, by decide⟩
theorem imX12_pass : Cond.instanceMethod yX12_pass ∈ pm_T := pm_T_in (List.mem_of_getElem? (i := 1111) (by decide +kernel)) rfl
theorem ivX12_pass : pm_iv MX12_pass := ⟨imX12_pass, pm_T_in (List.mem_of_getElem? (i := 1112) (by decide +kernel)) rfl⟩
def MX12_lentOn : pm_M := (yX12_lentOn, cX12_lentOn, 5, (some .int))
theorem mtX12_lentOn : pm_mt MX12_lentOn 2 := ⟨by decide, pm_T_in (List.mem_of_getElem? (i := 1117) (by decide +kernel)) rfl, pm_T_in (List.mem_of_getElem? (i := 62) (by decide +kernel)) rfl, ⟨by decide, by decide⟩, by decide +kernel, by decide⟩
theorem imX12_lentOn : Cond.instanceMethod yX12_lentOn ∈ pm_T := pm_T_in (List.mem_of_getElem? (i := 1116) (by decide +kernel)) rfl
theorem ivX12_lentOn : pm_iv MX12_lentOn := ⟨imX12_lentOn, pm_T_in (List.mem_of_getElem? (i := 24) (by decide +kernel)) rfl⟩
def MX12_ownerOn : pm_M := (yX12_ownerOn, cX12_ownerOn, 5, (some .int))
theorem mtX12_ownerOn : pm_mt MX12_ownerOn 2 := ⟨by decide, pm_T_in (List.mem_of_getElem? (i := 1121) (by decide +kernel)) rfl, pm_T_in (List.mem_of_getElem? (i := 62) (by decide +kernel)) rfl, ⟨by decide, by decide⟩, by decide +kernel, by decide⟩
theorem imX12_ownerOn : Cond.instanceMethod yX12_ownerOn ∈ pm_T := pm_T_in (List.mem_of_getElem? (i := 1120) (by decide +kernel)) rfl
theorem ivX12_ownerOn : pm_iv MX12_ownerOn := ⟨imX12_ownerOn, pm_T_in (List.mem_of_getElem? (i := 25) (by decide +kernel)) rfl⟩
def MX12_happens : pm_M := (yX12_happens, cX12_happens, 4, (some .boolean))
theorem mtX12_happens : pm_mt MX12_happens 3 := ⟨by decide, pm_T_in (List.mem_of_getElem? (i := 1125) (by decide +kernel)) rfl, pm_T_in (List.mem_of_getElem? (i := 62) (by decide +kernel)) rfl, ⟨by decide, by decide⟩, by decide +kernel, by decide⟩
theorem imX12_happens : Cond.instanceMethod yX12_happens ∈ pm_T := pm_T_in (List.mem_of_getElem? (i := 1124) (by decide +kernel)) rfl
theorem ivX12_happens : pm_iv MX12_happens := ⟨imX12_happens, pm_T_in (List.mem_of_getElem? (i := 26) (by decide +kernel)) rfl⟩
def MX12_lend : pm_M := (yX12_lend, cX12_lend, 3, (some .boolean))
theorem mtX12_lend : pm_mt MX12_lend 2 := ⟨by decide, pm_T_in (List.mem_of_getElem? (i := 1129) (by decide +kernel)) rfl, pm_T_in (List.mem_of_getElem? (i := 62) (by decide +kernel)) rfl, ⟨by decide, by decide⟩, by decide +kernel, by decide⟩
theorem imX12_lend : Cond.instanceMethod yX12_lend ∈ pm_T := pm_T_in (List.mem_of_getElem? (i := 1127) (by decide +kernel)) rfl
theorem ivX12_lend : pm_iv MX12_lend := ⟨imX12_lend, pm_T_in (List.mem_of_getElem? (i := 1128) (by decide +kernel)) rfl⟩
def MX12_back : pm_M := (yX12_back, cX12_back, 2, (some .boolean))
theorem mtX12_back : pm_mt MX12_back 1 := ⟨by decide, pm_T_in (List.mem_of_getElem? (i := 1133) (by decide +kernel)) rfl, pm_T_in (List.mem_of_getElem? (i := 62) (by decide +kernel)) rfl, ⟨by decide, by decide⟩, by decide +kernel, by decide⟩
theorem imX12_back : Cond.instanceMethod yX12_back ∈ pm_T := pm_T_in (List.mem_of_getElem? (i := 1131) (by decide +kernel)) rfl
theorem ivX12_back : pm_iv MX12_back := ⟨imX12_back, pm_T_in (List.mem_of_getElem? (i := 1132) (by decide +kernel)) rfl⟩
def MX12_burn : pm_M := (yX12_burn, cX12_burn, 2, (some .boolean))
theorem mtX12_burn : pm_mt MX12_burn 1 := ⟨by decide, pm_T_in (List.mem_of_getElem? (i := 1137) (by decide +kernel)) rfl, pm_T_in (List.mem_of_getElem? (i := 62) (by decide +kernel)) rfl, ⟨by decide, by decide⟩, by decide +kernel, by decide⟩
theorem imX12_burn : Cond.instanceMethod yX12_burn ∈ pm_T := pm_T_in (List.mem_of_getElem? (i := 1135) (by decide +kernel)) rfl
theorem ivX12_burn : pm_iv MX12_burn := ⟨imX12_burn, pm_T_in (List.mem_of_getElem? (i := 1136) (by decide +kernel)) rfl⟩
def MX12_days : pm_M := (yX12_days, cX12_days, 2, (some .int))
theorem mtX12_days : pm_mt MX12_days 1 := ⟨by decide, pm_T_in (List.mem_of_getElem? (i := 1141) (by decide +kernel)) rfl, pm_T_in (List.mem_of_getElem? (i := 62) (by decide +kernel)) rfl, ⟨by decide, by decide⟩, by decide +kernel, by decide⟩
theorem imX12_days : Cond.instanceMethod yX12_days ∈ pm_T := pm_T_in (List.mem_of_getElem? (i := 1139) (by decide +kernel)) rfl
theorem ivX12_days : pm_iv MX12_days := ⟨imX12_days, pm_T_in (List.mem_of_getElem? (i := 1140) (by decide +kernel)) rfl⟩
def MX12_look : pm_M := (yX12_look, cX12_look, 4, (some .int))
theorem mtX12_look : pm_mt MX12_look 1 := ⟨by decide, pm_T_in (List.mem_of_getElem? (i := 1145) (by decide +kernel)) rfl, pm_T_in (List.mem_of_getElem? (i := 62) (by decide +kernel)) rfl, ⟨by decide, by decide⟩, by decide +kernel, by decide⟩
theorem imX12_look : Cond.instanceMethod yX12_look ∈ pm_T := pm_T_in (List.mem_of_getElem? (i := 1143) (by decide +kernel)) rfl
theorem ivX12_look : pm_iv MX12_look := ⟨imX12_look, pm_T_in (List.mem_of_getElem? (i := 1144) (by decide +kernel)) rfl⟩
def MX12_of : pm_M := (yX12_of, cX12_of, 3, (some .int))
theorem mtX12_of : pm_mt MX12_of 2 := ⟨by decide, pm_T_in (List.mem_of_getElem? (i := 1149) (by decide +kernel)) rfl, pm_T_in (List.mem_of_getElem? (i := 62) (by decide +kernel)) rfl, ⟨by decide, by decide⟩, by decide +kernel, by decide⟩
theorem imX12_of : Cond.instanceMethod yX12_of ∈ pm_T := pm_T_in (List.mem_of_getElem? (i := 1147) (by decide +kernel)) rfl
theorem ivX12_of : pm_iv MX12_of := ⟨imX12_of, pm_T_in (List.mem_of_getElem? (i := 1148) (by decide +kernel)) rfl⟩
def MX12_rootOf : pm_M := (yX12_rootOf, cX12_rootOf, 3, (some .int))
theorem mtX12_rootOf : pm_mt MX12_rootOf 1 := ⟨by decide, pm_T_in (List.mem_of_getElem? (i := 1153) (by decide +kernel)) rfl, pm_T_in (List.mem_of_getElem? (i := 62) (by decide +kernel)) rfl, ⟨by decide, by decide⟩, by decide +kernel, by decide⟩
theorem imX12_rootOf : Cond.instanceMethod yX12_rootOf ∈ pm_T := pm_T_in (List.mem_of_getElem? (i := 1152) (by decide +kernel)) rfl
theorem ivX12_rootOf : pm_iv MX12_rootOf := ⟨imX12_rootOf, pm_T_in (List.mem_of_getElem? (i := 27) (by decide +kernel)) rfl⟩
def MX12_isDoubtful : pm_M := (yX12_isDoubtful, cX12_isDoubtful, 5, (some .boolean))
theorem mtX12_isDoubtful : pm_mt MX12_isDoubtful 1 := ⟨by decide, pm_T_in (List.mem_of_getElem? (i := 1157) (by decide +kernel)) rfl, pm_T_in (List.mem_of_getElem? (i := 62) (by decide +kernel)) rfl, ⟨by decide, by decide⟩, by decide +kernel, by decide⟩
theorem imX12_isDoubtful : Cond.instanceMethod yX12_isDoubtful ∈ pm_T := pm_T_in (List.mem_of_getElem? (i := 1156) (by decide +kernel)) rfl
theorem ivX12_isDoubtful : pm_iv MX12_isDoubtful := ⟨imX12_isDoubtful, pm_T_in (List.mem_of_getElem? (i := 28) (by decide +kernel)) rfl⟩
def MX12_keptOn : pm_M := (yX12_keptOn, cX12_keptOn, 4, (some .int))
theorem mtX12_keptOn : pm_mt MX12_keptOn 2 := ⟨by decide, pm_T_in (List.mem_of_getElem? (i := 1161) (by decide +kernel)) rfl, pm_T_in (List.mem_of_getElem? (i := 62) (by decide +kernel)) rfl, ⟨by decide, by decide⟩, by decide +kernel, by decide⟩
theorem imX12_keptOn : Cond.instanceMethod yX12_keptOn ∈ pm_T := pm_T_in (List.mem_of_getElem? (i := 1160) (by decide +kernel)) rfl
theorem ivX12_keptOn : pm_iv MX12_keptOn := ⟨imX12_keptOn, pm_T_in (List.mem_of_getElem? (i := 29) (by decide +kernel)) rfl⟩
def MX12_held : pm_M := (yX12_held, cX12_held, 4, (some .int))
theorem mtX12_held : pm_mt MX12_held 3 := ⟨by decide, pm_T_in (List.mem_of_getElem? (i := 1165) (by decide +kernel)) rfl, pm_T_in (List.mem_of_getElem? (i := 62) (by decide +kernel)) rfl, ⟨by decide, by decide⟩, by decide +kernel, by decide⟩
theorem imX12_held : Cond.instanceMethod yX12_held ∈ pm_T := pm_T_in (List.mem_of_getElem? (i := 1163) (by decide +kernel)) rfl
theorem ivX12_held : pm_iv MX12_held := ⟨imX12_held, pm_T_in (List.mem_of_getElem? (i := 1164) (by decide +kernel)) rfl⟩
def MX12_owners : pm_M := (yX12_owners, cX12_owners, 5, (some .int))
theorem mtX12_owners : pm_mt MX12_owners 2 := ⟨by decide, pm_T_in (List.mem_of_getElem? (i := 1169) (by decide +kernel)) rfl, pm_T_in (List.mem_of_getElem? (i := 62) (by decide +kernel)) rfl, ⟨by decide, by decide⟩, by decide +kernel, by decide⟩
theorem imX12_owners : Cond.instanceMethod yX12_owners ∈ pm_T := pm_T_in (List.mem_of_getElem? (i := 1167) (by decide +kernel)) rfl
theorem ivX12_owners : pm_iv MX12_owners := ⟨imX12_owners, pm_T_in (List.mem_of_getElem? (i := 1168) (by decide +kernel)) rfl⟩
def MX12_gather : pm_M := (yX12_gather, cX12_gather, 6, (some .int))
theorem mtX12_gather : pm_mt MX12_gather 4 := ⟨by decide, pm_T_in (List.mem_of_getElem? (i := 1173) (by decide +kernel)) rfl, pm_T_in (List.mem_of_getElem? (i := 62) (by decide +kernel)) rfl, ⟨by decide, by decide⟩, by decide +kernel, by decide⟩
theorem imX12_gather : Cond.instanceMethod yX12_gather ∈ pm_T := pm_T_in (List.mem_of_getElem? (i := 1171) (by decide +kernel)) rfl
theorem ivX12_gather : pm_iv MX12_gather := ⟨imX12_gather, pm_T_in (List.mem_of_getElem? (i := 1172) (by decide +kernel)) rfl⟩
def MX12_isSeason : pm_M := (yX12_isSeason, cX12_isSeason, 1, (some .boolean))
theorem mtX12_isSeason : pm_mt MX12_isSeason 1 := ⟨by decide, pm_T_in (List.mem_of_getElem? (i := 1176) (by decide +kernel)) rfl, pm_T_in (List.mem_of_getElem? (i := 62) (by decide +kernel)) rfl, ⟨by decide, by decide⟩, by decide +kernel, by decide⟩
theorem stX12_isSeason : Cond.static yX12_isSeason ∈ pm_T := pm_T_in (List.mem_of_getElem? (i := 1175) (by decide +kernel)) rfl
def MX12_areGuests : pm_M := (yX12_areGuests, cX12_areGuests, 1, (some .boolean))
theorem mtX12_areGuests : pm_mt MX12_areGuests 1 := ⟨by decide, pm_T_in (List.mem_of_getElem? (i := 1179) (by decide +kernel)) rfl, pm_T_in (List.mem_of_getElem? (i := 62) (by decide +kernel)) rfl, ⟨by decide, by decide⟩, by decide +kernel, by decide⟩
theorem stX12_areGuests : Cond.static yX12_areGuests ∈ pm_T := pm_T_in (List.mem_of_getElem? (i := 1178) (by decide +kernel)) rfl
def MX12_isSet : pm_M := (yX12_isSet, cX12_isSet, 4, (some .boolean))
theorem mtX12_isSet : pm_mt MX12_isSet 1 := ⟨by decide, pm_T_in (List.mem_of_getElem? (i := 1183) (by decide +kernel)) rfl, pm_T_in (List.mem_of_getElem? (i := 62) (by decide +kernel)) rfl, ⟨by decide, by decide⟩, by decide +kernel, by decide⟩
theorem imX12_isSet : Cond.instanceMethod yX12_isSet ∈ pm_T := pm_T_in (List.mem_of_getElem? (i := 1182) (by decide +kernel)) rfl
theorem ivX12_isSet : pm_iv MX12_isSet := ⟨imX12_isSet, pm_T_in (List.mem_of_getElem? (i := 30) (by decide +kernel)) rfl⟩
def MX12_gathering : pm_M := (yX12_gathering, cX12_gathering, 3, (some .int))
theorem mtX12_gathering : pm_mt MX12_gathering 2 := ⟨by decide, pm_T_in (List.mem_of_getElem? (i := 1187) (by decide +kernel)) rfl, pm_T_in (List.mem_of_getElem? (i := 62) (by decide +kernel)) rfl, ⟨by decide, by decide⟩, by decide +kernel, by decide⟩
theorem imX12_gathering : Cond.instanceMethod yX12_gathering ∈ pm_T := pm_T_in (List.mem_of_getElem? (i := 1185) (by decide +kernel)) rfl
theorem ivX12_gathering : pm_iv MX12_gathering := ⟨imX12_gathering, pm_T_in (List.mem_of_getElem? (i := 1186) (by decide +kernel)) rfl⟩
def MX12_seen : pm_M := (yX12_seen, cX12_seen, 4, (some .int))
theorem mtX12_seen : pm_mt MX12_seen 3 := ⟨by decide, pm_T_in (List.mem_of_getElem? (i := 1191) (by decide +kernel)) rfl, pm_T_in (List.mem_of_getElem? (i := 62) (by decide +kernel)) rfl, ⟨by decide, by decide⟩, by decide +kernel, by decide⟩
theorem imX12_seen : Cond.instanceMethod yX12_seen ∈ pm_T := pm_T_in (List.mem_of_getElem? (i := 1189) (by decide +kernel)) rfl
theorem ivX12_seen : pm_iv MX12_seen := ⟨imX12_seen, pm_T_in (List.mem_of_getElem? (i := 1190) (by decide +kernel)) rfl⟩
def MX12_seenOf : pm_M := (yX12_seenOf, cX12_seenOf, 6, (some .int))
theorem mtX12_seenOf : pm_mt MX12_seenOf 3 := ⟨by decide, pm_T_in (List.mem_of_getElem? (i := 1195) (by decide +kernel)) rfl, pm_T_in (List.mem_of_getElem? (i := 62) (by decide +kernel)) rfl, ⟨by decide, by decide⟩, by decide +kernel, by decide⟩
theorem imX12_seenOf : Cond.instanceMethod yX12_seenOf ∈ pm_T := pm_T_in (List.mem_of_getElem? (i := 1194) (by decide +kernel)) rfl
theorem ivX12_seenOf : pm_iv MX12_seenOf := ⟨imX12_seenOf, pm_T_in (List.mem_of_getElem? (i := 31) (by decide +kernel)) rfl⟩
def MX12_again : pm_M := (yX12_again, cX12_again, 3, (some .int))
theorem mtX12_again : pm_mt MX12_again 2 := ⟨by decide, pm_T_in (List.mem_of_getElem? (i := 1199) (by decide +kernel)) rfl, pm_T_in (List.mem_of_getElem? (i := 62) (by decide +kernel)) rfl, ⟨by decide, by decide⟩, by decide +kernel, by decide⟩
theorem imX12_again : Cond.instanceMethod yX12_again ∈ pm_T := pm_T_in (List.mem_of_getElem? (i := 1197) (by decide +kernel)) rfl
theorem ivX12_again : pm_iv MX12_again := ⟨imX12_again, pm_T_in (List.mem_of_getElem? (i := 1198) (by decide +kernel)) rfl⟩
def MX12_againOf : pm_M := (yX12_againOf, cX12_againOf, 7, (some .int))
theorem mtX12_againOf : pm_mt MX12_againOf 2 := ⟨by decide, pm_T_in (List.mem_of_getElem? (i := 1203) (by decide +kernel)) rfl, pm_T_in (List.mem_of_getElem? (i := 62) (by decide +kernel)) rfl, ⟨by decide, by decide⟩, by decide +kernel, by decide⟩
theorem imX12_againOf : Cond.instanceMethod yX12_againOf ∈ pm_T := pm_T_in (List.mem_of_getElem? (i := 1202) (by decide +kernel)) rfl
theorem ivX12_againOf : pm_iv MX12_againOf := ⟨imX12_againOf, pm_T_in (List.mem_of_getElem? (i := 32) (by decide +kernel)) rfl⟩
def MX12_feed : pm_M := (yX12_feed, cX12_feed, 8, (some .int))
theorem mtX12_feed : pm_mt MX12_feed 5 := ⟨by decide, pm_T_in (List.mem_of_getElem? (i := 1207) (by decide +kernel)) rfl, pm_T_in (List.mem_of_getElem? (i := 62) (by decide +kernel)) rfl, ⟨by decide, by decide⟩, by decide +kernel, by decide⟩
theorem imX12_feed : Cond.instanceMethod yX12_feed ∈ pm_T := pm_T_in (List.mem_of_getElem? (i := 1205) (by decide +kernel)) rfl
theorem ivX12_feed : pm_iv MX12_feed := ⟨imX12_feed, pm_T_in (List.mem_of_getElem? (i := 1206) (by decide +kernel)) rfl⟩
def MX12_end : pm_M := (yX12_end, cX12_end, 2, (some .boolean))
theorem mtX12_end : pm_mt MX12_end 1 := ⟨by decide, pm_T_in (List.mem_of_getElem? (i := 1211) (by decide +kernel)) rfl, pm_T_in (List.mem_of_getElem? (i := 62) (by decide +kernel)) rfl, ⟨by decide, by decide⟩, by decide +kernel, by decide⟩
theorem imX12_end : Cond.instanceMethod yX12_end ∈ pm_T := pm_T_in (List.mem_of_getElem? (i := 1209) (by decide +kernel)) rfl
theorem ivX12_end : pm_iv MX12_end := ⟨imX12_end, pm_T_in (List.mem_of_getElem? (i := 1210) (by decide +kernel)) rfl⟩
def MX12_rules : pm_M := (yX12_rules, cX12_rules, 3, (some .int))
theorem mtX12_rules : pm_mt MX12_rules 0 := ⟨by decide, pm_T_in (List.mem_of_getElem? (i := 1215) (by decide +kernel)) rfl, pm_T_in (List.mem_of_getElem? (i := 62) (by decide +kernel)) rfl, ⟨by decide, by decide⟩, by decide +kernel, by decide⟩
theorem imX12_rules : Cond.instanceMethod yX12_rules ∈ pm_T := pm_T_in (List.mem_of_getElem? (i := 1213) (by decide +kernel)) rfl
theorem ivX12_rules : pm_iv MX12_rules := ⟨imX12_rules, pm_T_in (List.mem_of_getElem? (i := 1214) (by decide +kernel)) rfl⟩
def MX12_next0 : pm_M := (yX12_next0, cX12_next0, 5, none)
theorem mtX12_next0 : pm_mt MX12_next0 0 := ⟨by decide, pm_T_in (List.mem_of_getElem? (i := 1219) (by decide +kernel)) rfl, pm_T_in (List.mem_of_getElem? (i := 62) (by decide +kernel)) rfl, ⟨by decide, by decide⟩, by decide +kernel, by decide⟩
theorem imX12_next0 : Cond.instanceMethod yX12_next0 ∈ pm_T := pm_T_in (List.mem_of_getElem? (i := 1218) (by decide +kernel)) rfl
theorem ivX12_next0 : pm_iv MX12_next0 := ⟨imX12_next0, pm_T_in (List.mem_of_getElem? (i := 33) (by decide +kernel)) rfl⟩
def MX12_see : pm_M := (yX12_see, cX12_see, 2, (some .int))
theorem mtX12_see : pm_mt MX12_see 1 := ⟨by decide, pm_T_in (List.mem_of_getElem? (i := 1223) (by decide +kernel)) rfl, pm_T_in (List.mem_of_getElem? (i := 62) (by decide +kernel)) rfl, ⟨by decide, by decide⟩, by decide +kernel, by decide⟩
theorem imX12_see : Cond.instanceMethod yX12_see ∈ pm_T := pm_T_in (List.mem_of_getElem? (i := 1222) (by decide +kernel)) rfl
theorem ivX12_see : pm_iv MX12_see := ⟨imX12_see, pm_T_in (List.mem_of_getElem? (i := 34) (by decide +kernel)) rfl⟩
def MX12_isLetter : pm_M := (yX12_isLetter, cX12_isLetter, 1, (some .boolean))
theorem mtX12_isLetter : pm_mt MX12_isLetter 1 := ⟨by decide, pm_T_in (List.mem_of_getElem? (i := 1226) (by decide +kernel)) rfl, pm_T_in (List.mem_of_getElem? (i := 62) (by decide +kernel)) rfl, ⟨by decide, by decide⟩, by decide +kernel, by decide⟩
theorem stX12_isLetter : Cond.static yX12_isLetter ∈ pm_T := pm_T_in (List.mem_of_getElem? (i := 1225) (by decide +kernel)) rfl
def MX12_word : pm_M := (yX12_word, cX12_word, 2, (some .int))
theorem mtX12_word : pm_mt MX12_word 1 := ⟨by decide, pm_T_in (List.mem_of_getElem? (i := 1229) (by decide +kernel)) rfl, pm_T_in (List.mem_of_getElem? (i := 62) (by decide +kernel)) rfl, ⟨by decide, by decide⟩, by decide +kernel, by decide⟩
theorem stX12_word : Cond.static yX12_word ∈ pm_T := pm_T_in (List.mem_of_getElem? (i := 1228) (by decide +kernel)) rfl
def MX12_isDigit : pm_M := (yX12_isDigit, cX12_isDigit, 1, (some .boolean))
theorem mtX12_isDigit : pm_mt MX12_isDigit 1 := ⟨by decide, pm_T_in (List.mem_of_getElem? (i := 1247) (by decide +kernel)) rfl, pm_T_in (List.mem_of_getElem? (i := 62) (by decide +kernel)) rfl, ⟨by decide, by decide⟩, by decide +kernel, by decide⟩
theorem stX12_isDigit : Cond.static yX12_isDigit ∈ pm_T := pm_T_in (List.mem_of_getElem? (i := 1246) (by decide +kernel)) rfl
def MX12_aRule : pm_M := (yX12_aRule, cX12_aRule, 1, (some .boolean))
theorem mtX12_aRule : pm_mt MX12_aRule 0 := ⟨by decide, pm_T_in (List.mem_of_getElem? (i := 1251) (by decide +kernel)) rfl, pm_T_in (List.mem_of_getElem? (i := 62) (by decide +kernel)) rfl, ⟨by decide, by decide⟩, by decide +kernel, by decide⟩
theorem imX12_aRule : Cond.instanceMethod yX12_aRule ∈ pm_T := pm_T_in (List.mem_of_getElem? (i := 1250) (by decide +kernel)) rfl
theorem ivX12_aRule : pm_iv MX12_aRule := ⟨imX12_aRule, pm_T_in (List.mem_of_getElem? (i := 35) (by decide +kernel)) rfl⟩
def MX12_bad : pm_M := (yX12_bad, cX12_bad, 2, (some .boolean))
theorem mtX12_bad : pm_mt MX12_bad 1 := ⟨by decide, pm_T_in (List.mem_of_getElem? (i := 1255) (by decide +kernel)) rfl, pm_T_in (List.mem_of_getElem? (i := 62) (by decide +kernel)) rfl, ⟨by decide, by decide⟩, by decide +kernel, by decide⟩
theorem imX12_bad : Cond.instanceMethod yX12_bad ∈ pm_T := pm_T_in (List.mem_of_getElem? (i := 1254) (by decide +kernel)) rfl
theorem ivX12_bad : pm_iv MX12_bad := ⟨imX12_bad, pm_T_in (List.mem_of_getElem? (i := 36) (by decide +kernel)) rfl⟩
def MX12_any : pm_M := (yX12_any, cX12_any, 1, (some .boolean))
theorem mtX12_any : pm_mt MX12_any 0 := ⟨by decide, pm_T_in (List.mem_of_getElem? (i := 1259) (by decide +kernel)) rfl, pm_T_in (List.mem_of_getElem? (i := 62) (by decide +kernel)) rfl, ⟨by decide, by decide⟩, by decide +kernel, by decide⟩
theorem imX12_any : Cond.instanceMethod yX12_any ∈ pm_T := pm_T_in (List.mem_of_getElem? (i := 1258) (by decide +kernel)) rfl
theorem ivX12_any : pm_iv MX12_any := ⟨imX12_any, pm_T_in (List.mem_of_getElem? (i := 37) (by decide +kernel)) rfl⟩
def MX12_all : pm_M := (yX12_all, cX12_all, 1, (some .boolean))
theorem mtX12_all : pm_mt MX12_all 0 := ⟨by decide, pm_T_in (List.mem_of_getElem? (i := 1263) (by decide +kernel)) rfl, pm_T_in (List.mem_of_getElem? (i := 62) (by decide +kernel)) rfl, ⟨by decide, by decide⟩, by decide +kernel, by decide⟩
theorem imX12_all : Cond.instanceMethod yX12_all ∈ pm_T := pm_T_in (List.mem_of_getElem? (i := 1262) (by decide +kernel)) rfl
theorem ivX12_all : pm_iv MX12_all := ⟨imX12_all, pm_T_in (List.mem_of_getElem? (i := 38) (by decide +kernel)) rfl⟩
def MX12_one : pm_M := (yX12_one, cX12_one, 2, (some .boolean))
theorem mtX12_one : pm_mt MX12_one 0 := ⟨by decide, pm_T_in (List.mem_of_getElem? (i := 1267) (by decide +kernel)) rfl, pm_T_in (List.mem_of_getElem? (i := 62) (by decide +kernel)) rfl, ⟨by decide, by decide⟩, by decide +kernel, by decide⟩
theorem imX12_one : Cond.instanceMethod yX12_one ∈ pm_T := pm_T_in (List.mem_of_getElem? (i := 1266) (by decide +kernel)) rfl
theorem ivX12_one : pm_iv MX12_one := ⟨imX12_one, pm_T_in (List.mem_of_getElem? (i := 39) (by decide +kernel)) rfl⟩
def MX12_opens : pm_M := (yX12_opens, cX12_opens, 1, (some .boolean))
theorem mtX12_opens : pm_mt MX12_opens 0 := ⟨by decide, pm_T_in (List.mem_of_getElem? (i := 1271) (by decide +kernel)) rfl, pm_T_in (List.mem_of_getElem? (i := 62) (by decide +kernel)) rfl, ⟨by decide, by decide⟩, by decide +kernel, by decide⟩
theorem imX12_opens : Cond.instanceMethod yX12_opens ∈ pm_T := pm_T_in (List.mem_of_getElem? (i := 1270) (by decide +kernel)) rfl
theorem ivX12_opens : pm_iv MX12_opens := ⟨imX12_opens, pm_T_in (List.mem_of_getElem? (i := 40) (by decide +kernel)) rfl⟩
def MX12_lay : pm_M := (yX12_lay, cX12_lay, 2, none)
theorem mtX12_lay : pm_mt MX12_lay 1 := ⟨by decide, pm_T_in (List.mem_of_getElem? (i := 1275) (by decide +kernel)) rfl, pm_T_in (List.mem_of_getElem? (i := 62) (by decide +kernel)) rfl, ⟨by decide, by decide⟩, by decide +kernel, by decide⟩
theorem imX12_lay : Cond.instanceMethod yX12_lay ∈ pm_T := pm_T_in (List.mem_of_getElem? (i := 1274) (by decide +kernel)) rfl
theorem ivX12_lay : pm_iv MX12_lay := ⟨imX12_lay, pm_T_in (List.mem_of_getElem? (i := 41) (by decide +kernel)) rfl⟩
def MX12_need : pm_M := (yX12_need, cX12_need, 2, (some .boolean))
theorem mtX12_need : pm_mt MX12_need 1 := ⟨by decide, pm_T_in (List.mem_of_getElem? (i := 1279) (by decide +kernel)) rfl, pm_T_in (List.mem_of_getElem? (i := 62) (by decide +kernel)) rfl, ⟨by decide, by decide⟩, by decide +kernel, by decide⟩
theorem imX12_need : Cond.instanceMethod yX12_need ∈ pm_T := pm_T_in (List.mem_of_getElem? (i := 1278) (by decide +kernel)) rfl
theorem ivX12_need : pm_iv MX12_need := ⟨imX12_need, pm_T_in (List.mem_of_getElem? (i := 42) (by decide +kernel)) rfl⟩
def MX12_term : pm_M := (yX12_term, cX12_term, 2, (some .boolean))
theorem mtX12_term : pm_mt MX12_term 0 := ⟨by decide, pm_T_in (List.mem_of_getElem? (i := 1283) (by decide +kernel)) rfl, pm_T_in (List.mem_of_getElem? (i := 62) (by decide +kernel)) rfl, ⟨by decide, by decide⟩, by decide +kernel, by decide⟩
theorem imX12_term : Cond.instanceMethod yX12_term ∈ pm_T := pm_T_in (List.mem_of_getElem? (i := 1282) (by decide +kernel)) rfl
theorem ivX12_term : pm_iv MX12_term := ⟨imX12_term, pm_T_in (List.mem_of_getElem? (i := 43) (by decide +kernel)) rfl⟩
def MX12_fault : pm_M := (yX12_fault, cX12_fault, 2, (some .int))
theorem mtX12_fault : pm_mt MX12_fault 1 := ⟨by decide, pm_T_in (List.mem_of_getElem? (i := 1287) (by decide +kernel)) rfl, pm_T_in (List.mem_of_getElem? (i := 62) (by decide +kernel)) rfl, ⟨by decide, by decide⟩, by decide +kernel, by decide⟩
theorem imX12_fault : Cond.instanceMethod yX12_fault ∈ pm_T := pm_T_in (List.mem_of_getElem? (i := 1285) (by decide +kernel)) rfl
theorem ivX12_fault : pm_iv MX12_fault := ⟨imX12_fault, pm_T_in (List.mem_of_getElem? (i := 1286) (by decide +kernel)) rfl⟩
def MX12_barred : pm_M := (yX12_barred, cX12_barred, 4, (some .int))
theorem mtX12_barred : pm_mt MX12_barred 3 := ⟨by decide, pm_T_in (List.mem_of_getElem? (i := 1291) (by decide +kernel)) rfl, pm_T_in (List.mem_of_getElem? (i := 62) (by decide +kernel)) rfl, ⟨by decide, by decide⟩, by decide +kernel, by decide⟩
theorem imX12_barred : Cond.instanceMethod yX12_barred ∈ pm_T := pm_T_in (List.mem_of_getElem? (i := 1289) (by decide +kernel)) rfl
theorem ivX12_barred : pm_iv MX12_barred := ⟨imX12_barred, pm_T_in (List.mem_of_getElem? (i := 1290) (by decide +kernel)) rfl⟩
def MX12_barredBy : pm_M := (yX12_barredBy, cX12_barredBy, 5, (some .int))
theorem mtX12_barredBy : pm_mt MX12_barredBy 3 := ⟨by decide, pm_T_in (List.mem_of_getElem? (i := 1295) (by decide +kernel)) rfl, pm_T_in (List.mem_of_getElem? (i := 62) (by decide +kernel)) rfl, ⟨by decide, by decide⟩, by decide +kernel, by decide⟩
theorem imX12_barredBy : Cond.instanceMethod yX12_barredBy ∈ pm_T := pm_T_in (List.mem_of_getElem? (i := 1294) (by decide +kernel)) rfl
theorem ivX12_barredBy : pm_iv MX12_barredBy := ⟨imX12_barredBy, pm_T_in (List.mem_of_getElem? (i := 44) (by decide +kernel)) rfl⟩
def MX12_isSo : pm_M := (yX12_isSo, cX12_isSo, 8, (some .boolean))
theorem mtX12_isSo : pm_mt MX12_isSo 4 := ⟨by decide, pm_T_in (List.mem_of_getElem? (i := 1299) (by decide +kernel)) rfl, pm_T_in (List.mem_of_getElem? (i := 62) (by decide +kernel)) rfl, ⟨by decide, by decide⟩, by decide +kernel, by decide⟩
theorem imX12_isSo : Cond.instanceMethod yX12_isSo ∈ pm_T := pm_T_in (List.mem_of_getElem? (i := 1298) (by decide +kernel)) rfl
theorem ivX12_isSo : pm_iv MX12_isSo := ⟨imX12_isSo, pm_T_in (List.mem_of_getElem? (i := 45) (by decide +kernel)) rfl⟩
def MX12_known : pm_M := (yX12_known, cX12_known, 6, (some .int))
theorem mtX12_known : pm_mt MX12_known 4 := ⟨by decide, pm_T_in (List.mem_of_getElem? (i := 1303) (by decide +kernel)) rfl, pm_T_in (List.mem_of_getElem? (i := 62) (by decide +kernel)) rfl, ⟨by decide, by decide⟩, by decide +kernel, by decide⟩
theorem imX12_known : Cond.instanceMethod yX12_known ∈ pm_T := pm_T_in (List.mem_of_getElem? (i := 1302) (by decide +kernel)) rfl
theorem ivX12_known : pm_iv MX12_known := ⟨imX12_known, pm_T_in (List.mem_of_getElem? (i := 46) (by decide +kernel)) rfl⟩
def MX12_bits : pm_M := (yX12_bits, cX12_bits, 3, (some .int))
theorem mtX12_bits : pm_mt MX12_bits 1 := ⟨by decide, pm_T_in (List.mem_of_getElem? (i := 1306) (by decide +kernel)) rfl, pm_T_in (List.mem_of_getElem? (i := 62) (by decide +kernel)) rfl, ⟨by decide, by decide⟩, by decide +kernel, by decide⟩
theorem stX12_bits : Cond.static yX12_bits ∈ pm_T := pm_T_in (List.mem_of_getElem? (i := 1305) (by decide +kernel)) rfl
def MX12_both : pm_M := (yX12_both, cX12_both, 3, (some .int))
theorem mtX12_both : pm_mt MX12_both 3 := ⟨by decide, pm_T_in (List.mem_of_getElem? (i := 1309) (by decide +kernel)) rfl, pm_T_in (List.mem_of_getElem? (i := 62) (by decide +kernel)) rfl, ⟨by decide, by decide⟩, by decide +kernel, by decide⟩
theorem stX12_both : Cond.static yX12_both ∈ pm_T := pm_T_in (List.mem_of_getElem? (i := 1308) (by decide +kernel)) rfl
def MX12_best : pm_M := (yX12_best, cX12_best, 6, (some .int))
theorem mtX12_best : pm_mt MX12_best 5 := ⟨by decide, pm_T_in (List.mem_of_getElem? (i := 1313) (by decide +kernel)) rfl, pm_T_in (List.mem_of_getElem? (i := 62) (by decide +kernel)) rfl, ⟨by decide, by decide⟩, by decide +kernel, by decide⟩
theorem imX12_best : Cond.instanceMethod yX12_best ∈ pm_T := pm_T_in (List.mem_of_getElem? (i := 1311) (by decide +kernel)) rfl
theorem ivX12_best : pm_iv MX12_best := ⟨imX12_best, pm_T_in (List.mem_of_getElem? (i := 1312) (by decide +kernel)) rfl⟩
def MX12_finds : pm_M := (yX12_finds, cX12_finds, 8, none)
theorem mtX12_finds : pm_mt MX12_finds 4 := ⟨by decide, pm_T_in (List.mem_of_getElem? (i := 1317) (by decide +kernel)) rfl, pm_T_in (List.mem_of_getElem? (i := 62) (by decide +kernel)) rfl, ⟨by decide, by decide⟩, by decide +kernel, by decide⟩
theorem imX12_finds : Cond.instanceMethod yX12_finds ∈ pm_T := pm_T_in (List.mem_of_getElem? (i := 1316) (by decide +kernel)) rfl
theorem ivX12_finds : pm_iv MX12_finds := ⟨imX12_finds, pm_T_in (List.mem_of_getElem? (i := 47) (by decide +kernel)) rfl⟩
def MX12_next : pm_M := (yX12_next, cX12_next, 6, (some .int))
theorem mtX12_next : pm_mt MX12_next 4 := ⟨by decide, pm_T_in (List.mem_of_getElem? (i := 1321) (by decide +kernel)) rfl, pm_T_in (List.mem_of_getElem? (i := 62) (by decide +kernel)) rfl, ⟨by decide, by decide⟩, by decide +kernel, by decide⟩
theorem imX12_next : Cond.instanceMethod yX12_next ∈ pm_T := pm_T_in (List.mem_of_getElem? (i := 1320) (by decide +kernel)) rfl
theorem ivX12_next : pm_iv MX12_next := ⟨imX12_next, pm_T_in (List.mem_of_getElem? (i := 48) (by decide +kernel)) rfl⟩
def MX12_isFit : pm_M := (yX12_isFit, cX12_isFit, 5, (some .boolean))
theorem mtX12_isFit : pm_mt MX12_isFit 4 := ⟨by decide, pm_T_in (List.mem_of_getElem? (i := 1325) (by decide +kernel)) rfl, pm_T_in (List.mem_of_getElem? (i := 62) (by decide +kernel)) rfl, ⟨by decide, by decide⟩, by decide +kernel, by decide⟩
theorem imX12_isFit : Cond.instanceMethod yX12_isFit ∈ pm_T := pm_T_in (List.mem_of_getElem? (i := 1324) (by decide +kernel)) rfl
theorem ivX12_isFit : pm_iv MX12_isFit := ⟨imX12_isFit, pm_T_in (List.mem_of_getElem? (i := 49) (by decide +kernel)) rfl⟩
def MX12_tries : pm_M := (yX12_tries, cX12_tries, 6, none)
theorem mtX12_tries : pm_mt MX12_tries 2 := ⟨by decide, pm_T_in (List.mem_of_getElem? (i := 1329) (by decide +kernel)) rfl, pm_T_in (List.mem_of_getElem? (i := 62) (by decide +kernel)) rfl, ⟨by decide, by decide⟩, by decide +kernel, by decide⟩
theorem imX12_tries : Cond.instanceMethod yX12_tries ∈ pm_T := pm_T_in (List.mem_of_getElem? (i := 1328) (by decide +kernel)) rfl
theorem ivX12_tries : pm_iv MX12_tries := ⟨imX12_tries, pm_T_in (List.mem_of_getElem? (i := 50) (by decide +kernel)) rfl⟩
theorem nlL_7 : pm_nl_ RL 7 11 := ⟨_, rfl, pm_T_in (List.mem_of_getElem? (i := 72) (by decide +kernel)) rfl, pm_T_in (List.mem_of_getElem? (i := 73) (by decide +kernel)) rfl, pm_T_in (List.mem_of_getElem? (i := 52) (by decide +kernel)) rfl⟩
theorem clL_7 : Cond.classLink RL 7 RX11 ∈ pm_T := pm_T_in (List.mem_of_getElem? (i := 72) (by decide +kernel)) rfl
theorem mlL_9 : Cond.methodLink RL 9 yX11_init ∈ pm_T := pm_T_in (List.mem_of_getElem? (i := 74) (by decide +kernel)) rfl
theorem mlX11_1 : Cond.methodLink RX11 1 Lib.objectInit ∈ pm_T := pm_T_in (List.mem_of_getElem? (i := 77) (by decide +kernel)) rfl
theorem nlX11_16 : pm_nl_ RX11 16 6 := ⟨_, rfl, pm_T_in (List.mem_of_getElem? (i := 80) (by decide +kernel)) rfl, pm_T_in (List.mem_of_getElem? (i := 81) (by decide +kernel)) rfl, pm_T_in (List.mem_of_getElem? (i := 53) (by decide +kernel)) rfl⟩
theorem clX11_16 : Cond.classLink RX11 16 RX6 ∈ pm_T := pm_T_in (List.mem_of_getElem? (i := 80) (by decide +kernel)) rfl
theorem mlX11_18 : (RX11, 18, yX6_init, "TeaBook") ∈ pm_ne := by decide
theorem mlX6_3 : Cond.methodLink RX6 3 Lib.objectInit ∈ pm_T := pm_T_in (List.mem_of_getElem? (i := 85) (by decide +kernel)) rfl
theorem nlX6_9 : pm_nl_ RX6 9 9 := ⟨_, rfl, pm_T_in (List.mem_of_getElem? (i := 86) (by decide +kernel)) rfl, pm_T_in (List.mem_of_getElem? (i := 362) (by decide +kernel)) rfl, pm_T_in (List.mem_of_getElem? (i := 64) (by decide +kernel)) rfl⟩
theorem clX6_9 : Cond.classLink RX6 9 RX9 ∈ pm_T := pm_T_in (List.mem_of_getElem? (i := 86) (by decide +kernel)) rfl
theorem flX6_11 : pm_fl RX6 11 6 0 := ⟨_, rfl, by decide, pm_T_in (List.mem_of_getElem? (i := 88) (by decide +kernel)) rfl⟩
theorem flX6_17 : pm_fl RX6 17 6 1 := ⟨_, rfl, by decide, pm_T_in (List.mem_of_getElem? (i := 89) (by decide +kernel)) rfl⟩
theorem nlX11_23 : pm_nl_ RX11 23 3 := ⟨_, rfl, pm_T_in (List.mem_of_getElem? (i := 95) (by decide +kernel)) rfl, pm_T_in (List.mem_of_getElem? (i := 96) (by decide +kernel)) rfl, pm_T_in (List.mem_of_getElem? (i := 54) (by decide +kernel)) rfl⟩
theorem clX11_23 : Cond.classLink RX11 23 RX3 ∈ pm_T := pm_T_in (List.mem_of_getElem? (i := 95) (by decide +kernel)) rfl
theorem mlX11_25 : (RX11, 25, yX3_init, "TeaBook") ∈ pm_ne := by decide
theorem mlX3_3 : Cond.methodLink RX3 3 Lib.objectInit ∈ pm_T := pm_T_in (List.mem_of_getElem? (i := 100) (by decide +kernel)) rfl
theorem clX3_11 : Cond.classLink RX3 11 "[[I" ∈ pm_T := pm_T_in (List.mem_of_getElem? (i := 101) (by decide +kernel)) rfl
theorem flX3_13 : pm_fl RX3 13 3 0 := ⟨_, rfl, by decide, pm_T_in (List.mem_of_getElem? (i := 103) (by decide +kernel)) rfl⟩
theorem flX3_16 : pm_fl RX3 16 3 1 := ⟨_, rfl, by decide, pm_T_in (List.mem_of_getElem? (i := 104) (by decide +kernel)) rfl⟩
theorem flX3_20 : pm_fl RX3 20 3 2 := ⟨_, rfl, by decide, pm_T_in (List.mem_of_getElem? (i := 105) (by decide +kernel)) rfl⟩
theorem ac_int : Cond.arrayClass .int ∈ pm_T := pm_T_in (List.mem_of_getElem? (i := 113) (by decide +kernel)) rfl
theorem nlX11_30 : pm_nl_ RX11 30 7 := ⟨_, rfl, pm_T_in (List.mem_of_getElem? (i := 114) (by decide +kernel)) rfl, pm_T_in (List.mem_of_getElem? (i := 115) (by decide +kernel)) rfl, pm_T_in (List.mem_of_getElem? (i := 55) (by decide +kernel)) rfl⟩
theorem clX11_30 : Cond.classLink RX11 30 RX7 ∈ pm_T := pm_T_in (List.mem_of_getElem? (i := 114) (by decide +kernel)) rfl
theorem mlX11_32 : (RX11, 32, yX7_init, "TeaBook") ∈ pm_ne := by decide
theorem mlX7_3 : Cond.methodLink RX7 3 Lib.objectInit ∈ pm_T := pm_T_in (List.mem_of_getElem? (i := 119) (by decide +kernel)) rfl
theorem flX7_11 : pm_fl RX7 11 7 0 := ⟨_, rfl, by decide, pm_T_in (List.mem_of_getElem? (i := 120) (by decide +kernel)) rfl⟩
theorem flX7_15 : pm_fl RX7 15 7 1 := ⟨_, rfl, by decide, pm_T_in (List.mem_of_getElem? (i := 121) (by decide +kernel)) rfl⟩
theorem ac_byte : Cond.arrayClass .byte ∈ pm_T := pm_T_in (List.mem_of_getElem? (i := 127) (by decide +kernel)) rfl
theorem nlX11_37 : pm_nl_ RX11 37 4 := ⟨_, rfl, pm_T_in (List.mem_of_getElem? (i := 128) (by decide +kernel)) rfl, pm_T_in (List.mem_of_getElem? (i := 129) (by decide +kernel)) rfl, pm_T_in (List.mem_of_getElem? (i := 56) (by decide +kernel)) rfl⟩
theorem clX11_37 : Cond.classLink RX11 37 RX4 ∈ pm_T := pm_T_in (List.mem_of_getElem? (i := 128) (by decide +kernel)) rfl
theorem mlX11_39 : (RX11, 39, yX4_init, "TeaBook") ∈ pm_ne := by decide
theorem mlX4_3 : Cond.methodLink RX4 3 Lib.objectInit ∈ pm_T := pm_T_in (List.mem_of_getElem? (i := 133) (by decide +kernel)) rfl
theorem flX4_11 : pm_fl RX4 11 4 0 := ⟨_, rfl, by decide, pm_T_in (List.mem_of_getElem? (i := 134) (by decide +kernel)) rfl⟩
theorem flX4_15 : pm_fl RX4 15 4 1 := ⟨_, rfl, by decide, pm_T_in (List.mem_of_getElem? (i := 135) (by decide +kernel)) rfl⟩
theorem flX4_18 : pm_fl RX4 18 4 2 := ⟨_, rfl, by decide, pm_T_in (List.mem_of_getElem? (i := 136) (by decide +kernel)) rfl⟩
theorem flX4_21 : pm_fl RX4 21 4 3 := ⟨_, rfl, by decide, pm_T_in (List.mem_of_getElem? (i := 137) (by decide +kernel)) rfl⟩
theorem flX4_28 : pm_fl RX4 28 4 4 := ⟨_, rfl, by decide, pm_T_in (List.mem_of_getElem? (i := 138) (by decide +kernel)) rfl⟩
theorem flX4_24 : pm_fl RX4 24 4 5 := ⟨_, rfl, by decide, pm_T_in (List.mem_of_getElem? (i := 139) (by decide +kernel)) rfl⟩
theorem nlX11_47 : pm_nl_ RX11 47 5 := ⟨_, rfl, pm_T_in (List.mem_of_getElem? (i := 153) (by decide +kernel)) rfl, pm_T_in (List.mem_of_getElem? (i := 154) (by decide +kernel)) rfl, pm_T_in (List.mem_of_getElem? (i := 57) (by decide +kernel)) rfl⟩
theorem clX11_47 : Cond.classLink RX11 47 RX5 ∈ pm_T := pm_T_in (List.mem_of_getElem? (i := 153) (by decide +kernel)) rfl
theorem mlX11_49 : Cond.methodLink RX11 49 yX5_init ∈ pm_T := pm_T_in (List.mem_of_getElem? (i := 155) (by decide +kernel)) rfl
theorem mlX5_3 : Cond.methodLink RX5 3 Lib.objectInit ∈ pm_T := pm_T_in (List.mem_of_getElem? (i := 158) (by decide +kernel)) rfl
theorem nlX5_9 : pm_nl_ RX5 9 10 := ⟨_, rfl, pm_T_in (List.mem_of_getElem? (i := 159) (by decide +kernel)) rfl, pm_T_in (List.mem_of_getElem? (i := 160) (by decide +kernel)) rfl, pm_T_in (List.mem_of_getElem? (i := 58) (by decide +kernel)) rfl⟩
theorem clX5_9 : Cond.classLink RX5 9 RX10 ∈ pm_T := pm_T_in (List.mem_of_getElem? (i := 159) (by decide +kernel)) rfl
theorem mlX5_11 : Cond.methodLink RX5 11 yX10_init ∈ pm_T := pm_T_in (List.mem_of_getElem? (i := 161) (by decide +kernel)) rfl
theorem mlX10_3 : Cond.methodLink RX10 3 Lib.objectInit ∈ pm_T := pm_T_in (List.mem_of_getElem? (i := 164) (by decide +kernel)) rfl
theorem flX10_21 : pm_fl RX10 21 10 0 := ⟨_, rfl, by decide, pm_T_in (List.mem_of_getElem? (i := 165) (by decide +kernel)) rfl⟩
theorem flX10_11 : pm_fl RX10 11 10 1 := ⟨_, rfl, by decide, pm_T_in (List.mem_of_getElem? (i := 166) (by decide +kernel)) rfl⟩
theorem flX10_15 : pm_fl RX10 15 10 2 := ⟨_, rfl, by decide, pm_T_in (List.mem_of_getElem? (i := 167) (by decide +kernel)) rfl⟩
theorem flX10_18 : pm_fl RX10 18 10 3 := ⟨_, rfl, by decide, pm_T_in (List.mem_of_getElem? (i := 168) (by decide +kernel)) rfl⟩
theorem flX10_25 : pm_fl RX10 25 10 4 := ⟨_, rfl, by decide, pm_T_in (List.mem_of_getElem? (i := 169) (by decide +kernel)) rfl⟩
theorem flX5_14 : pm_fl RX5 14 5 0 := ⟨_, rfl, by decide, pm_T_in (List.mem_of_getElem? (i := 181) (by decide +kernel)) rfl⟩
theorem flX5_20 : pm_fl RX5 20 5 1 := ⟨_, rfl, by decide, pm_T_in (List.mem_of_getElem? (i := 182) (by decide +kernel)) rfl⟩
theorem flX5_39 : pm_fl RX5 39 5 2 := ⟨_, rfl, by decide, pm_T_in (List.mem_of_getElem? (i := 183) (by decide +kernel)) rfl⟩
theorem flX5_46 : pm_fl RX5 46 5 3 := ⟨_, rfl, by decide, pm_T_in (List.mem_of_getElem? (i := 184) (by decide +kernel)) rfl⟩
theorem flX5_24 : pm_fl RX5 24 5 4 := ⟨_, rfl, by decide, pm_T_in (List.mem_of_getElem? (i := 185) (by decide +kernel)) rfl⟩
theorem flX11_242 : pm_fl RX11 242 5 4 := ⟨_, rfl, by decide, pm_T_in (List.mem_of_getElem? (i := 186) (by decide +kernel)) rfl⟩
theorem flX5_28 : pm_fl RX5 28 5 5 := ⟨_, rfl, by decide, pm_T_in (List.mem_of_getElem? (i := 187) (by decide +kernel)) rfl⟩
theorem flX11_245 : pm_fl RX11 245 5 5 := ⟨_, rfl, by decide, pm_T_in (List.mem_of_getElem? (i := 188) (by decide +kernel)) rfl⟩
theorem nlX11_56 : pm_nl_ RX11 56 8 := ⟨_, rfl, pm_T_in (List.mem_of_getElem? (i := 202) (by decide +kernel)) rfl, pm_T_in (List.mem_of_getElem? (i := 203) (by decide +kernel)) rfl, pm_T_in (List.mem_of_getElem? (i := 59) (by decide +kernel)) rfl⟩
theorem clX11_56 : Cond.classLink RX11 56 RX8 ∈ pm_T := pm_T_in (List.mem_of_getElem? (i := 202) (by decide +kernel)) rfl
theorem mlX11_58 : (RX11, 58, yX8_init, "TeaBook") ∈ pm_ne := by decide
theorem mlX8_3 : Cond.methodLink RX8 3 Lib.objectInit ∈ pm_T := pm_T_in (List.mem_of_getElem? (i := 207) (by decide +kernel)) rfl
theorem nlX8_9 : pm_nl_ RX8 9 9 := ⟨_, rfl, pm_T_in (List.mem_of_getElem? (i := 208) (by decide +kernel)) rfl, pm_T_in (List.mem_of_getElem? (i := 362) (by decide +kernel)) rfl, pm_T_in (List.mem_of_getElem? (i := 64) (by decide +kernel)) rfl⟩
theorem clX8_9 : Cond.classLink RX8 9 RX9 ∈ pm_T := pm_T_in (List.mem_of_getElem? (i := 208) (by decide +kernel)) rfl
theorem flX8_11 : pm_fl RX8 11 8 0 := ⟨_, rfl, by decide, pm_T_in (List.mem_of_getElem? (i := 209) (by decide +kernel)) rfl⟩
theorem nlX11_63 : pm_nl_ RX11 63 2 := ⟨_, rfl, pm_T_in (List.mem_of_getElem? (i := 213) (by decide +kernel)) rfl, pm_T_in (List.mem_of_getElem? (i := 214) (by decide +kernel)) rfl, pm_T_in (List.mem_of_getElem? (i := 60) (by decide +kernel)) rfl⟩
theorem clX11_63 : Cond.classLink RX11 63 RX2 ∈ pm_T := pm_T_in (List.mem_of_getElem? (i := 213) (by decide +kernel)) rfl
theorem mlX11_65 : (RX11, 65, yX2_init, "TeaBook") ∈ pm_ne := by decide
theorem mlX2_5 : Cond.methodLink RX2 5 Lib.objectInit ∈ pm_T := pm_T_in (List.mem_of_getElem? (i := 218) (by decide +kernel)) rfl
theorem flX2_11 : pm_fl RX2 11 2 0 := ⟨_, rfl, by decide, pm_T_in (List.mem_of_getElem? (i := 219) (by decide +kernel)) rfl⟩
theorem nlX11_70 : pm_nl_ RX11 70 1 := ⟨_, rfl, pm_T_in (List.mem_of_getElem? (i := 223) (by decide +kernel)) rfl, pm_T_in (List.mem_of_getElem? (i := 224) (by decide +kernel)) rfl, pm_T_in (List.mem_of_getElem? (i := 61) (by decide +kernel)) rfl⟩
theorem clX11_70 : Cond.classLink RX11 70 RX1 ∈ pm_T := pm_T_in (List.mem_of_getElem? (i := 223) (by decide +kernel)) rfl
theorem mlX11_72 : Cond.methodLink RX11 72 yX1_init ∈ pm_T := pm_T_in (List.mem_of_getElem? (i := 225) (by decide +kernel)) rfl
theorem mlX1_3 : Cond.methodLink RX1 3 Lib.objectInit ∈ pm_T := pm_T_in (List.mem_of_getElem? (i := 228) (by decide +kernel)) rfl
theorem nlX1_23 : pm_nl_ RX1 23 8 := ⟨_, rfl, pm_T_in (List.mem_of_getElem? (i := 229) (by decide +kernel)) rfl, pm_T_in (List.mem_of_getElem? (i := 203) (by decide +kernel)) rfl, pm_T_in (List.mem_of_getElem? (i := 59) (by decide +kernel)) rfl⟩
theorem clX1_23 : Cond.classLink RX1 23 RX8 ∈ pm_T := pm_T_in (List.mem_of_getElem? (i := 229) (by decide +kernel)) rfl
theorem mlX1_25 : (RX1, 25, yX8_init, "TeaBook") ∈ pm_ne := by decide
theorem nlX1_30 : pm_nl_ RX1 30 2 := ⟨_, rfl, pm_T_in (List.mem_of_getElem? (i := 231) (by decide +kernel)) rfl, pm_T_in (List.mem_of_getElem? (i := 214) (by decide +kernel)) rfl, pm_T_in (List.mem_of_getElem? (i := 60) (by decide +kernel)) rfl⟩
theorem clX1_30 : Cond.classLink RX1 30 RX2 ∈ pm_T := pm_T_in (List.mem_of_getElem? (i := 231) (by decide +kernel)) rfl
theorem mlX1_32 : (RX1, 32, yX2_init, "TeaBook") ∈ pm_ne := by decide
theorem flX1_9 : pm_fl RX1 9 1 0 := ⟨_, rfl, by decide, pm_T_in (List.mem_of_getElem? (i := 233) (by decide +kernel)) rfl⟩
theorem flX1_15 : pm_fl RX1 15 1 1 := ⟨_, rfl, by decide, pm_T_in (List.mem_of_getElem? (i := 234) (by decide +kernel)) rfl⟩
theorem flX1_26 : pm_fl RX1 26 1 2 := ⟨_, rfl, by decide, pm_T_in (List.mem_of_getElem? (i := 235) (by decide +kernel)) rfl⟩
theorem flX1_33 : pm_fl RX1 33 1 3 := ⟨_, rfl, by decide, pm_T_in (List.mem_of_getElem? (i := 236) (by decide +kernel)) rfl⟩
theorem flX1_19 : pm_fl RX1 19 1 4 := ⟨_, rfl, by decide, pm_T_in (List.mem_of_getElem? (i := 237) (by decide +kernel)) rfl⟩
theorem flX1_37 : pm_fl RX1 37 1 5 := ⟨_, rfl, by decide, pm_T_in (List.mem_of_getElem? (i := 238) (by decide +kernel)) rfl⟩
theorem flX1_41 : pm_fl RX1 41 1 6 := ⟨_, rfl, by decide, pm_T_in (List.mem_of_getElem? (i := 239) (by decide +kernel)) rfl⟩
theorem flX1_44 : pm_fl RX1 44 1 7 := ⟨_, rfl, by decide, pm_T_in (List.mem_of_getElem? (i := 240) (by decide +kernel)) rfl⟩
theorem flX1_51 : pm_fl RX1 51 1 8 := ⟨_, rfl, by decide, pm_T_in (List.mem_of_getElem? (i := 241) (by decide +kernel)) rfl⟩
theorem flX1_54 : pm_fl RX1 54 1 9 := ⟨_, rfl, by decide, pm_T_in (List.mem_of_getElem? (i := 242) (by decide +kernel)) rfl⟩
theorem flX1_57 : pm_fl RX1 57 1 10 := ⟨_, rfl, by decide, pm_T_in (List.mem_of_getElem? (i := 243) (by decide +kernel)) rfl⟩
theorem flX1_67 : pm_fl RX1 67 1 11 := ⟨_, rfl, by decide, pm_T_in (List.mem_of_getElem? (i := 244) (by decide +kernel)) rfl⟩
theorem flX1_70 : pm_fl RX1 70 1 12 := ⟨_, rfl, by decide, pm_T_in (List.mem_of_getElem? (i := 245) (by decide +kernel)) rfl⟩
theorem flX1_73 : pm_fl RX1 73 1 13 := ⟨_, rfl, by decide, pm_T_in (List.mem_of_getElem? (i := 246) (by decide +kernel)) rfl⟩
theorem flX11_7 : pm_fl RX11 7 11 0 := ⟨_, rfl, by decide, pm_T_in (List.mem_of_getElem? (i := 276) (by decide +kernel)) rfl⟩
theorem flX11_13 : pm_fl RX11 13 11 1 := ⟨_, rfl, by decide, pm_T_in (List.mem_of_getElem? (i := 277) (by decide +kernel)) rfl⟩
theorem flX11_19 : pm_fl RX11 19 11 2 := ⟨_, rfl, by decide, pm_T_in (List.mem_of_getElem? (i := 278) (by decide +kernel)) rfl⟩
theorem flX11_26 : pm_fl RX11 26 11 3 := ⟨_, rfl, by decide, pm_T_in (List.mem_of_getElem? (i := 279) (by decide +kernel)) rfl⟩
theorem flX11_33 : pm_fl RX11 33 11 4 := ⟨_, rfl, by decide, pm_T_in (List.mem_of_getElem? (i := 280) (by decide +kernel)) rfl⟩
theorem flX11_52 : pm_fl RX11 52 11 5 := ⟨_, rfl, by decide, pm_T_in (List.mem_of_getElem? (i := 281) (by decide +kernel)) rfl⟩
theorem flX11_40 : pm_fl RX11 40 11 6 := ⟨_, rfl, by decide, pm_T_in (List.mem_of_getElem? (i := 282) (by decide +kernel)) rfl⟩
theorem flX11_44 : pm_fl RX11 44 11 7 := ⟨_, rfl, by decide, pm_T_in (List.mem_of_getElem? (i := 283) (by decide +kernel)) rfl⟩
theorem flX11_59 : pm_fl RX11 59 11 8 := ⟨_, rfl, by decide, pm_T_in (List.mem_of_getElem? (i := 284) (by decide +kernel)) rfl⟩
theorem flX11_66 : pm_fl RX11 66 11 9 := ⟨_, rfl, by decide, pm_T_in (List.mem_of_getElem? (i := 285) (by decide +kernel)) rfl⟩
theorem flX11_75 : pm_fl RX11 75 11 10 := ⟨_, rfl, by decide, pm_T_in (List.mem_of_getElem? (i := 286) (by decide +kernel)) rfl⟩
theorem mlL_13 : Cond.methodLink RL 13 yX11_thing ∈ pm_T := pm_T_in (List.mem_of_getElem? (i := 310) (by decide +kernel)) rfl
theorem mlX11_79 : Cond.methodLink RX11 79 yX11_isWithin ∈ pm_T := pm_T_in (List.mem_of_getElem? (i := 314) (by decide +kernel)) rfl
theorem mlX11_83 : Cond.methodLink RX11 83 yX11_isMark ∈ pm_T := pm_T_in (List.mem_of_getElem? (i := 317) (by decide +kernel)) rfl
theorem mlX11_87 : Cond.methodLink RX11 87 yX11_isHouse ∈ pm_T := pm_T_in (List.mem_of_getElem? (i := 320) (by decide +kernel)) rfl
theorem mlX11_90 : Cond.methodLink RX11 90 yX6_isFull ∈ pm_T := pm_T_in (List.mem_of_getElem? (i := 323) (by decide +kernel)) rfl
theorem nlX11_94 : pm_nl_ RX11 94 0 := ⟨_, rfl, pm_T_in (List.mem_of_getElem? (i := 327) (by decide +kernel)) rfl, pm_T_in (List.mem_of_getElem? (i := 328) (by decide +kernel)) rfl, pm_T_in (List.mem_of_getElem? (i := 63) (by decide +kernel)) rfl⟩
theorem clX11_94 : Cond.classLink RX11 94 RX0 ∈ pm_T := pm_T_in (List.mem_of_getElem? (i := 327) (by decide +kernel)) rfl
theorem mlX11_96 : Cond.methodLink RX11 96 yX0_init ∈ pm_T := pm_T_in (List.mem_of_getElem? (i := 329) (by decide +kernel)) rfl
theorem mlX0_1 : Cond.methodLink RX0 1 Lib.objectInit ∈ pm_T := pm_T_in (List.mem_of_getElem? (i := 332) (by decide +kernel)) rfl
theorem flX0_7 : pm_fl RX0 7 0 0 := ⟨_, rfl, by decide, pm_T_in (List.mem_of_getElem? (i := 333) (by decide +kernel)) rfl⟩
theorem flX9_61 : pm_fl RX9 61 0 0 := ⟨_, rfl, by decide, pm_T_in (List.mem_of_getElem? (i := 334) (by decide +kernel)) rfl⟩
theorem flX0_13 : pm_fl RX0 13 0 1 := ⟨_, rfl, by decide, pm_T_in (List.mem_of_getElem? (i := 335) (by decide +kernel)) rfl⟩
theorem flX9_27 : pm_fl RX9 27 0 1 := ⟨_, rfl, by decide, pm_T_in (List.mem_of_getElem? (i := 336) (by decide +kernel)) rfl⟩
theorem flX0_17 : pm_fl RX0 17 0 2 := ⟨_, rfl, by decide, pm_T_in (List.mem_of_getElem? (i := 337) (by decide +kernel)) rfl⟩
theorem flX9_45 : pm_fl RX9 45 0 2 := ⟨_, rfl, by decide, pm_T_in (List.mem_of_getElem? (i := 338) (by decide +kernel)) rfl⟩
theorem flX11_186 : pm_fl RX11 186 0 2 := ⟨_, rfl, by decide, pm_T_in (List.mem_of_getElem? (i := 339) (by decide +kernel)) rfl⟩
theorem flX0_20 : pm_fl RX0 20 0 3 := ⟨_, rfl, by decide, pm_T_in (List.mem_of_getElem? (i := 340) (by decide +kernel)) rfl⟩
theorem flX9_48 : pm_fl RX9 48 0 3 := ⟨_, rfl, by decide, pm_T_in (List.mem_of_getElem? (i := 341) (by decide +kernel)) rfl⟩
theorem flX11_188 : pm_fl RX11 188 0 3 := ⟨_, rfl, by decide, pm_T_in (List.mem_of_getElem? (i := 342) (by decide +kernel)) rfl⟩
theorem flX0_23 : pm_fl RX0 23 0 4 := ⟨_, rfl, by decide, pm_T_in (List.mem_of_getElem? (i := 343) (by decide +kernel)) rfl⟩
theorem flX9_55 : pm_fl RX9 55 0 4 := ⟨_, rfl, by decide, pm_T_in (List.mem_of_getElem? (i := 344) (by decide +kernel)) rfl⟩
theorem flX0_26 : pm_fl RX0 26 0 5 := ⟨_, rfl, by decide, pm_T_in (List.mem_of_getElem? (i := 345) (by decide +kernel)) rfl⟩
theorem flX9_51 : pm_fl RX9 51 0 5 := ⟨_, rfl, by decide, pm_T_in (List.mem_of_getElem? (i := 346) (by decide +kernel)) rfl⟩
theorem flX11_182 : pm_fl RX11 182 0 5 := ⟨_, rfl, by decide, pm_T_in (List.mem_of_getElem? (i := 347) (by decide +kernel)) rfl⟩
theorem nlX11_99 : pm_nl_ RX11 99 9 := ⟨_, rfl, pm_T_in (List.mem_of_getElem? (i := 361) (by decide +kernel)) rfl, pm_T_in (List.mem_of_getElem? (i := 362) (by decide +kernel)) rfl, pm_T_in (List.mem_of_getElem? (i := 64) (by decide +kernel)) rfl⟩
theorem clX11_99 : Cond.classLink RX11 99 RX9 ∈ pm_T := pm_T_in (List.mem_of_getElem? (i := 361) (by decide +kernel)) rfl
theorem mlX11_101 : Cond.methodLink RX11 101 yX6_count ∈ pm_T := pm_T_in (List.mem_of_getElem? (i := 363) (by decide +kernel)) rfl
theorem mlX11_105 : Cond.methodLink RX11 105 yX9_init ∈ pm_T := pm_T_in (List.mem_of_getElem? (i := 367) (by decide +kernel)) rfl
theorem mlX9_3 : Cond.methodLink RX9 3 Lib.objectInit ∈ pm_T := pm_T_in (List.mem_of_getElem? (i := 370) (by decide +kernel)) rfl
theorem flX9_9 : pm_fl RX9 9 9 0 := ⟨_, rfl, by decide, pm_T_in (List.mem_of_getElem? (i := 371) (by decide +kernel)) rfl⟩
theorem flX8_41 : pm_fl RX8 41 9 0 := ⟨_, rfl, by decide, pm_T_in (List.mem_of_getElem? (i := 372) (by decide +kernel)) rfl⟩
theorem flX3_60 : pm_fl RX3 60 9 0 := ⟨_, rfl, by decide, pm_T_in (List.mem_of_getElem? (i := 373) (by decide +kernel)) rfl⟩
theorem flX9_15 : pm_fl RX9 15 9 1 := ⟨_, rfl, by decide, pm_T_in (List.mem_of_getElem? (i := 374) (by decide +kernel)) rfl⟩
theorem flX8_30 : pm_fl RX8 30 9 1 := ⟨_, rfl, by decide, pm_T_in (List.mem_of_getElem? (i := 375) (by decide +kernel)) rfl⟩
theorem flX1_89 : pm_fl RX1 89 9 1 := ⟨_, rfl, by decide, pm_T_in (List.mem_of_getElem? (i := 376) (by decide +kernel)) rfl⟩
theorem flX11_150 : pm_fl RX11 150 9 1 := ⟨_, rfl, by decide, pm_T_in (List.mem_of_getElem? (i := 377) (by decide +kernel)) rfl⟩
theorem flX9_18 : pm_fl RX9 18 9 2 := ⟨_, rfl, by decide, pm_T_in (List.mem_of_getElem? (i := 378) (by decide +kernel)) rfl⟩
theorem flX2_27 : pm_fl RX2 27 9 2 := ⟨_, rfl, by decide, pm_T_in (List.mem_of_getElem? (i := 379) (by decide +kernel)) rfl⟩
theorem flX8_44 : pm_fl RX8 44 9 2 := ⟨_, rfl, by decide, pm_T_in (List.mem_of_getElem? (i := 380) (by decide +kernel)) rfl⟩
theorem flX11_153 : pm_fl RX11 153 9 2 := ⟨_, rfl, by decide, pm_T_in (List.mem_of_getElem? (i := 381) (by decide +kernel)) rfl⟩
theorem flX9_21 : pm_fl RX9 21 9 3 := ⟨_, rfl, by decide, pm_T_in (List.mem_of_getElem? (i := 382) (by decide +kernel)) rfl⟩
theorem flX2_33 : pm_fl RX2 33 9 3 := ⟨_, rfl, by decide, pm_T_in (List.mem_of_getElem? (i := 383) (by decide +kernel)) rfl⟩
theorem flX11_156 : pm_fl RX11 156 9 3 := ⟨_, rfl, by decide, pm_T_in (List.mem_of_getElem? (i := 384) (by decide +kernel)) rfl⟩
theorem flX9_24 : pm_fl RX9 24 9 4 := ⟨_, rfl, by decide, pm_T_in (List.mem_of_getElem? (i := 385) (by decide +kernel)) rfl⟩
theorem flX11_159 : pm_fl RX11 159 9 4 := ⟨_, rfl, by decide, pm_T_in (List.mem_of_getElem? (i := 386) (by decide +kernel)) rfl⟩
theorem flX9_32 : pm_fl RX9 32 9 5 := ⟨_, rfl, by decide, pm_T_in (List.mem_of_getElem? (i := 387) (by decide +kernel)) rfl⟩
theorem flX2_36 : pm_fl RX2 36 9 5 := ⟨_, rfl, by decide, pm_T_in (List.mem_of_getElem? (i := 388) (by decide +kernel)) rfl⟩
theorem flX11_162 : pm_fl RX11 162 9 5 := ⟨_, rfl, by decide, pm_T_in (List.mem_of_getElem? (i := 389) (by decide +kernel)) rfl⟩
theorem flX9_35 : pm_fl RX9 35 9 6 := ⟨_, rfl, by decide, pm_T_in (List.mem_of_getElem? (i := 390) (by decide +kernel)) rfl⟩
theorem flX11_165 : pm_fl RX11 165 9 6 := ⟨_, rfl, by decide, pm_T_in (List.mem_of_getElem? (i := 391) (by decide +kernel)) rfl⟩
theorem flX9_38 : pm_fl RX9 38 9 7 := ⟨_, rfl, by decide, pm_T_in (List.mem_of_getElem? (i := 392) (by decide +kernel)) rfl⟩
theorem flX6_35 : pm_fl RX6 35 9 7 := ⟨_, rfl, by decide, pm_T_in (List.mem_of_getElem? (i := 393) (by decide +kernel)) rfl⟩
theorem flX11_168 : pm_fl RX11 168 9 7 := ⟨_, rfl, by decide, pm_T_in (List.mem_of_getElem? (i := 394) (by decide +kernel)) rfl⟩
theorem flX9_41 : pm_fl RX9 41 9 8 := ⟨_, rfl, by decide, pm_T_in (List.mem_of_getElem? (i := 395) (by decide +kernel)) rfl⟩
theorem mlX11_108 : Cond.methodLink RX11 108 yX6_put ∈ pm_T := pm_T_in (List.mem_of_getElem? (i := 415) (by decide +kernel)) rfl
theorem mlX6_21 : Cond.methodLink RX6 21 yX6_isFull ∈ pm_T := pm_T_in (List.mem_of_getElem? (i := 419) (by decide +kernel)) rfl
theorem mlL_18 : Cond.methodLink RL 18 yX11_copy ∈ pm_T := pm_T_in (List.mem_of_getElem? (i := 420) (by decide +kernel)) rfl
theorem mlX11_112 : Cond.methodLink RX11 112 yX6_findThere ∈ pm_T := pm_T_in (List.mem_of_getElem? (i := 424) (by decide +kernel)) rfl
theorem mlX6_25 : Cond.methodLink RX6 25 yX6_find ∈ pm_T := pm_T_in (List.mem_of_getElem? (i := 428) (by decide +kernel)) rfl
theorem mlX6_29 : Cond.methodLink RX6 29 yX9_isThere ∈ pm_T := pm_T_in (List.mem_of_getElem? (i := 432) (by decide +kernel)) rfl
theorem mlX11_116 : Cond.methodLink RX11 116 yX9_init_ ∈ pm_T := pm_T_in (List.mem_of_getElem? (i := 436) (by decide +kernel)) rfl
theorem mlL_23 : Cond.methodLink RL 23 yX11_pass ∈ pm_T := pm_T_in (List.mem_of_getElem? (i := 439) (by decide +kernel)) rfl
theorem mlX11_119 : Cond.methodLink RX11 119 yX11_findFreeFor ∈ pm_T := pm_T_in (List.mem_of_getElem? (i := 443) (by decide +kernel)) rfl
theorem mlX11_132 : Cond.methodLink RX11 132 yX9_isLent ∈ pm_T := pm_T_in (List.mem_of_getElem? (i := 447) (by decide +kernel)) rfl
theorem mlX11_135 : Cond.methodLink RX11 135 yX9_owner ∈ pm_T := pm_T_in (List.mem_of_getElem? (i := 451) (by decide +kernel)) rfl
theorem mlX11_123 : Cond.methodLink RX11 123 yX11_spendAct ∈ pm_T := pm_T_in (List.mem_of_getElem? (i := 455) (by decide +kernel)) rfl
theorem mlX11_126 : Cond.methodLink RX11 126 yX9_goTo ∈ pm_T := pm_T_in (List.mem_of_getElem? (i := 459) (by decide +kernel)) rfl
theorem nlX9_28 : pm_nl_ RX9 28 0 := ⟨_, rfl, pm_T_in (List.mem_of_getElem? (i := 463) (by decide +kernel)) rfl, pm_T_in (List.mem_of_getElem? (i := 328) (by decide +kernel)) rfl, pm_T_in (List.mem_of_getElem? (i := 63) (by decide +kernel)) rfl⟩
theorem clX9_28 : Cond.classLink RX9 28 RX0 ∈ pm_T := pm_T_in (List.mem_of_getElem? (i := 463) (by decide +kernel)) rfl
theorem mlX9_58 : Cond.methodLink RX9 58 yX0_init_ ∈ pm_T := pm_T_in (List.mem_of_getElem? (i := 464) (by decide +kernel)) rfl
theorem mlL_28 : Cond.methodLink RL 28 yX11_lend ∈ pm_T := pm_T_in (List.mem_of_getElem? (i := 467) (by decide +kernel)) rfl
theorem mlX11_129 : Cond.methodLink RX11 129 yX9_stayWith ∈ pm_T := pm_T_in (List.mem_of_getElem? (i := 471) (by decide +kernel)) rfl
theorem mlL_32 : Cond.methodLink RL 32 yX11_back ∈ pm_T := pm_T_in (List.mem_of_getElem? (i := 475) (by decide +kernel)) rfl
theorem mlL_37 : Cond.methodLink RL 37 yX11_burn ∈ pm_T := pm_T_in (List.mem_of_getElem? (i := 479) (by decide +kernel)) rfl
theorem mlX11_138 : Cond.methodLink RX11 138 yX9_vanish ∈ pm_T := pm_T_in (List.mem_of_getElem? (i := 483) (by decide +kernel)) rfl
theorem mlL_41 : Cond.methodLink RL 41 yX11_days ∈ pm_T := pm_T_in (List.mem_of_getElem? (i := 487) (by decide +kernel)) rfl
theorem mlL_46 : Cond.methodLink RL 46 yX11_look ∈ pm_T := pm_T_in (List.mem_of_getElem? (i := 491) (by decide +kernel)) rfl
theorem mlX11_142 : Cond.methodLink RX11 142 yX6_countThere ∈ pm_T := pm_T_in (List.mem_of_getElem? (i := 495) (by decide +kernel)) rfl
theorem mlX6_32 : Cond.methodLink RX6 32 yX6_findThere ∈ pm_T := pm_T_in (List.mem_of_getElem? (i := 499) (by decide +kernel)) rfl
theorem mlX11_145 : Cond.methodLink RX11 145 yX3_count ∈ pm_T := pm_T_in (List.mem_of_getElem? (i := 500) (by decide +kernel)) rfl
theorem mlX11_146 : Cond.methodLink RX11 146 yX4_count ∈ pm_T := pm_T_in (List.mem_of_getElem? (i := 504) (by decide +kernel)) rfl
theorem mlL_50 : Cond.methodLink RL 50 yX11_of ∈ pm_T := pm_T_in (List.mem_of_getElem? (i := 508) (by decide +kernel)) rfl
theorem mlX11_147 : Cond.methodLink RX11 147 yX6_find ∈ pm_T := pm_T_in (List.mem_of_getElem? (i := 512) (by decide +kernel)) rfl
theorem mlX11_171 : Cond.methodLink RX11 171 yX9_isThere ∈ pm_T := pm_T_in (List.mem_of_getElem? (i := 513) (by decide +kernel)) rfl
theorem mlX11_174 : Cond.methodLink RX11 174 yX6_isInDoubt ∈ pm_T := pm_T_in (List.mem_of_getElem? (i := 514) (by decide +kernel)) rfl
theorem mlX6_38 : Cond.methodLink RX6 38 yX9_keeper ∈ pm_T := pm_T_in (List.mem_of_getElem? (i := 518) (by decide +kernel)) rfl
theorem mlL_55 : Cond.methodLink RL 55 yX11_held ∈ pm_T := pm_T_in (List.mem_of_getElem? (i := 522) (by decide +kernel)) rfl
theorem mlX11_178 : Cond.methodLink RX11 178 yX9_latestUpTo ∈ pm_T := pm_T_in (List.mem_of_getElem? (i := 526) (by decide +kernel)) rfl
theorem mlL_59 : Cond.methodLink RL 59 yX11_owners ∈ pm_T := pm_T_in (List.mem_of_getElem? (i := 530) (by decide +kernel)) rfl
theorem mlX11_191 : Cond.methodLink RX11 191 yX9_countOwners ∈ pm_T := pm_T_in (List.mem_of_getElem? (i := 534) (by decide +kernel)) rfl
theorem mlX11_194 : Cond.methodLink RX11 194 yX9_ownerAt ∈ pm_T := pm_T_in (List.mem_of_getElem? (i := 538) (by decide +kernel)) rfl
theorem mlL_63 : Cond.methodLink RL 63 yX11_gather ∈ pm_T := pm_T_in (List.mem_of_getElem? (i := 542) (by decide +kernel)) rfl
theorem mlX11_198 : Cond.methodLink RX11 198 yX11_isSeason ∈ pm_T := pm_T_in (List.mem_of_getElem? (i := 546) (by decide +kernel)) rfl
theorem mlX11_201 : Cond.methodLink RX11 201 yX11_isGuests ∈ pm_T := pm_T_in (List.mem_of_getElem? (i := 549) (by decide +kernel)) rfl
theorem mlX11_204 : Cond.methodLink RX11 204 yX3_isFull ∈ pm_T := pm_T_in (List.mem_of_getElem? (i := 552) (by decide +kernel)) rfl
theorem mlX11_205 : Cond.methodLink RX11 205 yX8_read ∈ pm_T := pm_T_in (List.mem_of_getElem? (i := 556) (by decide +kernel)) rfl
theorem mlX8_17 : Cond.methodLink RX8 17 yX8_clear ∈ pm_T := pm_T_in (List.mem_of_getElem? (i := 560) (by decide +kernel)) rfl
theorem mlX8_20 : Cond.methodLink RX8 20 yX6_count ∈ pm_T := pm_T_in (List.mem_of_getElem? (i := 564) (by decide +kernel)) rfl
theorem mlX8_26 : Cond.methodLink RX8 26 yX6_find ∈ pm_T := pm_T_in (List.mem_of_getElem? (i := 565) (by decide +kernel)) rfl
theorem mlX8_34 : Cond.methodLink RX8 34 yX8_at ∈ pm_T := pm_T_in (List.mem_of_getElem? (i := 566) (by decide +kernel)) rfl
theorem mlX8_37 : Cond.methodLink RX8 37 yX8_lay ∈ pm_T := pm_T_in (List.mem_of_getElem? (i := 570) (by decide +kernel)) rfl
theorem mlX11_209 : Cond.methodLink RX11 209 yX8_isAllKeptBy ∈ pm_T := pm_T_in (List.mem_of_getElem? (i := 574) (by decide +kernel)) rfl
theorem mlX8_47 : Cond.methodLink RX8 47 yX9_isThere ∈ pm_T := pm_T_in (List.mem_of_getElem? (i := 578) (by decide +kernel)) rfl
theorem mlX8_51 : Cond.methodLink RX8 51 yX9_keeper ∈ pm_T := pm_T_in (List.mem_of_getElem? (i := 579) (by decide +kernel)) rfl
theorem mlX11_212 : Cond.methodLink RX11 212 yX3_put ∈ pm_T := pm_T_in (List.mem_of_getElem? (i := 580) (by decide +kernel)) rfl
theorem mlX3_24 : Cond.methodLink RX3 24 yX3_isFull ∈ pm_T := pm_T_in (List.mem_of_getElem? (i := 584) (by decide +kernel)) rfl
theorem mlX3_28 : Cond.methodLink RX3 28 yX8_bits ∈ pm_T := pm_T_in (List.mem_of_getElem? (i := 585) (by decide +kernel)) rfl
theorem mlX3_34 : Cond.methodLink RX3 34 yX3_showPairs ∈ pm_T := pm_T_in (List.mem_of_getElem? (i := 589) (by decide +kernel)) rfl
theorem mlX3_38 : Cond.methodLink RX3 38 yX8_at ∈ pm_T := pm_T_in (List.mem_of_getElem? (i := 593) (by decide +kernel)) rfl
theorem mlX3_42 : Cond.methodLink RX3 42 yX3_pairOf ∈ pm_T := pm_T_in (List.mem_of_getElem? (i := 594) (by decide +kernel)) rfl
theorem mlL_68 : Cond.methodLink RL 68 yX11_gathering ∈ pm_T := pm_T_in (List.mem_of_getElem? (i := 597) (by decide +kernel)) rfl
theorem mlX11_215 : Cond.methodLink RX11 215 yX3_tell ∈ pm_T := pm_T_in (List.mem_of_getElem? (i := 601) (by decide +kernel)) rfl
theorem mlL_72 : Cond.methodLink RL 72 yX11_seen ∈ pm_T := pm_T_in (List.mem_of_getElem? (i := 605) (by decide +kernel)) rfl
theorem mlX11_219 : Cond.methodLink RX11 219 yX3_countWith ∈ pm_T := pm_T_in (List.mem_of_getElem? (i := 609) (by decide +kernel)) rfl
theorem mlL_76 : Cond.methodLink RL 76 yX11_again ∈ pm_T := pm_T_in (List.mem_of_getElem? (i := 613) (by decide +kernel)) rfl
theorem mlX11_222 : Cond.methodLink RX11 222 yX3_sumAgain ∈ pm_T := pm_T_in (List.mem_of_getElem? (i := 617) (by decide +kernel)) rfl
theorem mlX3_46 : Cond.methodLink RX3 46 yX3_sumPairs ∈ pm_T := pm_T_in (List.mem_of_getElem? (i := 621) (by decide +kernel)) rfl
theorem mlX3_54 : Cond.methodLink RX3 54 yJ6_bitCount_0f7a4 ∈ pm_T := pm_T_in (List.mem_of_getElem? (i := 625) (by decide +kernel)) rfl
theorem coJ6_265 : Cond.constant RJ6 265 (1431655765) ∈ pm_T := pm_T_in (List.mem_of_getElem? (i := 628) (by decide +kernel)) rfl
theorem coJ6_266 : Cond.constant RJ6 266 (858993459) ∈ pm_T := pm_T_in (List.mem_of_getElem? (i := 629) (by decide +kernel)) rfl
theorem coJ6_267 : Cond.constant RJ6 267 (252645135) ∈ pm_T := pm_T_in (List.mem_of_getElem? (i := 630) (by decide +kernel)) rfl
theorem mlX3_50 : Cond.methodLink RX3 50 yX3_countSame ∈ pm_T := pm_T_in (List.mem_of_getElem? (i := 631) (by decide +kernel)) rfl
theorem mlL_80 : Cond.methodLink RL 80 yX11_feed ∈ pm_T := pm_T_in (List.mem_of_getElem? (i := 635) (by decide +kernel)) rfl
theorem mlX11_226 : Cond.methodLink RX11 226 yX7_hasRoomFor ∈ pm_T := pm_T_in (List.mem_of_getElem? (i := 639) (by decide +kernel)) rfl
theorem mlX11_229 : Cond.methodLink RX11 229 yX7_append ∈ pm_T := pm_T_in (List.mem_of_getElem? (i := 643) (by decide +kernel)) rfl
theorem mlX7_19 : Cond.methodLink RX7 19 yX7_hasRoomFor ∈ pm_T := pm_T_in (List.mem_of_getElem? (i := 647) (by decide +kernel)) rfl
theorem mlX11_232 : Cond.methodLink RX11 232 yX7_length ∈ pm_T := pm_T_in (List.mem_of_getElem? (i := 648) (by decide +kernel)) rfl
theorem mlL_84 : Cond.methodLink RL 84 yX11_end ∈ pm_T := pm_T_in (List.mem_of_getElem? (i := 652) (by decide +kernel)) rfl
theorem mlX11_235 : Cond.methodLink RX11 235 yX7_cut ∈ pm_T := pm_T_in (List.mem_of_getElem? (i := 656) (by decide +kernel)) rfl
theorem mlL_88 : Cond.methodLink RL 88 yX11_rules ∈ pm_T := pm_T_in (List.mem_of_getElem? (i := 660) (by decide +kernel)) rfl
theorem mlX11_238 : Cond.methodLink RX11 238 yX5_readInto ∈ pm_T := pm_T_in (List.mem_of_getElem? (i := 664) (by decide +kernel)) rfl
theorem mlX5_31 : Cond.methodLink RX5 31 yX4_clear ∈ pm_T := pm_T_in (List.mem_of_getElem? (i := 668) (by decide +kernel)) rfl
theorem mlX5_36 : Cond.methodLink RX5 36 yX10_cutTape ∈ pm_T := pm_T_in (List.mem_of_getElem? (i := 672) (by decide +kernel)) rfl
theorem mlX10_29 : Cond.methodLink RX10 29 yX7_length ∈ pm_T := pm_T_in (List.mem_of_getElem? (i := 676) (by decide +kernel)) rfl
theorem mlX10_33 : Cond.methodLink RX10 33 yX7_at ∈ pm_T := pm_T_in (List.mem_of_getElem? (i := 677) (by decide +kernel)) rfl
theorem mlX10_37 : Cond.methodLink RX10 37 yX10_isBlank ∈ pm_T := pm_T_in (List.mem_of_getElem? (i := 681) (by decide +kernel)) rfl
theorem mlX10_41 : Cond.methodLink RX10 41 yX10_isLetter ∈ pm_T := pm_T_in (List.mem_of_getElem? (i := 684) (by decide +kernel)) rfl
theorem mlX10_44 : Cond.methodLink RX10 44 yX10_takeWord ∈ pm_T := pm_T_in (List.mem_of_getElem? (i := 687) (by decide +kernel)) rfl
theorem mlX10_64 : Cond.methodLink RX10 64 yX10_isWord ∈ pm_T := pm_T_in (List.mem_of_getElem? (i := 691) (by decide +kernel)) rfl
theorem mlX10_70 : Cond.methodLink RX10 70 yJ0_charAt_5068e ∈ pm_T := pm_T_in (List.mem_of_getElem? (i := 696) (by decide +kernel)) rfl
theorem mlJ0_492 : Cond.methodLink RJ0 492 yJ0_isLatin1_aae02 ∈ pm_T := pm_T_in (List.mem_of_getElem? (i := 700) (by decide +kernel)) rfl
theorem mlJ0_495 : Cond.methodLink RJ0 495 yJ1_charAt_3b067 ∈ pm_T := pm_T_in (List.mem_of_getElem? (i := 706) (by decide +kernel)) rfl
theorem mlJ1_9 : Cond.methodLink RJ1 9 yJ0_checkIndex_df160 ∈ pm_T := pm_T_in (List.mem_of_getElem? (i := 709) (by decide +kernel)) rfl
theorem mlJ0_1059 : Cond.methodLink RJ0 1059 yJ3_checkIndex_8e157 ∈ pm_T := pm_T_in (List.mem_of_getElem? (i := 714) (by decide +kernel)) rfl
theorem mlJ0_498 : Cond.methodLink RJ0 498 yJ2_charAt_3b067 ∈ pm_T := pm_T_in (List.mem_of_getElem? (i := 717) (by decide +kernel)) rfl
theorem mlJ2_67 : Cond.methodLink RJ2 67 yJ2_checkIndex_2214a ∈ pm_T := pm_T_in (List.mem_of_getElem? (i := 720) (by decide +kernel)) rfl
theorem mlJ2_48 : Cond.methodLink RJ2 48 yJ2_length_9d52b ∈ pm_T := pm_T_in (List.mem_of_getElem? (i := 723) (by decide +kernel)) rfl
theorem mlJ2_414 : Cond.methodLink RJ2 414 yJ0_checkIndex_df160 ∈ pm_T := pm_T_in (List.mem_of_getElem? (i := 726) (by decide +kernel)) rfl
theorem mlJ2_71 : Cond.methodLink RJ2 71 yJ2_getChar_3b067 ∈ pm_T := pm_T_in (List.mem_of_getElem? (i := 727) (by decide +kernel)) rfl
theorem mlX10_60 : Cond.methodLink RX10 60 yX10_put ∈ pm_T := pm_T_in (List.mem_of_getElem? (i := 736) (by decide +kernel)) rfl
theorem mlX10_47 : Cond.methodLink RX10 47 yX10_isDigit ∈ pm_T := pm_T_in (List.mem_of_getElem? (i := 740) (by decide +kernel)) rfl
theorem mlX10_50 : Cond.methodLink RX10 50 yX10_takeNumber ∈ pm_T := pm_T_in (List.mem_of_getElem? (i := 743) (by decide +kernel)) rfl
theorem mlX10_55 : Cond.methodLink RX10 55 yJ0_indexOf_0f7a4 ∈ pm_T := pm_T_in (List.mem_of_getElem? (i := 748) (by decide +kernel)) rfl
theorem mlJ0_633 : Cond.methodLink RJ0 633 yJ0_indexOf_7cf53 ∈ pm_T := pm_T_in (List.mem_of_getElem? (i := 752) (by decide +kernel)) rfl
theorem mlJ0_505 : Cond.methodLink RJ0 505 yJ0_length_8abf5 ∈ pm_T := pm_T_in (List.mem_of_getElem? (i := 756) (by decide +kernel)) rfl
theorem mlJ0_335 : Cond.methodLink RJ0 335 yJ0_coder_7d493 ∈ pm_T := pm_T_in (List.mem_of_getElem? (i := 760) (by decide +kernel)) rfl
theorem mlJ0_637 : Cond.methodLink RJ0 637 yJ1_indexOf_4cfef ∈ pm_T := pm_T_in (List.mem_of_getElem? (i := 764) (by decide +kernel)) rfl
theorem mlJ1_88 : Cond.methodLink RJ1 88 yJ1_canEncode_9a6ad ∈ pm_T := pm_T_in (List.mem_of_getElem? (i := 767) (by decide +kernel)) rfl
theorem mlJ1_95 : Cond.methodLink RJ1 95 yJ1_indexOfChar_4cfef ∈ pm_T := pm_T_in (List.mem_of_getElem? (i := 776) (by decide +kernel)) rfl
theorem mlJ0_640 : Cond.methodLink RJ0 640 yJ2_indexOf_4cfef ∈ pm_T := pm_T_in (List.mem_of_getElem? (i := 779) (by decide +kernel)) rfl
theorem coJ2_227 : Cond.constant RJ2 227 (65536) ∈ pm_T := pm_T_in (List.mem_of_getElem? (i := 784) (by decide +kernel)) rfl
theorem mlJ2_228 : Cond.methodLink RJ2 228 yJ2_indexOfChar_4cfef ∈ pm_T := pm_T_in (List.mem_of_getElem? (i := 785) (by decide +kernel)) rfl
theorem mlJ2_96 : Cond.methodLink RJ2 96 yJ2_checkBoundsBeginEnd_d044e ∈ pm_T := pm_T_in (List.mem_of_getElem? (i := 788) (by decide +kernel)) rfl
theorem mlJ2_241 : Cond.methodLink RJ2 241 yJ0_checkBoundsBeginEnd_23922 ∈ pm_T := pm_T_in (List.mem_of_getElem? (i := 791) (by decide +kernel)) rfl
theorem mlJ0_1062 : Cond.methodLink RJ0 1062 yJ3_checkFromToIndex_8c36e ∈ pm_T := pm_T_in (List.mem_of_getElem? (i := 794) (by decide +kernel)) rfl
theorem mlJ2_244 : Cond.methodLink RJ2 244 yJ2_indexOfCharUnsafe_4cfef ∈ pm_T := pm_T_in (List.mem_of_getElem? (i := 797) (by decide +kernel)) rfl
theorem mlJ2_232 : Cond.methodLink RJ2 232 yJ2_indexOfSupplementary_4cfef ∈ pm_T := pm_T_in (List.mem_of_getElem? (i := 800) (by decide +kernel)) rfl
theorem mlJ2_164 : Cond.methodLink RJ2 164 yJ11_isValidCodePoint_9a6ad ∈ pm_T := pm_T_in (List.mem_of_getElem? (i := 803) (by decide +kernel)) rfl
theorem mlJ2_157 : Cond.methodLink RJ2 157 yJ11_highSurrogate_5068e ∈ pm_T := pm_T_in (List.mem_of_getElem? (i := 806) (by decide +kernel)) rfl
theorem coJ11_110 : Cond.constant RJ11 110 (55232) ∈ pm_T := pm_T_in (List.mem_of_getElem? (i := 809) (by decide +kernel)) rfl
theorem mlJ2_161 : Cond.methodLink RJ2 161 yJ11_lowSurrogate_5068e ∈ pm_T := pm_T_in (List.mem_of_getElem? (i := 810) (by decide +kernel)) rfl
theorem coJ11_76 : Cond.constant RJ11 76 (56320) ∈ pm_T := pm_T_in (List.mem_of_getElem? (i := 813) (by decide +kernel)) rfl
theorem mlX5_42 : Cond.methodLink RX5 42 yX10_at ∈ pm_T := pm_T_in (List.mem_of_getElem? (i := 814) (by decide +kernel)) rfl
theorem mlX5_49 : Cond.methodLink RX5 49 yX5_advance ∈ pm_T := pm_T_in (List.mem_of_getElem? (i := 818) (by decide +kernel)) rfl
theorem mlX5_52 : Cond.methodLink RX5 52 yX5_readChoice ∈ pm_T := pm_T_in (List.mem_of_getElem? (i := 822) (by decide +kernel)) rfl
theorem mlX5_65 : Cond.methodLink RX5 65 yX5_readJoin ∈ pm_T := pm_T_in (List.mem_of_getElem? (i := 826) (by decide +kernel)) rfl
theorem mlX5_74 : Cond.methodLink RX5 74 yX5_readClause ∈ pm_T := pm_T_in (List.mem_of_getElem? (i := 830) (by decide +kernel)) rfl
theorem mlX5_77 : Cond.methodLink RX5 77 yX5_readComparison ∈ pm_T := pm_T_in (List.mem_of_getElem? (i := 834) (by decide +kernel)) rfl
theorem mlX5_80 : Cond.methodLink RX5 80 yX5_readTerm ∈ pm_T := pm_T_in (List.mem_of_getElem? (i := 838) (by decide +kernel)) rfl
theorem mlX5_84 : Cond.methodLink RX5 84 yX10_valueOf ∈ pm_T := pm_T_in (List.mem_of_getElem? (i := 842) (by decide +kernel)) rfl
theorem mlX5_62 : Cond.methodLink RX5 62 yX5_refuse ∈ pm_T := pm_T_in (List.mem_of_getElem? (i := 846) (by decide +kernel)) rfl
theorem mlX5_89 : Cond.methodLink RX5 89 yX10_placeOf ∈ pm_T := pm_T_in (List.mem_of_getElem? (i := 850) (by decide +kernel)) rfl
theorem mlX5_70 : Cond.methodLink RX5 70 yX4_addStep ∈ pm_T := pm_T_in (List.mem_of_getElem? (i := 854) (by decide +kernel)) rfl
theorem mlX5_56 : Cond.methodLink RX5 56 yX5_take ∈ pm_T := pm_T_in (List.mem_of_getElem? (i := 858) (by decide +kernel)) rfl
theorem mlX5_59 : Cond.methodLink RX5 59 yX4_closeRule ∈ pm_T := pm_T_in (List.mem_of_getElem? (i := 862) (by decide +kernel)) rfl
theorem mlL_93 : Cond.methodLink RL 93 yX11_fault ∈ pm_T := pm_T_in (List.mem_of_getElem? (i := 866) (by decide +kernel)) rfl
theorem mlL_97 : Cond.methodLink RL 97 yX11_barred ∈ pm_T := pm_T_in (List.mem_of_getElem? (i := 870) (by decide +kernel)) rfl
theorem mlX11_248 : Cond.methodLink RX11 248 yX2_tellParty ∈ pm_T := pm_T_in (List.mem_of_getElem? (i := 874) (by decide +kernel)) rfl
theorem mlX2_15 : Cond.methodLink RX2 15 yJ6_bitCount_0f7a4 ∈ pm_T := pm_T_in (List.mem_of_getElem? (i := 878) (by decide +kernel)) rfl
theorem mlX11_251 : Cond.methodLink RX11 251 yX2_tellSet ∈ pm_T := pm_T_in (List.mem_of_getElem? (i := 879) (by decide +kernel)) rfl
theorem mlX2_21 : Cond.methodLink RX2 21 yX8_at ∈ pm_T := pm_T_in (List.mem_of_getElem? (i := 883) (by decide +kernel)) rfl
theorem mlX11_255 : Cond.methodLink RX11 255 yX4_firstThatBars ∈ pm_T := pm_T_in (List.mem_of_getElem? (i := 884) (by decide +kernel)) rfl
theorem mlX4_31 : Cond.methodLink RX4 31 yX4_holds ∈ pm_T := pm_T_in (List.mem_of_getElem? (i := 888) (by decide +kernel)) rfl
theorem mlX4_35 : Cond.methodLink RX4 35 yX4_compares ∈ pm_T := pm_T_in (List.mem_of_getElem? (i := 892) (by decide +kernel)) rfl
theorem mlX4_39 : Cond.methodLink RX4 39 yX2_value ∈ pm_T := pm_T_in (List.mem_of_getElem? (i := 896) (by decide +kernel)) rfl
theorem mlL_101 : Cond.methodLink RL 101 yX11_best ∈ pm_T := pm_T_in (List.mem_of_getElem? (i := 900) (by decide +kernel)) rfl
theorem mlX11_259 : Cond.methodLink RX11 259 yX1_invite ∈ pm_T := pm_T_in (List.mem_of_getElem? (i := 904) (by decide +kernel)) rfl
theorem mlX1_47 : Cond.methodLink RX1 47 yX2_tellParty ∈ pm_T := pm_T_in (List.mem_of_getElem? (i := 908) (by decide +kernel)) rfl
theorem mlX11_263 : Cond.methodLink RX11 263 yX1_choose ∈ pm_T := pm_T_in (List.mem_of_getElem? (i := 909) (by decide +kernel)) rfl
theorem mlX1_60 : Cond.methodLink RX1 60 yX8_clear ∈ pm_T := pm_T_in (List.mem_of_getElem? (i := 913) (by decide +kernel)) rfl
theorem mlX1_63 : Cond.methodLink RX1 63 yX1_layFrom ∈ pm_T := pm_T_in (List.mem_of_getElem? (i := 914) (by decide +kernel)) rfl
theorem mlX1_76 : Cond.methodLink RX1 76 yX1_judge ∈ pm_T := pm_T_in (List.mem_of_getElem? (i := 918) (by decide +kernel)) rfl
theorem mlX1_105 : Cond.methodLink RX1 105 yX2_tellSet ∈ pm_T := pm_T_in (List.mem_of_getElem? (i := 922) (by decide +kernel)) rfl
theorem mlX1_109 : Cond.methodLink RX1 109 yX4_firstThatBars ∈ pm_T := pm_T_in (List.mem_of_getElem? (i := 923) (by decide +kernel)) rfl
theorem mlX1_115 : Cond.methodLink RX1 115 yX3_sumAgain ∈ pm_T := pm_T_in (List.mem_of_getElem? (i := 924) (by decide +kernel)) rfl
theorem mlX1_121 : Cond.methodLink RX1 121 yX8_sumRanks ∈ pm_T := pm_T_in (List.mem_of_getElem? (i := 925) (by decide +kernel)) rfl
theorem mlX1_124 : Cond.methodLink RX1 124 yX8_bits ∈ pm_T := pm_T_in (List.mem_of_getElem? (i := 929) (by decide +kernel)) rfl
theorem mlX1_79 : Cond.methodLink RX1 79 yX6_count ∈ pm_T := pm_T_in (List.mem_of_getElem? (i := 930) (by decide +kernel)) rfl
theorem mlX1_85 : Cond.methodLink RX1 85 yX6_findThere ∈ pm_T := pm_T_in (List.mem_of_getElem? (i := 931) (by decide +kernel)) rfl
theorem mlX1_94 : Cond.methodLink RX1 94 yX9_keeper ∈ pm_T := pm_T_in (List.mem_of_getElem? (i := 932) (by decide +kernel)) rfl
theorem mlX1_97 : Cond.methodLink RX1 97 yX9_suits ∈ pm_T := pm_T_in (List.mem_of_getElem? (i := 933) (by decide +kernel)) rfl
theorem mlX1_101 : Cond.methodLink RX1 101 yX8_lay ∈ pm_T := pm_T_in (List.mem_of_getElem? (i := 937) (by decide +kernel)) rfl
theorem mlX11_267 : Cond.methodLink RX11 267 yX1_tell ∈ pm_T := pm_T_in (List.mem_of_getElem? (i := 938) (by decide +kernel)) rfl
theorem nlL_10 : pm_nl_ RL 10 12 := ⟨_, rfl, pm_T_in (List.mem_of_getElem? (i := 942) (by decide +kernel)) rfl, pm_T_in (List.mem_of_getElem? (i := 943) (by decide +kernel)) rfl, pm_T_in (List.mem_of_getElem? (i := 62) (by decide +kernel)) rfl⟩
theorem clL_10 : Cond.classLink RL 10 RX12 ∈ pm_T := pm_T_in (List.mem_of_getElem? (i := 942) (by decide +kernel)) rfl
theorem mlL_12 : Cond.methodLink RL 12 yX12_init ∈ pm_T := pm_T_in (List.mem_of_getElem? (i := 944) (by decide +kernel)) rfl
theorem mlX12_1 : Cond.methodLink RX12 1 Lib.objectInit ∈ pm_T := pm_T_in (List.mem_of_getElem? (i := 947) (by decide +kernel)) rfl
theorem flX12_97 : pm_fl RX12 97 12 0 := ⟨_, rfl, by decide, pm_T_in (List.mem_of_getElem? (i := 948) (by decide +kernel)) rfl⟩
theorem flX12_90 : pm_fl RX12 90 12 1 := ⟨_, rfl, by decide, pm_T_in (List.mem_of_getElem? (i := 949) (by decide +kernel)) rfl⟩
theorem flX12_110 : pm_fl RX12 110 12 2 := ⟨_, rfl, by decide, pm_T_in (List.mem_of_getElem? (i := 950) (by decide +kernel)) rfl⟩
theorem flX12_130 : pm_fl RX12 130 12 3 := ⟨_, rfl, by decide, pm_T_in (List.mem_of_getElem? (i := 951) (by decide +kernel)) rfl⟩
theorem flX12_7 : pm_fl RX12 7 12 4 := ⟨_, rfl, by decide, pm_T_in (List.mem_of_getElem? (i := 952) (by decide +kernel)) rfl⟩
theorem flX12_13 : pm_fl RX12 13 12 5 := ⟨_, rfl, by decide, pm_T_in (List.mem_of_getElem? (i := 953) (by decide +kernel)) rfl⟩
theorem flX12_16 : pm_fl RX12 16 12 6 := ⟨_, rfl, by decide, pm_T_in (List.mem_of_getElem? (i := 954) (by decide +kernel)) rfl⟩
theorem flX12_19 : pm_fl RX12 19 12 7 := ⟨_, rfl, by decide, pm_T_in (List.mem_of_getElem? (i := 955) (by decide +kernel)) rfl⟩
theorem flX12_22 : pm_fl RX12 22 12 8 := ⟨_, rfl, by decide, pm_T_in (List.mem_of_getElem? (i := 956) (by decide +kernel)) rfl⟩
theorem flX12_25 : pm_fl RX12 25 12 9 := ⟨_, rfl, by decide, pm_T_in (List.mem_of_getElem? (i := 957) (by decide +kernel)) rfl⟩
theorem flX12_28 : pm_fl RX12 28 12 10 := ⟨_, rfl, by decide, pm_T_in (List.mem_of_getElem? (i := 958) (by decide +kernel)) rfl⟩
theorem flX12_31 : pm_fl RX12 31 12 11 := ⟨_, rfl, by decide, pm_T_in (List.mem_of_getElem? (i := 959) (by decide +kernel)) rfl⟩
theorem flX12_34 : pm_fl RX12 34 12 12 := ⟨_, rfl, by decide, pm_T_in (List.mem_of_getElem? (i := 960) (by decide +kernel)) rfl⟩
theorem flX12_37 : pm_fl RX12 37 12 13 := ⟨_, rfl, by decide, pm_T_in (List.mem_of_getElem? (i := 961) (by decide +kernel)) rfl⟩
theorem flX12_40 : pm_fl RX12 40 12 14 := ⟨_, rfl, by decide, pm_T_in (List.mem_of_getElem? (i := 962) (by decide +kernel)) rfl⟩
theorem flX12_43 : pm_fl RX12 43 12 15 := ⟨_, rfl, by decide, pm_T_in (List.mem_of_getElem? (i := 963) (by decide +kernel)) rfl⟩
theorem flX12_46 : pm_fl RX12 46 12 16 := ⟨_, rfl, by decide, pm_T_in (List.mem_of_getElem? (i := 964) (by decide +kernel)) rfl⟩
theorem flX12_49 : pm_fl RX12 49 12 17 := ⟨_, rfl, by decide, pm_T_in (List.mem_of_getElem? (i := 965) (by decide +kernel)) rfl⟩
theorem flX12_52 : pm_fl RX12 52 12 18 := ⟨_, rfl, by decide, pm_T_in (List.mem_of_getElem? (i := 966) (by decide +kernel)) rfl⟩
theorem flX12_55 : pm_fl RX12 55 12 19 := ⟨_, rfl, by decide, pm_T_in (List.mem_of_getElem? (i := 967) (by decide +kernel)) rfl⟩
theorem flX12_58 : pm_fl RX12 58 12 20 := ⟨_, rfl, by decide, pm_T_in (List.mem_of_getElem? (i := 968) (by decide +kernel)) rfl⟩
theorem flX12_133 : pm_fl RX12 133 12 21 := ⟨_, rfl, by decide, pm_T_in (List.mem_of_getElem? (i := 969) (by decide +kernel)) rfl⟩
theorem flX12_254 : pm_fl RX12 254 12 22 := ⟨_, rfl, by decide, pm_T_in (List.mem_of_getElem? (i := 970) (by decide +kernel)) rfl⟩
theorem flX12_225 : pm_fl RX12 225 12 23 := ⟨_, rfl, by decide, pm_T_in (List.mem_of_getElem? (i := 971) (by decide +kernel)) rfl⟩
theorem flX12_61 : pm_fl RX12 61 12 24 := ⟨_, rfl, by decide, pm_T_in (List.mem_of_getElem? (i := 972) (by decide +kernel)) rfl⟩
theorem flX12_64 : pm_fl RX12 64 12 25 := ⟨_, rfl, by decide, pm_T_in (List.mem_of_getElem? (i := 973) (by decide +kernel)) rfl⟩
theorem flX12_67 : pm_fl RX12 67 12 26 := ⟨_, rfl, by decide, pm_T_in (List.mem_of_getElem? (i := 974) (by decide +kernel)) rfl⟩
theorem flX12_70 : pm_fl RX12 70 12 27 := ⟨_, rfl, by decide, pm_T_in (List.mem_of_getElem? (i := 975) (by decide +kernel)) rfl⟩
theorem flX12_73 : pm_fl RX12 73 12 28 := ⟨_, rfl, by decide, pm_T_in (List.mem_of_getElem? (i := 976) (by decide +kernel)) rfl⟩
theorem flX12_76 : pm_fl RX12 76 12 29 := ⟨_, rfl, by decide, pm_T_in (List.mem_of_getElem? (i := 977) (by decide +kernel)) rfl⟩
theorem flX12_155 : pm_fl RX12 155 12 30 := ⟨_, rfl, by decide, pm_T_in (List.mem_of_getElem? (i := 978) (by decide +kernel)) rfl⟩
theorem flX12_188 : pm_fl RX12 188 12 31 := ⟨_, rfl, by decide, pm_T_in (List.mem_of_getElem? (i := 979) (by decide +kernel)) rfl⟩
theorem flX12_197 : pm_fl RX12 197 12 32 := ⟨_, rfl, by decide, pm_T_in (List.mem_of_getElem? (i := 980) (by decide +kernel)) rfl⟩
theorem flX12_194 : pm_fl RX12 194 12 33 := ⟨_, rfl, by decide, pm_T_in (List.mem_of_getElem? (i := 981) (by decide +kernel)) rfl⟩
theorem flX12_210 : pm_fl RX12 210 12 34 := ⟨_, rfl, by decide, pm_T_in (List.mem_of_getElem? (i := 982) (by decide +kernel)) rfl⟩
theorem flX12_213 : pm_fl RX12 213 12 35 := ⟨_, rfl, by decide, pm_T_in (List.mem_of_getElem? (i := 983) (by decide +kernel)) rfl⟩
theorem flX12_216 : pm_fl RX12 216 12 36 := ⟨_, rfl, by decide, pm_T_in (List.mem_of_getElem? (i := 984) (by decide +kernel)) rfl⟩
theorem flX12_260 : pm_fl RX12 260 12 37 := ⟨_, rfl, by decide, pm_T_in (List.mem_of_getElem? (i := 985) (by decide +kernel)) rfl⟩
theorem flX12_228 : pm_fl RX12 228 12 38 := ⟨_, rfl, by decide, pm_T_in (List.mem_of_getElem? (i := 986) (by decide +kernel)) rfl⟩
theorem flX12_79 : pm_fl RX12 79 12 39 := ⟨_, rfl, by decide, pm_T_in (List.mem_of_getElem? (i := 987) (by decide +kernel)) rfl⟩
theorem flX12_83 : pm_fl RX12 83 12 40 := ⟨_, rfl, by decide, pm_T_in (List.mem_of_getElem? (i := 988) (by decide +kernel)) rfl⟩
theorem flX12_286 : pm_fl RX12 286 12 41 := ⟨_, rfl, by decide, pm_T_in (List.mem_of_getElem? (i := 989) (by decide +kernel)) rfl⟩
theorem flX12_289 : pm_fl RX12 289 12 42 := ⟨_, rfl, by decide, pm_T_in (List.mem_of_getElem? (i := 990) (by decide +kernel)) rfl⟩
theorem flX12_292 : pm_fl RX12 292 12 43 := ⟨_, rfl, by decide, pm_T_in (List.mem_of_getElem? (i := 991) (by decide +kernel)) rfl⟩
theorem flX12_283 : pm_fl RX12 283 12 44 := ⟨_, rfl, by decide, pm_T_in (List.mem_of_getElem? (i := 992) (by decide +kernel)) rfl⟩
theorem mlL_17 : Cond.methodLink RL 17 yX12_thing ∈ pm_T := pm_T_in (List.mem_of_getElem? (i := 1084) (by decide +kernel)) rfl
theorem mlX12_86 : Cond.methodLink RX12 86 yX12_isIn ∈ pm_T := pm_T_in (List.mem_of_getElem? (i := 1088) (by decide +kernel)) rfl
theorem mlX12_100 : Cond.methodLink RX12 100 yX12_isHouse ∈ pm_T := pm_T_in (List.mem_of_getElem? (i := 1091) (by decide +kernel)) rfl
theorem mlX12_103 : Cond.methodLink RX12 103 yX12_comes ∈ pm_T := pm_T_in (List.mem_of_getElem? (i := 1094) (by decide +kernel)) rfl
theorem mlL_22 : Cond.methodLink RL 22 yX12_copy ∈ pm_T := pm_T_in (List.mem_of_getElem? (i := 1098) (by decide +kernel)) rfl
theorem mlX12_107 : Cond.methodLink RX12 107 yX12_isThere ∈ pm_T := pm_T_in (List.mem_of_getElem? (i := 1102) (by decide +kernel)) rfl
theorem mlX12_93 : Cond.methodLink RX12 93 yX12_isThing ∈ pm_T := pm_T_in (List.mem_of_getElem? (i := 1106) (by decide +kernel)) rfl
theorem mlL_27 : Cond.methodLink RL 27 yX12_pass ∈ pm_T := pm_T_in (List.mem_of_getElem? (i := 1110) (by decide +kernel)) rfl
theorem mlX12_113 : Cond.methodLink RX12 113 yX12_lentOn ∈ pm_T := pm_T_in (List.mem_of_getElem? (i := 1114) (by decide +kernel)) rfl
theorem mlX12_117 : Cond.methodLink RX12 117 yX12_ownerOn ∈ pm_T := pm_T_in (List.mem_of_getElem? (i := 1118) (by decide +kernel)) rfl
theorem mlX12_120 : Cond.methodLink RX12 120 yX12_happens ∈ pm_T := pm_T_in (List.mem_of_getElem? (i := 1122) (by decide +kernel)) rfl
theorem mlL_31 : Cond.methodLink RL 31 yX12_lend ∈ pm_T := pm_T_in (List.mem_of_getElem? (i := 1126) (by decide +kernel)) rfl
theorem mlL_36 : Cond.methodLink RL 36 yX12_back ∈ pm_T := pm_T_in (List.mem_of_getElem? (i := 1130) (by decide +kernel)) rfl
theorem mlL_40 : Cond.methodLink RL 40 yX12_burn ∈ pm_T := pm_T_in (List.mem_of_getElem? (i := 1134) (by decide +kernel)) rfl
theorem mlL_45 : Cond.methodLink RL 45 yX12_days ∈ pm_T := pm_T_in (List.mem_of_getElem? (i := 1138) (by decide +kernel)) rfl
theorem mlL_49 : Cond.methodLink RL 49 yX12_look ∈ pm_T := pm_T_in (List.mem_of_getElem? (i := 1142) (by decide +kernel)) rfl
theorem mlL_54 : Cond.methodLink RL 54 yX12_of ∈ pm_T := pm_T_in (List.mem_of_getElem? (i := 1146) (by decide +kernel)) rfl
theorem mlX12_123 : Cond.methodLink RX12 123 yX12_rootOf ∈ pm_T := pm_T_in (List.mem_of_getElem? (i := 1150) (by decide +kernel)) rfl
theorem mlX12_136 : Cond.methodLink RX12 136 yX12_isDoubtful ∈ pm_T := pm_T_in (List.mem_of_getElem? (i := 1154) (by decide +kernel)) rfl
theorem mlX12_127 : Cond.methodLink RX12 127 yX12_keptOn ∈ pm_T := pm_T_in (List.mem_of_getElem? (i := 1158) (by decide +kernel)) rfl
theorem mlL_58 : Cond.methodLink RL 58 yX12_held ∈ pm_T := pm_T_in (List.mem_of_getElem? (i := 1162) (by decide +kernel)) rfl
theorem mlL_62 : Cond.methodLink RL 62 yX12_owners ∈ pm_T := pm_T_in (List.mem_of_getElem? (i := 1166) (by decide +kernel)) rfl
theorem mlL_67 : Cond.methodLink RL 67 yX12_gather ∈ pm_T := pm_T_in (List.mem_of_getElem? (i := 1170) (by decide +kernel)) rfl
theorem mlX12_139 : Cond.methodLink RX12 139 yX12_isSeason ∈ pm_T := pm_T_in (List.mem_of_getElem? (i := 1174) (by decide +kernel)) rfl
theorem mlX12_142 : Cond.methodLink RX12 142 yX12_areGuests ∈ pm_T := pm_T_in (List.mem_of_getElem? (i := 1177) (by decide +kernel)) rfl
theorem mlX12_145 : Cond.methodLink RX12 145 yX12_isSet ∈ pm_T := pm_T_in (List.mem_of_getElem? (i := 1180) (by decide +kernel)) rfl
theorem mlL_71 : Cond.methodLink RL 71 yX12_gathering ∈ pm_T := pm_T_in (List.mem_of_getElem? (i := 1184) (by decide +kernel)) rfl
theorem mlL_75 : Cond.methodLink RL 75 yX12_seen ∈ pm_T := pm_T_in (List.mem_of_getElem? (i := 1188) (by decide +kernel)) rfl
theorem mlX12_148 : Cond.methodLink RX12 148 yX12_seenOf ∈ pm_T := pm_T_in (List.mem_of_getElem? (i := 1192) (by decide +kernel)) rfl
theorem mlL_79 : Cond.methodLink RL 79 yX12_again ∈ pm_T := pm_T_in (List.mem_of_getElem? (i := 1196) (by decide +kernel)) rfl
theorem mlX12_152 : Cond.methodLink RX12 152 yX12_againOf ∈ pm_T := pm_T_in (List.mem_of_getElem? (i := 1200) (by decide +kernel)) rfl
theorem mlL_83 : Cond.methodLink RL 83 yX12_feed ∈ pm_T := pm_T_in (List.mem_of_getElem? (i := 1204) (by decide +kernel)) rfl
theorem mlL_87 : Cond.methodLink RL 87 yX12_end ∈ pm_T := pm_T_in (List.mem_of_getElem? (i := 1208) (by decide +kernel)) rfl
theorem mlL_92 : Cond.methodLink RL 92 yX12_rules ∈ pm_T := pm_T_in (List.mem_of_getElem? (i := 1212) (by decide +kernel)) rfl
theorem mlX12_222 : Cond.methodLink RX12 222 yX12_next0 ∈ pm_T := pm_T_in (List.mem_of_getElem? (i := 1216) (by decide +kernel)) rfl
theorem mlX12_191 : Cond.methodLink RX12 191 yX12_see ∈ pm_T := pm_T_in (List.mem_of_getElem? (i := 1220) (by decide +kernel)) rfl
theorem mlX12_200 : Cond.methodLink RX12 200 yX12_isLetter ∈ pm_T := pm_T_in (List.mem_of_getElem? (i := 1224) (by decide +kernel)) rfl
theorem mlX12_203 : Cond.methodLink RX12 203 yX12_word ∈ pm_T := pm_T_in (List.mem_of_getElem? (i := 1227) (by decide +kernel)) rfl
theorem coX12_158 : Cond.constantLong RX12 158 (6447474) ∈ pm_T := pm_T_in (List.mem_of_getElem? (i := 1230) (by decide +kernel)) rfl
theorem coX12_160 : Cond.constantLong RX12 160 (28530) ∈ pm_T := pm_T_in (List.mem_of_getElem? (i := 1231) (by decide +kernel)) rfl
theorem coX12_162 : Cond.constantLong RX12 162 (6385252) ∈ pm_T := pm_T_in (List.mem_of_getElem? (i := 1232) (by decide +kernel)) rfl
theorem coX12_164 : Cond.constantLong RX12 164 (7237492) ∈ pm_T := pm_T_in (List.mem_of_getElem? (i := 1233) (by decide +kernel)) rfl
theorem coX12_166 : Cond.constantLong RX12 166 (126879263846254) ∈ pm_T := pm_T_in (List.mem_of_getElem? (i := 1234) (by decide +kernel)) rfl
theorem coX12_168 : Cond.constantLong RX12 168 (113753910899827) ∈ pm_T := pm_T_in (List.mem_of_getElem? (i := 1235) (by decide +kernel)) rfl
theorem coX12_170 : Cond.constantLong RX12 170 (1918987883) ∈ pm_T := pm_T_in (List.mem_of_getElem? (i := 1236) (by decide +kernel)) rfl
theorem coX12_172 : Cond.constantLong RX12 172 (1953459813) ∈ pm_T := pm_T_in (List.mem_of_getElem? (i := 1237) (by decide +kernel)) rfl
theorem coX12_174 : Cond.constantLong RX12 174 (6383461) ∈ pm_T := pm_T_in (List.mem_of_getElem? (i := 1238) (by decide +kernel)) rfl
theorem coX12_176 : Cond.constantLong RX12 176 (6840691) ∈ pm_T := pm_T_in (List.mem_of_getElem? (i := 1239) (by decide +kernel)) rfl
theorem coX12_178 : Cond.constantLong RX12 178 (1651472236) ∈ pm_T := pm_T_in (List.mem_of_getElem? (i := 1240) (by decide +kernel)) rfl
theorem coX12_180 : Cond.constantLong RX12 180 (126870958861420) ∈ pm_T := pm_T_in (List.mem_of_getElem? (i := 1241) (by decide +kernel)) rfl
theorem coX12_182 : Cond.constantLong RX12 182 (118083489655909) ∈ pm_T := pm_T_in (List.mem_of_getElem? (i := 1242) (by decide +kernel)) rfl
theorem coX12_184 : Cond.constantLong RX12 184 (1986098021) ∈ pm_T := pm_T_in (List.mem_of_getElem? (i := 1243) (by decide +kernel)) rfl
theorem coX12_186 : Cond.constantLong RX12 186 (495589486448) ∈ pm_T := pm_T_in (List.mem_of_getElem? (i := 1244) (by decide +kernel)) rfl
theorem mlX12_207 : Cond.methodLink RX12 207 yX12_isDigit ∈ pm_T := pm_T_in (List.mem_of_getElem? (i := 1245) (by decide +kernel)) rfl
theorem mlX12_257 : Cond.methodLink RX12 257 yX12_aRule ∈ pm_T := pm_T_in (List.mem_of_getElem? (i := 1248) (by decide +kernel)) rfl
theorem mlX12_219 : Cond.methodLink RX12 219 yX12_bad ∈ pm_T := pm_T_in (List.mem_of_getElem? (i := 1252) (by decide +kernel)) rfl
theorem mlX12_245 : Cond.methodLink RX12 245 yX12_any ∈ pm_T := pm_T_in (List.mem_of_getElem? (i := 1256) (by decide +kernel)) rfl
theorem mlX12_231 : Cond.methodLink RX12 231 yX12_all ∈ pm_T := pm_T_in (List.mem_of_getElem? (i := 1260) (by decide +kernel)) rfl
theorem mlX12_239 : Cond.methodLink RX12 239 yX12_one ∈ pm_T := pm_T_in (List.mem_of_getElem? (i := 1264) (by decide +kernel)) rfl
theorem mlX12_242 : Cond.methodLink RX12 242 yX12_opens ∈ pm_T := pm_T_in (List.mem_of_getElem? (i := 1268) (by decide +kernel)) rfl
theorem mlX12_235 : Cond.methodLink RX12 235 yX12_lay ∈ pm_T := pm_T_in (List.mem_of_getElem? (i := 1272) (by decide +kernel)) rfl
theorem mlX12_248 : Cond.methodLink RX12 248 yX12_need ∈ pm_T := pm_T_in (List.mem_of_getElem? (i := 1276) (by decide +kernel)) rfl
theorem mlX12_251 : Cond.methodLink RX12 251 yX12_term ∈ pm_T := pm_T_in (List.mem_of_getElem? (i := 1280) (by decide +kernel)) rfl
theorem mlL_96 : Cond.methodLink RL 96 yX12_fault ∈ pm_T := pm_T_in (List.mem_of_getElem? (i := 1284) (by decide +kernel)) rfl
theorem mlL_100 : Cond.methodLink RL 100 yX12_barred ∈ pm_T := pm_T_in (List.mem_of_getElem? (i := 1288) (by decide +kernel)) rfl
theorem mlX12_277 : Cond.methodLink RX12 277 yX12_barredBy ∈ pm_T := pm_T_in (List.mem_of_getElem? (i := 1292) (by decide +kernel)) rfl
theorem mlX12_273 : Cond.methodLink RX12 273 yX12_isSo ∈ pm_T := pm_T_in (List.mem_of_getElem? (i := 1296) (by decide +kernel)) rfl
theorem mlX12_266 : Cond.methodLink RX12 266 yX12_known ∈ pm_T := pm_T_in (List.mem_of_getElem? (i := 1300) (by decide +kernel)) rfl
theorem mlX12_263 : Cond.methodLink RX12 263 yX12_bits ∈ pm_T := pm_T_in (List.mem_of_getElem? (i := 1304) (by decide +kernel)) rfl
theorem mlX12_270 : Cond.methodLink RX12 270 yX12_both ∈ pm_T := pm_T_in (List.mem_of_getElem? (i := 1307) (by decide +kernel)) rfl
theorem mlL_104 : Cond.methodLink RL 104 yX12_best ∈ pm_T := pm_T_in (List.mem_of_getElem? (i := 1310) (by decide +kernel)) rfl
theorem mlX12_302 : Cond.methodLink RX12 302 yX12_finds ∈ pm_T := pm_T_in (List.mem_of_getElem? (i := 1314) (by decide +kernel)) rfl
theorem mlX12_295 : Cond.methodLink RX12 295 yX12_next ∈ pm_T := pm_T_in (List.mem_of_getElem? (i := 1318) (by decide +kernel)) rfl
theorem mlX12_280 : Cond.methodLink RX12 280 yX12_isFit ∈ pm_T := pm_T_in (List.mem_of_getElem? (i := 1322) (by decide +kernel)) rfl
theorem mlX12_298 : Cond.methodLink RX12 298 yX12_tries ∈ pm_T := pm_T_in (List.mem_of_getElem? (i := 1326) (by decide +kernel)) rfl
theorem imObj : Cond.instanceMethod Lib.objectInit ∈ pm_T := pm_T_in (List.mem_of_getElem? (i := 78) (by decide +kernel)) rfl
theorem coObj : Cond.code Lib.objectInit ⟨#[0xb1]⟩ 1 none ∈ pm_T := pm_T_in (List.mem_of_getElem? (i := 79) (by decide +kernel)) rfl
