theorem mm_416 : Cond.methodLink RR_B 58 yy_B_refuseInPlay ∈ ww_all := ww_m (List.mem_of_getElem? (i := 260) (by decide +kernel)) rfl
theorem mm_417 : Cond.instanceMethod yy_B_refuseInPlay ∈ ww_all := ww_m (List.mem_of_getElem? (i := 262) (by decide +kernel)) rfl
theorem mm_418 : Cond.selects RR_B yy_B_refuseInPlay yy_B_refuseInPlay ∈ ww_all := ww_s (List.mem_of_getElem? (i := 3) (by decide +kernel)) rfl
set_option maxRecDepth 20000 in
theorem mm_419 : Cond.code yy_B_refuseInPlay bb_B_refuseInPlay 1 none ∈ ww_all := ww_m (List.mem_of_getElem? (i := 263) (rfl)) rfl
set_option maxRecDepth 20000 in
theorem mm_420 : Cond.code yy_G_isAllowed bb_G_isAllowed 4 (some .boolean) ∈ ww_all := ww_m (List.mem_of_getElem? (i := 356) (rfl)) rfl
theorem mm_421 : Cond.methodLink RR_B 72 yy_G_isAllowed ∈ ww_all := ww_m (List.mem_of_getElem? (i := 354) (by decide +kernel)) rfl
theorem mm_422 : Cond.static yy_G_isAllowed ∈ ww_all := ww_m (List.mem_of_getElem? (i := 355) (by decide +kernel)) rfl
theorem mm_423 : Cond.methodLink RR_B 84 yy_B_refuseWhileSet ∈ ww_all := ww_m (List.mem_of_getElem? (i := 447) (by decide +kernel)) rfl
theorem mm_424 : Cond.instanceMethod yy_B_refuseWhileSet ∈ ww_all := ww_m (List.mem_of_getElem? (i := 449) (by decide +kernel)) rfl
theorem mm_425 : Cond.selects RR_B yy_B_refuseWhileSet yy_B_refuseWhileSet ∈ ww_all := ww_s (List.mem_of_getElem? (i := 16) (by decide +kernel)) rfl
set_option maxRecDepth 20000 in
theorem mm_426 : Cond.code yy_B_refuseWhileSet bb_B_refuseWhileSet 1 none ∈ ww_all := ww_m (List.mem_of_getElem? (i := 450) (rfl)) rfl
set_option maxRecDepth 20000 in
theorem mm_427 : Cond.code yy_B_isThere bb_B_isThere 4 (some .boolean) ∈ ww_all := ww_m (List.mem_of_getElem? (i := 456) (rfl)) rfl
theorem mm_428 : Cond.methodLink RR_B 96 yy_B_isThere ∈ ww_all := ww_m (List.mem_of_getElem? (i := 453) (by decide +kernel)) rfl
theorem mm_429 : Cond.instanceMethod yy_B_isThere ∈ ww_all := ww_m (List.mem_of_getElem? (i := 455) (by decide +kernel)) rfl
theorem mm_430 : Cond.selects RR_B yy_B_isThere yy_B_isThere ∈ ww_all := ww_s (List.mem_of_getElem? (i := 17) (by decide +kernel)) rfl
set_option maxRecDepth 20000 in
theorem mm_431 : Cond.code yy_H_makeMove bb_H_makeMove 6 none ∈ ww_all := ww_m (List.mem_of_getElem? (i := 466) (rfl)) rfl
theorem mm_432 : Cond.methodLink RR_B 106 yy_H_makeMove ∈ ww_all := ww_m (List.mem_of_getElem? (i := 463) (by decide +kernel)) rfl
theorem mm_433 : Cond.instanceMethod yy_H_makeMove ∈ ww_all := ww_m (List.mem_of_getElem? (i := 464) (by decide +kernel)) rfl
theorem mm_434 : Cond.selects RR_H yy_H_makeMove yy_H_makeMove ∈ ww_all := ww_m (List.mem_of_getElem? (i := 465) (by decide +kernel)) rfl
set_option maxRecDepth 20000 in
theorem mm_435 : Cond.code yy_H_takeMoveBack bb_H_takeMoveBack 2 none ∈ ww_all := ww_m (List.mem_of_getElem? (i := 479) (rfl)) rfl
theorem mm_436 : Cond.methodLink RR_B 119 yy_H_takeMoveBack ∈ ww_all := ww_m (List.mem_of_getElem? (i := 476) (by decide +kernel)) rfl
theorem mm_437 : Cond.instanceMethod yy_H_takeMoveBack ∈ ww_all := ww_m (List.mem_of_getElem? (i := 477) (by decide +kernel)) rfl
theorem mm_438 : Cond.selects RR_H yy_H_takeMoveBack yy_H_takeMoveBack ∈ ww_all := ww_m (List.mem_of_getElem? (i := 478) (by decide +kernel)) rfl
theorem mm_439 : Cond.fieldLink RR_B 132 "RuledBoard$MoveRow" "codes" "[I" ∈ ww_all := ww_m (List.mem_of_getElem? (i := 93) (by decide +kernel)) rfl
theorem mm_440 : Cond.methodLink RR_B 135 yy_P_isInCheck ∈ ww_all := ww_m (List.mem_of_getElem? (i := 502) (by decide +kernel)) rfl
set_option maxRecDepth 20000 in
theorem mm_441 : Cond.code yy_H_quietNow bb_H_quietNow 1 (some .int) ∈ ww_all := ww_m (List.mem_of_getElem? (i := 523) (rfl)) rfl
theorem mm_442 : Cond.methodLink RR_B 138 yy_H_quietNow ∈ ww_all := ww_m (List.mem_of_getElem? (i := 520) (by decide +kernel)) rfl
theorem mm_443 : Cond.instanceMethod yy_H_quietNow ∈ ww_all := ww_m (List.mem_of_getElem? (i := 521) (by decide +kernel)) rfl
theorem mm_444 : Cond.selects RR_H yy_H_quietNow yy_H_quietNow ∈ ww_all := ww_m (List.mem_of_getElem? (i := 522) (by decide +kernel)) rfl
set_option maxRecDepth 20000 in
theorem mm_445 : Cond.code yy_H_countSame bb_H_countSame 3 (some .int) ∈ ww_all := ww_m (List.mem_of_getElem? (i := 534) (rfl)) rfl
theorem mm_446 : Cond.methodLink RR_B 141 yy_H_countSame ∈ ww_all := ww_m (List.mem_of_getElem? (i := 531) (by decide +kernel)) rfl
theorem mm_447 : Cond.instanceMethod yy_H_countSame ∈ ww_all := ww_m (List.mem_of_getElem? (i := 532) (by decide +kernel)) rfl
theorem mm_448 : Cond.selects RR_H yy_H_countSame yy_H_countSame ∈ ww_all := ww_m (List.mem_of_getElem? (i := 533) (by decide +kernel)) rfl
theorem mm_449 : Cond.methodLink RR_B 144 yy_B_isSide ∈ ww_all := ww_m (List.mem_of_getElem? (i := 546) (by decide +kernel)) rfl
theorem mm_450 : Cond.methodLink RR_B 149 yy_P_isHitBy ∈ ww_all := ww_m (List.mem_of_getElem? (i := 548) (by decide +kernel)) rfl
theorem nm_7 : Cond.methodLinkNest RR_B 155 yy_S_forcesMate "RuledBoard" ∈ qq_nest := ww_n (List.mem_of_getElem? (i := 557) (by decide +kernel)) rfl
