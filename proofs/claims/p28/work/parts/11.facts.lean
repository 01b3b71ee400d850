theorem inRL : Cond.initialized RL ∈ lw_g := mg 32 (by decide +kernel) rfl
theorem inRX0 : Cond.initialized RX0 ∈ lw_g := mg 35 (by decide +kernel) rfl
theorem inRX1 : Cond.initialized RX1 ∈ lw_g := mg 37 (by decide +kernel) rfl
theorem inRX2 : Cond.initialized RX2 ∈ lw_g := mg 36 (by decide +kernel) rfl
theorem inRX3 : Cond.initialized RX3 ∈ lw_g := mg 38 (by decide +kernel) rfl
theorem inRX4 : Cond.initialized RX4 ∈ lw_g := mg 39 (by decide +kernel) rfl
theorem inRX5 : Cond.initialized RX5 ∈ lw_g := mg 34 (by decide +kernel) rfl
theorem inRX6 : Cond.initialized RX6 ∈ lw_g := mg 33 (by decide +kernel) rfl
set_option maxRecDepth 100000 in
theorem FL_act : SF yL_act cL_act 9 (some .boolean) 3 := ⟨⟨mg 466 (by decide +kernel) rfl, inRL, mg 467 rfl rfl⟩, ⟨by decide +kernel, by decide +kernel, by decide +kernel⟩, by decide⟩
set_option maxRecDepth 100000 in
theorem FL_back : SF yL_back cL_back 9 (some .boolean) 2 := ⟨⟨mg 777 (by decide +kernel) rfl, inRL, mg 778 rfl rfl⟩, ⟨by decide +kernel, by decide +kernel, by decide +kernel⟩, by decide⟩
set_option maxRecDepth 100000 in
theorem FL_best : SF yL_best cL_best 7 (some .boolean) 1 := ⟨⟨mg 635 (by decide +kernel) rfl, inRL, mg 636 rfl rfl⟩, ⟨by decide +kernel, by decide +kernel, by decide +kernel⟩, by decide⟩
set_option maxRecDepth 100000 in
theorem FL_breaks : SF yL_breaks cL_breaks 11 (some .boolean) 2 := ⟨⟨mg 661 (by decide +kernel) rfl, inRL, mg 662 rfl rfl⟩, ⟨by decide +kernel, by decide +kernel, by decide +kernel⟩, by decide⟩
set_option maxRecDepth 100000 in
theorem FL_cell : SF yL_cell cL_cell 2 (some .int) 2 := ⟨⟨mg 458 (by decide +kernel) rfl, inRL, mg 459 rfl rfl⟩, ⟨by decide +kernel, by decide +kernel, by decide +kernel⟩, by decide⟩
set_option maxRecDepth 100000 in
theorem FL_critical : SF yL_critical cL_critical 8 (some .boolean) 2 := ⟨⟨mg 632 (by decide +kernel) rfl, inRL, mg 633 rfl rfl⟩, ⟨by decide +kernel, by decide +kernel, by decide +kernel⟩, by decide⟩
set_option maxRecDepth 100000 in
theorem FL_end : SF yL_end cL_end 2 (some .int) 2 := ⟨⟨mg 622 (by decide +kernel) rfl, inRL, mg 623 rfl rfl⟩, ⟨by decide +kernel, by decide +kernel, by decide +kernel⟩, by decide⟩
set_option maxRecDepth 100000 in
theorem FL_forces : SF yL_forces cL_forces 10 (some .boolean) 2 := ⟨⟨mg 644 (by decide +kernel) rfl, inRL, mg 645 rfl rfl⟩, ⟨by decide +kernel, by decide +kernel, by decide +kernel⟩, by decide⟩
set_option maxRecDepth 100000 in
theorem FL_on : SF yL_on cL_on 4 (some .int) 3 := ⟨⟨mg 619 (by decide +kernel) rfl, inRL, mg 620 rfl rfl⟩, ⟨by decide +kernel, by decide +kernel, by decide +kernel⟩, by decide⟩
set_option maxRecDepth 100000 in
theorem FL_plan : SF yL_plan cL_plan 17 (some .boolean) 1 := ⟨⟨mg 616 (by decide +kernel) rfl, inRL, mg 617 rfl rfl⟩, ⟨by decide +kernel, by decide +kernel, by decide +kernel⟩, by decide⟩
set_option maxRecDepth 100000 in
theorem FL_refused : SF yL_refused cL_refused 3 (some .boolean) 2 := ⟨⟨mg 789 (by decide +kernel) rfl, inRL, mg 790 rfl rfl⟩, ⟨by decide +kernel, by decide +kernel, by decide +kernel⟩, by decide⟩
set_option maxRecDepth 100000 in
theorem FL_rest : SF yL_rest cL_rest 2 (some .int) 2 := ⟨⟨mg 625 (by decide +kernel) rfl, inRL, mg 626 rfl rfl⟩, ⟨by decide +kernel, by decide +kernel, by decide +kernel⟩, by decide⟩
set_option maxRecDepth 100000 in
theorem FL_told : SF yL_told cL_told 6 (some .boolean) 1 := ⟨⟨mg 690 (by decide +kernel) rfl, inRL, mg 691 rfl rfl⟩, ⟨by decide +kernel, by decide +kernel, by decide +kernel⟩, by decide⟩
set_option maxRecDepth 100000 in
theorem FL_up : SF yL_up cL_up 2 (some .int) 2 := ⟨⟨mg 462 (by decide +kernel) rfl, inRL, mg 463 rfl rfl⟩, ⟨by decide +kernel, by decide +kernel, by decide +kernel⟩, by decide⟩
set_option maxRecDepth 100000 in
theorem FX0_record : MF yX0_record cX0_record 2 none 0 1 := ⟨⟨mg 312 (by decide +kernel) rfl, mg 313 (by decide +kernel) rfl, inRX0, mg 314 rfl rfl⟩, ⟨_, rfl, rfl⟩, ⟨by decide +kernel, by decide +kernel, by decide +kernel⟩, by decide⟩
set_option maxRecDepth 100000 in
theorem FX0_takeBack : MF yX0_takeBack cX0_takeBack 2 none 0 1 := ⟨⟨mg 686 (by decide +kernel) rfl, mg 687 (by decide +kernel) rfl, inRX0, mg 688 rfl rfl⟩, ⟨_, rfl, rfl⟩, ⟨by decide +kernel, by decide +kernel, by decide +kernel⟩, by decide⟩
set_option maxRecDepth 100000 in
theorem FX1_boundOf : MF yX1_boundOf cX1_boundOf 9 (some .int) 1 1 := ⟨⟨mg 556 (by decide +kernel) rfl, mg 557 (by decide +kernel) rfl, inRX1, mg 558 rfl rfl⟩, ⟨_, rfl, rfl⟩, ⟨by decide +kernel, by decide +kernel, by decide +kernel⟩, by decide⟩
set_option maxRecDepth 100000 in
theorem FX1_decide : MF yX1_decide cX1_decide 3 none 1 2 := ⟨⟨mg 592 (by decide +kernel) rfl, mg 593 (by decide +kernel) rfl, inRX1, mg 594 rfl rfl⟩, ⟨_, rfl, rfl⟩, ⟨by decide +kernel, by decide +kernel, by decide +kernel⟩, by decide⟩
set_option maxRecDepth 100000 in
theorem FX1_decidedPairs : MF yX1_decidedPairs cX1_decidedPairs 4 (some .int) 1 0 := ⟨⟨mg 652 (by decide +kernel) rfl, mg 653 (by decide +kernel) rfl, inRX1, mg 654 rfl rfl⟩, ⟨_, rfl, rfl⟩, ⟨by decide +kernel, by decide +kernel, by decide +kernel⟩, by decide⟩
set_option maxRecDepth 100000 in
theorem FX1_endOf : MF yX1_endOf cX1_endOf 2 (some .int) 1 1 := ⟨⟨mg 403 (by decide +kernel) rfl, mg 404 (by decide +kernel) rfl, inRX1, mg 405 rfl rfl⟩, ⟨_, rfl, rfl⟩, ⟨by decide +kernel, by decide +kernel, by decide +kernel⟩, by decide⟩
set_option maxRecDepth 100000 in
theorem FX1_followOrder : MF yX1_followOrder cX1_followOrder 7 none 1 3 := ⟨⟨mg 375 (by decide +kernel) rfl, mg 376 (by decide +kernel) rfl, inRX1, mg 377 rfl rfl⟩, ⟨_, rfl, rfl⟩, ⟨by decide +kernel, by decide +kernel, by decide +kernel⟩, by decide⟩
set_option maxRecDepth 100000 in
theorem FX1_followOrders : MF yX1_followOrders cX1_followOrders 3 none 1 1 := ⟨⟨mg 371 (by decide +kernel) rfl, mg 372 (by decide +kernel) rfl, inRX1, mg 373 rfl rfl⟩, ⟨_, rfl, rfl⟩, ⟨by decide +kernel, by decide +kernel, by decide +kernel⟩, by decide⟩
set_option maxRecDepth 100000 in
theorem FX1_forceOn : MF yX1_forceOn cX1_forceOn 10 (some .int) 1 2 := ⟨⟨mg 577 (by decide +kernel) rfl, mg 18 (by decide +kernel) rfl, inRX1, mg 578 rfl rfl⟩, ⟨_, rfl, rfl⟩, ⟨by decide +kernel, by decide +kernel, by decide +kernel⟩, by decide⟩
set_option maxRecDepth 100000 in
theorem FX1_goesAhead : MF yX1_goesAhead cX1_goesAhead 3 (some .boolean) 1 2 := ⟨⟨mg 584 (by decide +kernel) rfl, mg 585 (by decide +kernel) rfl, inRX1, mg 586 rfl rfl⟩, ⟨_, rfl, rfl⟩, ⟨by decide +kernel, by decide +kernel, by decide +kernel⟩, by decide⟩
set_option maxRecDepth 100000 in
theorem FX1_greatestBound : MF yX1_greatestBound cX1_greatestBound 4 (some .int) 1 0 := ⟨⟨mg 552 (by decide +kernel) rfl, mg 553 (by decide +kernel) rfl, inRX1, mg 554 rfl rfl⟩, ⟨_, rfl, rfl⟩, ⟨by decide +kernel, by decide +kernel, by decide +kernel⟩, by decide⟩
set_option maxRecDepth 100000 in
theorem FX1_headOf : MF yX1_headOf cX1_headOf 7 (some .int) 1 1 := ⟨⟨mg 396 (by decide +kernel) rfl, mg 4 (by decide +kernel) rfl, inRX1, mg 397 rfl rfl⟩, ⟨_, rfl, rfl⟩, ⟨by decide +kernel, by decide +kernel, by decide +kernel⟩, by decide⟩
set_option maxRecDepth 100000 in
theorem FX1_holdBack : MF yX1_holdBack cX1_holdBack 3 none 1 2 := ⟨⟨mg 677 (by decide +kernel) rfl, mg 678 (by decide +kernel) rfl, inRX1, mg 679 rfl rfl⟩, ⟨_, rfl, rfl⟩, ⟨by decide +kernel, by decide +kernel, by decide +kernel⟩, by decide⟩
set_option maxRecDepth 100000 in
theorem FX1_jobsOn : MF yX1_jobsOn cX1_jobsOn 4 (some .int) 1 1 := ⟨⟨mg 379 (by decide +kernel) rfl, mg 380 (by decide +kernel) rfl, inRX1, mg 381 rfl rfl⟩, ⟨_, rfl, rfl⟩, ⟨by decide +kernel, by decide +kernel, by decide +kernel⟩, by decide⟩
set_option maxRecDepth 100000 in
theorem FX1_keeps : MF yX1_keeps cX1_keeps 6 (some .boolean) 1 1 := ⟨⟨mg 571 (by decide +kernel) rfl, mg 572 (by decide +kernel) rfl, inRX1, mg 573 rfl rfl⟩, ⟨_, rfl, rfl⟩, ⟨by decide +kernel, by decide +kernel, by decide +kernel⟩, by decide⟩
set_option maxRecDepth 100000 in
theorem FX1_letFirst : MF yX1_letFirst cX1_letFirst 6 none 1 3 := ⟨⟨mg 383 (by decide +kernel) rfl, mg 384 (by decide +kernel) rfl, inRX1, mg 385 rfl rfl⟩, ⟨_, rfl, rfl⟩, ⟨by decide +kernel, by decide +kernel, by decide +kernel⟩, by decide⟩
set_option maxRecDepth 100000 in
theorem FX1_load : MF yX1_load cX1_load 5 none 1 1 := ⟨⟨mg 366 (by decide +kernel) rfl, mg 367 (by decide +kernel) rfl, inRX1, mg 368 rfl rfl⟩, ⟨_, rfl, rfl⟩, ⟨by decide +kernel, by decide +kernel, by decide +kernel⟩, by decide⟩
set_option maxRecDepth 100000 in
theorem FX1_longestPair : MF yX1_longestPair cX1_longestPair 9 (some .int) 1 0 := ⟨⟨mg 596 (by decide +kernel) rfl, mg 597 (by decide +kernel) rfl, inRX1, mg 598 rfl rfl⟩, ⟨_, rfl, rfl⟩, ⟨by decide +kernel, by decide +kernel, by decide +kernel⟩, by decide⟩
set_option maxRecDepth 100000 in
theorem FX1_measure : MF yX1_measure cX1_measure 5 (some .boolean) 1 0 := ⟨⟨mg 387 (by decide +kernel) rfl, mg 388 (by decide +kernel) rfl, inRX1, mg 389 rfl rfl⟩, ⟨_, rfl, rfl⟩, ⟨by decide +kernel, by decide +kernel, by decide +kernel⟩, by decide⟩
set_option maxRecDepth 100000 in
theorem FX1_mostUrgent : MF yX1_mostUrgent cX1_mostUrgent 7 (some .int) 1 2 := ⟨⟨mg 565 (by decide +kernel) rfl, mg 17 (by decide +kernel) rfl, inRX1, mg 566 rfl rfl⟩, ⟨_, rfl, rfl⟩, ⟨by decide +kernel, by decide +kernel, by decide +kernel⟩, by decide⟩
set_option maxRecDepth 100000 in
theorem FX1_nextHead : MF yX1_nextHead cX1_nextHead 6 (some .int) 1 2 := ⟨⟨mg 561 (by decide +kernel) rfl, mg 16 (by decide +kernel) rfl, inRX1, mg 562 rfl rfl⟩, ⟨_, rfl, rfl⟩, ⟨by decide +kernel, by decide +kernel, by decide +kernel⟩, by decide⟩
set_option maxRecDepth 100000 in
theorem FX1_slackOf : MF yX1_slackOf cX1_slackOf 2 (some .int) 1 1 := ⟨⟨mg 419 (by decide +kernel) rfl, mg 420 (by decide +kernel) rfl, inRX1, mg 421 rfl rfl⟩, ⟨_, rfl, rfl⟩, ⟨by decide +kernel, by decide +kernel, by decide +kernel⟩, by decide⟩
set_option maxRecDepth 100000 in
theorem FX1_sortAlong : MF yX1_sortAlong cX1_sortAlong 4 none 1 1 := ⟨⟨mg 392 (by decide +kernel) rfl, mg 3 (by decide +kernel) rfl, inRX1, mg 393 rfl rfl⟩, ⟨_, rfl, rfl⟩, ⟨by decide +kernel, by decide +kernel, by decide +kernel⟩, by decide⟩
set_option maxRecDepth 100000 in
theorem FX1_tailOf : MF yX1_tailOf cX1_tailOf 7 (some .int) 1 1 := ⟨⟨mg 400 (by decide +kernel) rfl, mg 5 (by decide +kernel) rfl, inRX1, mg 401 rfl rfl⟩, ⟨_, rfl, rfl⟩, ⟨by decide +kernel, by decide +kernel, by decide +kernel⟩, by decide⟩
set_option maxRecDepth 100000 in
theorem FX1_undecided : MF yX1_undecided cX1_undecided 3 (some .boolean) 1 2 := ⟨⟨mg 581 (by decide +kernel) rfl, mg 19 (by decide +kernel) rfl, inRX1, mg 582 rfl rfl⟩, ⟨_, rfl, rfl⟩, ⟨by decide +kernel, by decide +kernel, by decide +kernel⟩, by decide⟩
set_option maxRecDepth 100000 in
theorem FX1_wayThrough : MF yX1_wayThrough cX1_wayThrough 3 (some .int) 1 2 := ⟨⟨mg 589 (by decide +kernel) rfl, mg 20 (by decide +kernel) rfl, inRX1, mg 590 rfl rfl⟩, ⟨_, rfl, rfl⟩, ⟨by decide +kernel, by decide +kernel, by decide +kernel⟩, by decide⟩
set_option maxRecDepth 100000 in
theorem FX2_anotherJobFor : MF yX2_anotherJobFor cX2_anotherJobFor 3 (some .boolean) 2 1 := ⟨⟨mg 763 (by decide +kernel) rfl, mg 31 (by decide +kernel) rfl, inRX2, mg 764 rfl rfl⟩, ⟨_, rfl, rfl⟩, ⟨by decide +kernel, by decide +kernel, by decide +kernel⟩, by decide⟩
set_option maxRecDepth 100000 in
theorem FX2_append : MF yX2_append cX2_append 2 none 2 1 := ⟨⟨mg 706 (by decide +kernel) rfl, mg 707 (by decide +kernel) rfl, inRX2, mg 708 rfl rfl⟩, ⟨_, rfl, rfl⟩, ⟨by decide +kernel, by decide +kernel, by decide +kernel⟩, by decide⟩
set_option maxRecDepth 100000 in
theorem FX2_digit : MF yX2_digit cX2_digit 1 (some .int) 2 0 := ⟨⟨mg 736 (by decide +kernel) rfl, mg 28 (by decide +kernel) rfl, inRX2, mg 737 rfl rfl⟩, ⟨_, rfl, rfl⟩, ⟨by decide +kernel, by decide +kernel, by decide +kernel⟩, by decide⟩
set_option maxRecDepth 100000 in
theorem FX2_names : MF yX2_names cX2_names 2 (some .boolean) 2 1 := ⟨⟨mg 754 (by decide +kernel) rfl, mg 755 (by decide +kernel) rfl, inRX2, mg 756 rfl rfl⟩, ⟨_, rfl, rfl⟩, ⟨by decide +kernel, by decide +kernel, by decide +kernel⟩, by decide⟩
set_option maxRecDepth 100000 in
theorem FX2_number : MF yX2_number cX2_number 4 (some .int) 2 2 := ⟨⟨mg 732 (by decide +kernel) rfl, mg 27 (by decide +kernel) rfl, inRX2, mg 733 rfl rfl⟩, ⟨_, rfl, rfl⟩, ⟨by decide +kernel, by decide +kernel, by decide +kernel⟩, by decide⟩
set_option maxRecDepth 100000 in
theorem FX2_readJob : MF yX2_readJob cX2_readJob 6 (some .boolean) 2 1 := ⟨⟨mg 724 (by decide +kernel) rfl, mg 25 (by decide +kernel) rfl, inRX2, mg 725 rfl rfl⟩, ⟨_, rfl, rfl⟩, ⟨by decide +kernel, by decide +kernel, by decide +kernel⟩, by decide⟩
set_option maxRecDepth 100000 in
theorem FX2_readOperation : MF yX2_readOperation cX2_readOperation 5 (some .boolean) 2 2 := ⟨⟨mg 741 (by decide +kernel) rfl, mg 29 (by decide +kernel) rfl, inRX2, mg 742 rfl rfl⟩, ⟨_, rfl, rfl⟩, ⟨by decide +kernel, by decide +kernel, by decide +kernel⟩, by decide⟩
set_option maxRecDepth 100000 in
theorem FX2_readOrder : MF yX2_readOrder cX2_readOrder 4 (some .boolean) 2 1 := ⟨⟨mg 751 (by decide +kernel) rfl, mg 30 (by decide +kernel) rfl, inRX2, mg 752 rfl rfl⟩, ⟨_, rfl, rfl⟩, ⟨by decide +kernel, by decide +kernel, by decide +kernel⟩, by decide⟩
set_option maxRecDepth 100000 in
theorem FX2_readPlan : MF yX2_readPlan cX2_readPlan 4 (some .int) 2 1 := ⟨⟨mg 746 (by decide +kernel) rfl, mg 747 (by decide +kernel) rfl, inRX2, mg 748 rfl rfl⟩, ⟨_, rfl, rfl⟩, ⟨by decide +kernel, by decide +kernel, by decide +kernel⟩, by decide⟩
set_option maxRecDepth 100000 in
theorem FX2_readRoutes : MF yX2_readRoutes cX2_readRoutes 4 (some .int) 2 1 := ⟨⟨mg 715 (by decide +kernel) rfl, mg 716 (by decide +kernel) rfl, inRX2, mg 717 rfl rfl⟩, ⟨_, rfl, rfl⟩, ⟨by decide +kernel, by decide +kernel, by decide +kernel⟩, by decide⟩
set_option maxRecDepth 100000 in
theorem FX2_take : MF yX2_take cX2_take 2 (some .boolean) 2 1 := ⟨⟨mg 728 (by decide +kernel) rfl, mg 26 (by decide +kernel) rfl, inRX2, mg 729 rfl rfl⟩, ⟨_, rfl, rfl⟩, ⟨by decide +kernel, by decide +kernel, by decide +kernel⟩, by decide⟩
set_option maxRecDepth 100000 in
theorem FX3_blocks : MF yX3_blocks cX3_blocks 4 (some .int) 3 1 := ⟨⟨mg 503 (by decide +kernel) rfl, mg 504 (by decide +kernel) rfl, inRX3, mg 505 rfl rfl⟩, ⟨_, rfl, rfl⟩, ⟨by decide +kernel, by decide +kernel, by decide +kernel⟩, by decide⟩
set_option maxRecDepth 100000 in
theorem FX3_first : MF yX3_first cX3_first 4 (some .int) 3 2 := ⟨⟨mg 412 (by decide +kernel) rfl, mg 6 (by decide +kernel) rfl, inRX3, mg 413 rfl rfl⟩, ⟨_, rfl, rfl⟩, ⟨by decide +kernel, by decide +kernel, by decide +kernel⟩, by decide⟩
set_option maxRecDepth 100000 in
theorem FX3_goesOn : MF yX3_goesOn cX3_goesOn 4 (some .boolean) 3 3 := ⟨⟨mg 429 (by decide +kernel) rfl, mg 8 (by decide +kernel) rfl, inRX3, mg 430 rfl rfl⟩, ⟨_, rfl, rfl⟩, ⟨by decide +kernel, by decide +kernel, by decide +kernel⟩, by decide⟩
set_option maxRecDepth 100000 in
theorem FX3_next : MF yX3_next cX3_next 6 (some .int) 3 3 := ⟨⟨mg 424 (by decide +kernel) rfl, mg 7 (by decide +kernel) rfl, inRX3, mg 425 rfl rfl⟩, ⟨_, rfl, rfl⟩, ⟨by decide +kernel, by decide +kernel, by decide +kernel⟩, by decide⟩
set_option maxRecDepth 100000 in
theorem FX3_placeOf : MF yX3_placeOf cX3_placeOf 3 (some .int) 3 1 := ⟨⟨mg 534 (by decide +kernel) rfl, mg 535 (by decide +kernel) rfl, inRX3, mg 536 rfl rfl⟩, ⟨_, rfl, rfl⟩, ⟨by decide +kernel, by decide +kernel, by decide +kernel⟩, by decide⟩
set_option maxRecDepth 100000 in
theorem FX3_trace : MF yX3_trace cX3_trace 4 none 3 2 := ⟨⟨mg 407 (by decide +kernel) rfl, mg 408 (by decide +kernel) rfl, inRX3, mg 409 rfl rfl⟩, ⟨_, rfl, rfl⟩, ⟨by decide +kernel, by decide +kernel, by decide +kernel⟩, by decide⟩
set_option maxRecDepth 100000 in
theorem FX4_complete : SF yX4_complete cX4_complete 7 (some .boolean) 3 := ⟨⟨mg 568 (by decide +kernel) rfl, inRX4, mg 569 rfl rfl⟩, ⟨by decide +kernel, by decide +kernel, by decide +kernel⟩, by decide⟩
set_option maxRecDepth 100000 in
theorem FX4_find : MF yX4_find cX4_find 2 none 4 0 := ⟨⟨mg 546 (by decide +kernel) rfl, mg 547 (by decide +kernel) rfl, inRX4, mg 548 rfl rfl⟩, ⟨_, rfl, rfl⟩, ⟨by decide +kernel, by decide +kernel, by decide +kernel⟩, by decide⟩
set_option maxRecDepth 100000 in
theorem FX4_jobsLeft : MF yX4_jobsLeft cX4_jobsLeft 5 (some .int) 4 1 := ⟨⟨mg 606 (by decide +kernel) rfl, mg 22 (by decide +kernel) rfl, inRX4, mg 607 rfl rfl⟩, ⟨_, rfl, rfl⟩, ⟨by decide +kernel, by decide +kernel, by decide +kernel⟩, by decide⟩
set_option maxRecDepth 100000 in
theorem FX4_settle : MF yX4_settle cX4_settle 6 (some .int) 4 1 := ⟨⟨mg 602 (by decide +kernel) rfl, mg 21 (by decide +kernel) rfl, inRX4, mg 603 rfl rfl⟩, ⟨_, rfl, rfl⟩, ⟨by decide +kernel, by decide +kernel, by decide +kernel⟩, by decide⟩
set_option maxRecDepth 100000 in
theorem FX5_addJob : MF yX5_addJob cX5_addJob 3 (some .int) 5 2 := ⟨⟨mg 327 (by decide +kernel) rfl, mg 328 (by decide +kernel) rfl, inRX5, mg 329 rfl rfl⟩, ⟨_, rfl, rfl⟩, ⟨by decide +kernel, by decide +kernel, by decide +kernel⟩, by decide⟩
set_option maxRecDepth 100000 in
theorem FX5_addOperation : MF yX5_addOperation cX5_addOperation 5 (some .int) 5 3 := ⟨⟨mg 346 (by decide +kernel) rfl, mg 347 (by decide +kernel) rfl, inRX5, mg 348 rfl rfl⟩, ⟨_, rfl, rfl⟩, ⟨by decide +kernel, by decide +kernel, by decide +kernel⟩, by decide⟩
set_option maxRecDepth 100000 in
theorem FX5_allSteps : MF yX5_allSteps cX5_allSteps 3 (some .int) 5 0 := ⟨⟨mg 490 (by decide +kernel) rfl, mg 491 (by decide +kernel) rfl, inRX5, mg 492 rfl rfl⟩, ⟨_, rfl, rfl⟩, ⟨by decide +kernel, by decide +kernel, by decide +kernel⟩, by decide⟩
set_option maxRecDepth 100000 in
theorem FX5_allWork : MF yX5_allWork cX5_allWork 3 (some .int) 5 0 := ⟨⟨mg 494 (by decide +kernel) rfl, mg 495 (by decide +kernel) rfl, inRX5, mg 496 rfl rfl⟩, ⟨_, rfl, rfl⟩, ⟨by decide +kernel, by decide +kernel, by decide +kernel⟩, by decide⟩
set_option maxRecDepth 100000 in
theorem FX5_append : MF yX5_append cX5_append 3 none 5 2 := ⟨⟨mg 350 (by decide +kernel) rfl, mg 351 (by decide +kernel) rfl, inRX5, mg 352 rfl rfl⟩, ⟨_, rfl, rfl⟩, ⟨by decide +kernel, by decide +kernel, by decide +kernel⟩, by decide⟩
set_option maxRecDepth 100000 in
theorem FX5_become : MF yX5_become cX5_become 2 none 5 1 := ⟨⟨mg 316 (by decide +kernel) rfl, mg 317 (by decide +kernel) rfl, inRX5, mg 318 rfl rfl⟩, ⟨_, rfl, rfl⟩, ⟨by decide +kernel, by decide +kernel, by decide +kernel⟩, by decide⟩
set_option maxRecDepth 100000 in
theorem FX5_clear : MF yX5_clear cX5_clear 2 none 5 0 := ⟨⟨mg 719 (by decide +kernel) rfl, mg 720 (by decide +kernel) rfl, inRX5, mg 721 rfl rfl⟩, ⟨_, rfl, rfl⟩, ⟨by decide +kernel, by decide +kernel, by decide +kernel⟩, by decide⟩
set_option maxRecDepth 100000 in
theorem FX5_exchange : MF yX5_exchange cX5_exchange 5 none 5 2 := ⟨⟨mg 482 (by decide +kernel) rfl, mg 483 (by decide +kernel) rfl, inRX5, mg 484 rfl rfl⟩, ⟨_, rfl, rfl⟩, ⟨by decide +kernel, by decide +kernel, by decide +kernel⟩, by decide⟩
set_option maxRecDepth 100000 in
theorem FX5_hasJob : MF yX5_hasJob cX5_hasJob 2 (some .boolean) 5 1 := ⟨⟨mg 335 (by decide +kernel) rfl, mg 336 (by decide +kernel) rfl, inRX5, mg 337 rfl rfl⟩, ⟨_, rfl, rfl⟩, ⟨by decide +kernel, by decide +kernel, by decide +kernel⟩, by decide⟩
set_option maxRecDepth 100000 in
theorem FX5_hasOperation : MF yX5_hasOperation cX5_hasOperation 2 (some .boolean) 5 1 := ⟨⟨mg 415 (by decide +kernel) rfl, mg 416 (by decide +kernel) rfl, inRX5, mg 417 rfl rfl⟩, ⟨_, rfl, rfl⟩, ⟨by decide +kernel, by decide +kernel, by decide +kernel⟩, by decide⟩
set_option maxRecDepth 100000 in
theorem FX5_hasPlace : MF yX5_hasPlace cX5_hasPlace 3 (some .boolean) 5 2 := ⟨⟨mg 444 (by decide +kernel) rfl, mg 445 (by decide +kernel) rfl, inRX5, mg 446 rfl rfl⟩, ⟨_, rfl, rfl⟩, ⟨by decide +kernel, by decide +kernel, by decide +kernel⟩, by decide⟩
set_option maxRecDepth 100000 in
theorem FX5_jobsInOrder : MF yX5_jobsInOrder cX5_jobsInOrder 4 (some .int) 5 1 := ⟨⟨mg 758 (by decide +kernel) rfl, mg 759 (by decide +kernel) rfl, inRX5, mg 760 rfl rfl⟩, ⟨_, rfl, rfl⟩, ⟨by decide +kernel, by decide +kernel, by decide +kernel⟩, by decide⟩
set_option maxRecDepth 100000 in
theorem FX5_nextOnMachine : MF yX5_nextOnMachine cX5_nextOnMachine 3 (some .int) 5 1 := ⟨⟨mg 432 (by decide +kernel) rfl, mg 433 (by decide +kernel) rfl, inRX5, mg 434 rfl rfl⟩, ⟨_, rfl, rfl⟩, ⟨by decide +kernel, by decide +kernel, by decide +kernel⟩, by decide⟩
set_option maxRecDepth 100000 in
theorem FX5_operationAt : MF yX5_operationAt cX5_operationAt 3 (some .int) 5 2 := ⟨⟨mg 440 (by decide +kernel) rfl, mg 441 (by decide +kernel) rfl, inRX5, mg 442 rfl rfl⟩, ⟨_, rfl, rfl⟩, ⟨by decide +kernel, by decide +kernel, by decide +kernel⟩, by decide⟩
set_option maxRecDepth 100000 in
theorem FX5_operationOf : MF yX5_operationOf cX5_operationOf 4 (some .int) 5 2 := ⟨⟨mg 342 (by decide +kernel) rfl, mg 343 (by decide +kernel) rfl, inRX5, mg 344 rfl rfl⟩, ⟨_, rfl, rfl⟩, ⟨by decide +kernel, by decide +kernel, by decide +kernel⟩, by decide⟩
set_option maxRecDepth 100000 in
theorem FX5_placeOf : MF yX5_placeOf cX5_placeOf 4 (some .int) 5 1 := ⟨⟨mg 436 (by decide +kernel) rfl, mg 437 (by decide +kernel) rfl, inRX5, mg 438 rfl rfl⟩, ⟨_, rfl, rfl⟩, ⟨by decide +kernel, by decide +kernel, by decide +kernel⟩, by decide⟩
set_option maxRecDepth 100000 in
theorem FX5_takeOrder : MF yX5_takeOrder cX5_takeOrder 4 none 5 2 := ⟨⟨mg 773 (by decide +kernel) rfl, mg 774 (by decide +kernel) rfl, inRX5, mg 775 rfl rfl⟩, ⟨_, rfl, rfl⟩, ⟨by decide +kernel, by decide +kernel, by decide +kernel⟩, by decide⟩
set_option maxRecDepth 100000 in
theorem FX5_work : MF yX5_work cX5_work 4 (some .int) 5 1 := ⟨⟨mg 358 (by decide +kernel) rfl, mg 359 (by decide +kernel) rfl, inRX5, mg 360 rfl rfl⟩, ⟨_, rfl, rfl⟩, ⟨by decide +kernel, by decide +kernel, by decide +kernel⟩, by decide⟩
set_option maxRecDepth 100000 in
theorem FX6_about : MF yX6_about cX6_about 3 (some .int) 6 2 := ⟨⟨mg 524 (by decide +kernel) rfl, mg 525 (by decide +kernel) rfl, inRX6, mg 526 rfl rfl⟩, ⟨_, rfl, rfl⟩, ⟨by decide +kernel, by decide +kernel, by decide +kernel⟩, by decide⟩
set_option maxRecDepth 100000 in
theorem FX6_beginChange : MF yX6_beginChange cX6_beginChange 1 none 6 0 := ⟨⟨mg 309 (by decide +kernel) rfl, mg 0 (by decide +kernel) rfl, inRX6, mg 310 rfl rfl⟩, ⟨_, rfl, rfl⟩, ⟨by decide +kernel, by decide +kernel, by decide +kernel⟩, by decide⟩
set_option maxRecDepth 100000 in
theorem FX6_best : MF yX6_best cX6_best 3 (some .int) 6 2 := ⟨⟨mg 542 (by decide +kernel) rfl, mg 543 (by decide +kernel) rfl, inRX6, mg 544 rfl rfl⟩, ⟨_, rfl, rfl⟩, ⟨by decide +kernel, by decide +kernel, by decide +kernel⟩, by decide⟩
set_option maxRecDepth 100000 in
theorem FX6_bound : MF yX6_bound cX6_bound 2 (some .int) 6 1 := ⟨⟨mg 638 (by decide +kernel) rfl, mg 639 (by decide +kernel) rfl, inRX6, mg 640 rfl rfl⟩, ⟨_, rfl, rfl⟩, ⟨by decide +kernel, by decide +kernel, by decide +kernel⟩, by decide⟩
set_option maxRecDepth 100000 in
theorem FX6_breakdown : MF yX6_breakdown cX6_breakdown 5 (some .int) 6 4 := ⟨⟨mg 664 (by decide +kernel) rfl, mg 665 (by decide +kernel) rfl, inRX6, mg 666 rfl rfl⟩, ⟨_, rfl, rfl⟩, ⟨by decide +kernel, by decide +kernel, by decide +kernel⟩, by decide⟩
set_option maxRecDepth 100000 in
theorem FX6_change : MF yX6_change cX6_change 4 (some .int) 6 2 := ⟨⟨mg 538 (by decide +kernel) rfl, mg 539 (by decide +kernel) rfl, inRX6, mg 540 rfl rfl⟩, ⟨_, rfl, rfl⟩, ⟨by decide +kernel, by decide +kernel, by decide +kernel⟩, by decide⟩
set_option maxRecDepth 100000 in
theorem FX6_copyRow : SF yX6_copyRow cX6_copyRow 3 none 2 := ⟨⟨mg 320 (by decide +kernel) rfl, inRX6, mg 321 rfl rfl⟩, ⟨by decide +kernel, by decide +kernel, by decide +kernel⟩, by decide⟩
set_option maxRecDepth 100000 in
theorem FX6_count : MF yX6_count cX6_count 2 (some .int) 6 1 := ⟨⟨mg 486 (by decide +kernel) rfl, mg 487 (by decide +kernel) rfl, inRX6, mg 488 rfl rfl⟩, ⟨_, rfl, rfl⟩, ⟨by decide +kernel, by decide +kernel, by decide +kernel⟩, by decide⟩
set_option maxRecDepth 100000 in
theorem FX6_endOfJob : MF yX6_endOfJob cX6_endOfJob 3 (some .int) 6 1 := ⟨⟨mg 450 (by decide +kernel) rfl, mg 9 (by decide +kernel) rfl, inRX6, mg 451 rfl rfl⟩, ⟨_, rfl, rfl⟩, ⟨by decide +kernel, by decide +kernel, by decide +kernel⟩, by decide⟩
set_option maxRecDepth 100000 in
theorem FX6_fault : MF yX6_fault cX6_fault 2 (some .int) 6 1 := ⟨⟨mg 711 (by decide +kernel) rfl, mg 712 (by decide +kernel) rfl, inRX6, mg 713 rfl rfl⟩, ⟨_, rfl, rfl⟩, ⟨by decide +kernel, by decide +kernel, by decide +kernel⟩, by decide⟩
set_option maxRecDepth 100000 in
theorem FX6_forced : MF yX6_forced cX6_forced 2 (some .int) 6 1 := ⟨⟨mg 647 (by decide +kernel) rfl, mg 648 (by decide +kernel) rfl, inRX6, mg 649 rfl rfl⟩, ⟨_, rfl, rfl⟩, ⟨by decide +kernel, by decide +kernel, by decide +kernel⟩, by decide⟩
set_option maxRecDepth 100000 in
theorem FX6_forgetAnswers : MF yX6_forgetAnswers cX6_forgetAnswers 1 none 6 0 := ⟨⟨mg 324 (by decide +kernel) rfl, mg 1 (by decide +kernel) rfl, inRX6, mg 325 rfl rfl⟩, ⟨_, rfl, rfl⟩, ⟨by decide +kernel, by decide +kernel, by decide +kernel⟩, by decide⟩
set_option maxRecDepth 100000 in
theorem FX6_greatestLateness : MF yX6_greatestLateness cX6_greatestLateness 4 (some .int) 6 0 := ⟨⟨mg 512 (by decide +kernel) rfl, mg 13 (by decide +kernel) rfl, inRX6, mg 513 rfl rfl⟩, ⟨_, rfl, rfl⟩, ⟨by decide +kernel, by decide +kernel, by decide +kernel⟩, by decide⟩
set_option maxRecDepth 100000 in
theorem FX6_improve : MF yX6_improve cX6_improve 6 (some .int) 6 0 := ⟨⟨mg 515 (by decide +kernel) rfl, mg 516 (by decide +kernel) rfl, inRX6, mg 517 rfl rfl⟩, ⟨_, rfl, rfl⟩, ⟨by decide +kernel, by decide +kernel, by decide +kernel⟩, by decide⟩
set_option maxRecDepth 100000 in
theorem FX6_isForced : MF yX6_isForced cX6_isForced 4 (some .int) 6 3 := ⟨⟨mg 656 (by decide +kernel) rfl, mg 657 (by decide +kernel) rfl, inRX6, mg 658 rfl rfl⟩, ⟨_, rfl, rfl⟩, ⟨by decide +kernel, by decide +kernel, by decide +kernel⟩, by decide⟩
set_option maxRecDepth 100000 in
theorem FX6_isMachine : SF yX6_isMachine cX6_isMachine 1 (some .boolean) 1 := ⟨⟨mg 339 (by decide +kernel) rfl, inRX6, mg 340 rfl rfl⟩, ⟨by decide +kernel, by decide +kernel, by decide +kernel⟩, by decide⟩
set_option maxRecDepth 100000 in
theorem FX6_job : MF yX6_job cX6_job 3 (some .int) 6 2 := ⟨⟨mg 301 (by decide +kernel) rfl, mg 302 (by decide +kernel) rfl, inRX6, mg 303 rfl rfl⟩, ⟨_, rfl, rfl⟩, ⟨by decide +kernel, by decide +kernel, by decide +kernel⟩, by decide⟩
set_option maxRecDepth 100000 in
theorem FX6_knowPlan : MF yX6_knowPlan cX6_knowPlan 1 (some .boolean) 6 0 := ⟨⟨mg 363 (by decide +kernel) rfl, mg 2 (by decide +kernel) rfl, inRX6, mg 364 rfl rfl⟩, ⟨_, rfl, rfl⟩, ⟨by decide +kernel, by decide +kernel, by decide +kernel⟩, by decide⟩
set_option maxRecDepth 100000 in
theorem FX6_lateness : MF yX6_lateness cX6_lateness 3 (some .int) 6 1 := ⟨⟨mg 455 (by decide +kernel) rfl, mg 10 (by decide +kernel) rfl, inRX6, mg 456 rfl rfl⟩, ⟨_, rfl, rfl⟩, ⟨by decide +kernel, by decide +kernel, by decide +kernel⟩, by decide⟩
set_option maxRecDepth 100000 in
theorem FX6_length : MF yX6_length cX6_length 1 (some .int) 6 0 := ⟨⟨mg 474 (by decide +kernel) rfl, mg 475 (by decide +kernel) rfl, inRX6, mg 476 rfl rfl⟩, ⟨_, rfl, rfl⟩, ⟨by decide +kernel, by decide +kernel, by decide +kernel⟩, by decide⟩
set_option maxRecDepth 100000 in
theorem FX6_lengthBehindNext : MF yX6_lengthBehindNext cX6_lengthBehindNext 5 (some .int) 6 1 := ⟨⟨mg 520 (by decide +kernel) rfl, mg 14 (by decide +kernel) rfl, inRX6, mg 521 rfl rfl⟩, ⟨_, rfl, rfl⟩, ⟨by decide +kernel, by decide +kernel, by decide +kernel⟩, by decide⟩
set_option maxRecDepth 100000 in
theorem FX6_loadPlan : MF yX6_loadPlan cX6_loadPlan 2 (some .int) 6 0 := ⟨⟨mg 767 (by decide +kernel) rfl, mg 768 (by decide +kernel) rfl, inRX6, mg 769 rfl rfl⟩, ⟨_, rfl, rfl⟩, ⟨by decide +kernel, by decide +kernel, by decide +kernel⟩, by decide⟩
set_option maxRecDepth 100000 in
theorem FX6_loadRoutes : MF yX6_loadRoutes cX6_loadRoutes 1 (some .int) 6 0 := ⟨⟨mg 793 (by decide +kernel) rfl, mg 794 (by decide +kernel) rfl, inRX6, mg 795 rfl rfl⟩, ⟨_, rfl, rfl⟩, ⟨by decide +kernel, by decide +kernel, by decide +kernel⟩, by decide⟩
set_option maxRecDepth 100000 in
theorem FX6_numberOfPlan : MF yX6_numberOfPlan cX6_numberOfPlan 2 (some .int) 6 1 := ⟨⟨mg 500 (by decide +kernel) rfl, mg 11 (by decide +kernel) rfl, inRX6, mg 501 rfl rfl⟩, ⟨_, rfl, rfl⟩, ⟨by decide +kernel, by decide +kernel, by decide +kernel⟩, by decide⟩
set_option maxRecDepth 100000 in
theorem FX6_ofJob : MF yX6_ofJob cX6_ofJob 3 (some .int) 6 2 := ⟨⟨mg 354 (by decide +kernel) rfl, mg 355 (by decide +kernel) rfl, inRX6, mg 356 rfl rfl⟩, ⟨_, rfl, rfl⟩, ⟨by decide +kernel, by decide +kernel, by decide +kernel⟩, by decide⟩
set_option maxRecDepth 100000 in
theorem FX6_operation : MF yX6_operation cX6_operation 4 (some .int) 6 3 := ⟨⟨mg 331 (by decide +kernel) rfl, mg 332 (by decide +kernel) rfl, inRX6, mg 333 rfl rfl⟩, ⟨_, rfl, rfl⟩, ⟨by decide +kernel, by decide +kernel, by decide +kernel⟩, by decide⟩
set_option maxRecDepth 100000 in
theorem FX6_order : MF yX6_order cX6_order 3 (some .int) 6 2 := ⟨⟨mg 469 (by decide +kernel) rfl, mg 470 (by decide +kernel) rfl, inRX6, mg 471 rfl rfl⟩, ⟨_, rfl, rfl⟩, ⟨by decide +kernel, by decide +kernel, by decide +kernel⟩, by decide⟩
set_option maxRecDepth 100000 in
theorem FX6_path : MF yX6_path cX6_path 2 (some .int) 6 1 := ⟨⟨mg 628 (by decide +kernel) rfl, mg 629 (by decide +kernel) rfl, inRX6, mg 630 rfl rfl⟩, ⟨_, rfl, rfl⟩, ⟨by decide +kernel, by decide +kernel, by decide +kernel⟩, by decide⟩
set_option maxRecDepth 100000 in
theorem FX6_put : MF yX6_put cX6_put 5 (some .int) 6 1 := ⟨⟨mg 698 (by decide +kernel) rfl, mg 699 (by decide +kernel) rfl, inRX6, mg 700 rfl rfl⟩, ⟨_, rfl, rfl⟩, ⟨by decide +kernel, by decide +kernel, by decide +kernel⟩, by decide⟩
set_option maxRecDepth 100000 in
theorem FX6_restore : MF yX6_restore cX6_restore 2 (some .int) 6 1 := ⟨⟨mg 785 (by decide +kernel) rfl, mg 786 (by decide +kernel) rfl, inRX6, mg 787 rfl rfl⟩, ⟨_, rfl, rfl⟩, ⟨by decide +kernel, by decide +kernel, by decide +kernel⟩, by decide⟩
set_option maxRecDepth 100000 in
theorem FX6_save : MF yX6_save cX6_save 2 (some .int) 6 1 := ⟨⟨mg 780 (by decide +kernel) rfl, mg 781 (by decide +kernel) rfl, inRX6, mg 782 rfl rfl⟩, ⟨_, rfl, rfl⟩, ⟨by decide +kernel, by decide +kernel, by decide +kernel⟩, by decide⟩
set_option maxRecDepth 100000 in
theorem FX6_signsIn : SF yX6_signsIn cX6_signsIn 6 (some .int) 1 := ⟨⟨mg 702 (by decide +kernel) rfl, inRX6, mg 703 rfl rfl⟩, ⟨by decide +kernel, by decide +kernel, by decide +kernel⟩, by decide⟩
set_option maxRecDepth 100000 in
theorem FX6_stays : MF yX6_stays cX6_stays 4 (some .boolean) 6 3 := ⟨⟨mg 674 (by decide +kernel) rfl, mg 24 (by decide +kernel) rfl, inRX6, mg 675 rfl rfl⟩, ⟨_, rfl, rfl⟩, ⟨by decide +kernel, by decide +kernel, by decide +kernel⟩, by decide⟩
set_option maxRecDepth 100000 in
theorem FX6_sumOfLateness : MF yX6_sumOfLateness cX6_sumOfLateness 3 (some .int) 6 0 := ⟨⟨mg 508 (by decide +kernel) rfl, mg 12 (by decide +kernel) rfl, inRX6, mg 509 rfl rfl⟩, ⟨_, rfl, rfl⟩, ⟨by decide +kernel, by decide +kernel, by decide +kernel⟩, by decide⟩
set_option maxRecDepth 100000 in
theorem FX6_swap : MF yX6_swap cX6_swap 3 (some .int) 6 2 := ⟨⟨mg 478 (by decide +kernel) rfl, mg 479 (by decide +kernel) rfl, inRX6, mg 480 rfl rfl⟩, ⟨_, rfl, rfl⟩, ⟨by decide +kernel, by decide +kernel, by decide +kernel⟩, by decide⟩
set_option maxRecDepth 100000 in
theorem FX6_takeBest : MF yX6_takeBest cX6_takeBest 1 (some .int) 6 0 := ⟨⟨mg 611 (by decide +kernel) rfl, mg 612 (by decide +kernel) rfl, inRX6, mg 613 rfl rfl⟩, ⟨_, rfl, rfl⟩, ⟨by decide +kernel, by decide +kernel, by decide +kernel⟩, by decide⟩
set_option maxRecDepth 100000 in
theorem FX6_takeBreakdown : MF yX6_takeBreakdown cX6_takeBreakdown 8 none 6 3 := ⟨⟨mg 669 (by decide +kernel) rfl, mg 23 (by decide +kernel) rfl, inRX6, mg 670 rfl rfl⟩, ⟨_, rfl, rfl⟩, ⟨by decide +kernel, by decide +kernel, by decide +kernel⟩, by decide⟩
set_option maxRecDepth 100000 in
theorem FX6_timeAbout : MF yX6_timeAbout cX6_timeAbout 3 (some .int) 6 2 := ⟨⟨mg 530 (by decide +kernel) rfl, mg 15 (by decide +kernel) rfl, inRX6, mg 531 rfl rfl⟩, ⟨_, rfl, rfl⟩, ⟨by decide +kernel, by decide +kernel, by decide +kernel⟩, by decide⟩
set_option maxRecDepth 100000 in
theorem FX6_undo : MF yX6_undo cX6_undo 1 (some .int) 6 0 := ⟨⟨mg 682 (by decide +kernel) rfl, mg 683 (by decide +kernel) rfl, inRX6, mg 684 rfl rfl⟩, ⟨_, rfl, rfl⟩, ⟨by decide +kernel, by decide +kernel, by decide +kernel⟩, by decide⟩
set_option maxRecDepth 100000 in
theorem FX6_wipe : MF yX6_wipe cX6_wipe 2 (some .int) 6 0 := ⟨⟨mg 693 (by decide +kernel) rfl, mg 694 (by decide +kernel) rfl, inRX6, mg 695 rfl rfl⟩, ⟨_, rfl, rfl⟩, ⟨by decide +kernel, by decide +kernel, by decide +kernel⟩, by decide⟩
set_option maxRecDepth 100000 in
theorem FX6_within : SF yX6_within cX6_within 3 (some .boolean) 3 := ⟨⟨mg 305 (by decide +kernel) rfl, inRX6, mg 306 rfl rfl⟩, ⟨by decide +kernel, by decide +kernel, by decide +kernel⟩, by decide⟩
theorem KRL_11 : Cond.methodLink RL 11 yX6_init ∈ lw_g := mg 42 (by decide +kernel) rfl
theorem KRX6_9 : Cond.methodLinkNest RX6 9 yX5_init "BottleneckShop" ∈ nw := mn 50 (by decide +kernel) rfl
theorem KRX6_21 : Cond.methodLink RX6 21 yX0_init ∈ lw_g := mg 99 (by decide +kernel) rfl
theorem KRX0_17 : Cond.methodLinkNest RX0 17 yX5_init "BottleneckShop" ∈ nw := mn 105 (by decide +kernel) rfl
theorem KRX6_36 : Cond.methodLinkNest RX6 36 yX2_init "BottleneckShop" ∈ nw := mn 119 (by decide +kernel) rfl
theorem KRX6_43 : Cond.methodLinkNest RX6 43 yX1_init "BottleneckShop" ∈ nw := mn 141 (by decide +kernel) rfl
theorem KRX6_50 : Cond.methodLinkNest RX6 50 yX3_init "BottleneckShop" ∈ nw := mn 199 (by decide +kernel) rfl
theorem KRX6_60 : Cond.methodLinkNest RX6 60 yX4_init "BottleneckShop" ∈ nw := mn 214 (by decide +kernel) rfl
theorem KRX4_11 : Cond.methodLinkNest RX4 11 yX1_init "BottleneckShop" ∈ nw := mn 219 (by decide +kernel) rfl
theorem KRL_26 : Cond.methodLink RL 26 yX6_job ∈ lw_g := mg 300 (by decide +kernel) rfl
theorem KRX6_68 : Cond.methodLink RX6 68 yX6_within ∈ lw_g := mg 304 (by decide +kernel) rfl
theorem KRX6_76 : Cond.methodLink RX6 76 yX6_beginChange ∈ lw_g := mg 307 (by decide +kernel) rfl
theorem KRX6_256 : Cond.methodLink RX6 256 yX0_record ∈ lw_g := mg 311 (by decide +kernel) rfl
theorem KRX0_22 : Cond.methodLink RX0 22 yX5_become ∈ lw_g := mg 315 (by decide +kernel) rfl
theorem KRX5_37 : Cond.methodLinkNest RX5 37 yX6_copyRow "BottleneckShop" ∈ nw := mn 319 (by decide +kernel) rfl
theorem KRX6_253 : Cond.methodLink RX6 253 yX6_forgetAnswers ∈ lw_g := mg 322 (by decide +kernel) rfl
theorem KRX6_79 : Cond.methodLink RX6 79 yX5_addJob ∈ lw_g := mg 326 (by decide +kernel) rfl
theorem KRL_29 : Cond.methodLink RL 29 yX6_operation ∈ lw_g := mg 330 (by decide +kernel) rfl
theorem KRX6_83 : Cond.methodLink RX6 83 yX5_hasJob ∈ lw_g := mg 334 (by decide +kernel) rfl
theorem KRX6_87 : Cond.methodLink RX6 87 yX6_isMachine ∈ lw_g := mg 338 (by decide +kernel) rfl
theorem KRX6_90 : Cond.methodLink RX6 90 yX5_operationOf ∈ lw_g := mg 341 (by decide +kernel) rfl
theorem KRX6_93 : Cond.methodLink RX6 93 yX5_addOperation ∈ lw_g := mg 345 (by decide +kernel) rfl
theorem KRX5_41 : Cond.methodLink RX5 41 yX5_append ∈ lw_g := mg 349 (by decide +kernel) rfl
theorem KRL_33 : Cond.methodLink RL 33 yX6_ofJob ∈ lw_g := mg 353 (by decide +kernel) rfl
theorem KRX6_173 : Cond.methodLink RX6 173 yX5_work ∈ lw_g := mg 357 (by decide +kernel) rfl
theorem KRX6_111 : Cond.methodLink RX6 111 yX6_knowPlan ∈ lw_g := mg 361 (by decide +kernel) rfl
theorem KRX6_118 : Cond.methodLink RX6 118 yX1_load ∈ lw_g := mg 365 (by decide +kernel) rfl
theorem KRX1_55 : Cond.methodLinkNest RX1 55 yX6_copyRow "BottleneckShop" ∈ nw := mn 369 (by decide +kernel) rfl
theorem KRX6_266 : Cond.methodLink RX6 266 yX1_followOrders ∈ lw_g := mg 370 (by decide +kernel) rfl
theorem KRX1_67 : Cond.methodLink RX1 67 yX1_followOrder ∈ lw_g := mg 374 (by decide +kernel) rfl
theorem KRX1_71 : Cond.methodLink RX1 71 yX1_jobsOn ∈ lw_g := mg 378 (by decide +kernel) rfl
theorem KRX1_78 : Cond.methodLink RX1 78 yX1_letFirst ∈ lw_g := mg 382 (by decide +kernel) rfl
theorem KRX6_198 : Cond.methodLink RX6 198 yX1_measure ∈ lw_g := mg 386 (by decide +kernel) rfl
theorem KRX1_95 : Cond.methodLink RX1 95 yX1_sortAlong ∈ lw_g := mg 390 (by decide +kernel) rfl
theorem KRX1_102 : Cond.methodLink RX1 102 yX1_headOf ∈ lw_g := mg 394 (by decide +kernel) rfl
theorem KRX1_99 : Cond.methodLink RX1 99 yX1_tailOf ∈ lw_g := mg 398 (by decide +kernel) rfl
theorem KRX1_86 : Cond.methodLink RX1 86 yX1_endOf ∈ lw_g := mg 402 (by decide +kernel) rfl
theorem KRX6_272 : Cond.methodLink RX6 272 yX3_trace ∈ lw_g := mg 406 (by decide +kernel) rfl
theorem KRX3_19 : Cond.methodLink RX3 19 yX3_first ∈ lw_g := mg 410 (by decide +kernel) rfl
theorem KRX3_27 : Cond.methodLink RX3 27 yX5_hasOperation ∈ lw_g := mg 414 (by decide +kernel) rfl
theorem KRX3_33 : Cond.methodLink RX3 33 yX1_slackOf ∈ lw_g := mg 418 (by decide +kernel) rfl
theorem KRX3_23 : Cond.methodLink RX3 23 yX3_next ∈ lw_g := mg 422 (by decide +kernel) rfl
theorem KRX3_45 : Cond.methodLink RX3 45 yX1_endOf ∈ lw_g := mg 426 (by decide +kernel) rfl
theorem KRX3_51 : Cond.methodLink RX3 51 yX3_goesOn ∈ lw_g := mg 427 (by decide +kernel) rfl
theorem KRX3_55 : Cond.methodLink RX3 55 yX5_nextOnMachine ∈ lw_g := mg 431 (by decide +kernel) rfl
theorem KRX5_53 : Cond.methodLink RX5 53 yX5_placeOf ∈ lw_g := mg 435 (by decide +kernel) rfl
theorem KRX5_57 : Cond.methodLink RX5 57 yX5_operationAt ∈ lw_g := mg 439 (by decide +kernel) rfl
theorem KRX5_45 : Cond.methodLink RX5 45 yX5_hasPlace ∈ lw_g := mg 443 (by decide +kernel) rfl
theorem KRX5_49 : Cond.methodLink RX5 49 yX5_operationOf ∈ lw_g := mg 447 (by decide +kernel) rfl
theorem KRX6_176 : Cond.methodLink RX6 176 yX6_endOfJob ∈ lw_g := mg 448 (by decide +kernel) rfl
theorem KRX6_298 : Cond.methodLink RX6 298 yX1_endOf ∈ lw_g := mg 452 (by decide +kernel) rfl
theorem KRX6_179 : Cond.methodLink RX6 179 yX6_lateness ∈ lw_g := mg 453 (by decide +kernel) rfl
theorem KRL_12 : Cond.methodLink RL 12 yL_cell ∈ lw_g := mg 457 (by decide +kernel) rfl
theorem KRL_22 : Cond.methodLink RL 22 yL_up ∈ lw_g := mg 461 (by decide +kernel) rfl
theorem KRL_36 : Cond.methodLink RL 36 yL_act ∈ lw_g := mg 465 (by decide +kernel) rfl
theorem KRL_59 : Cond.methodLink RL 59 yX6_order ∈ lw_g := mg 468 (by decide +kernel) rfl
theorem KRX6_160 : Cond.methodLink RX6 160 yX5_hasPlace ∈ lw_g := mg 472 (by decide +kernel) rfl
theorem KRL_62 : Cond.methodLink RL 62 yX6_length ∈ lw_g := mg 473 (by decide +kernel) rfl
theorem KRL_66 : Cond.methodLink RL 66 yX6_swap ∈ lw_g := mg 477 (by decide +kernel) rfl
theorem KRX6_107 : Cond.methodLink RX6 107 yX5_exchange ∈ lw_g := mg 481 (by decide +kernel) rfl
theorem KRL_69 : Cond.methodLink RL 69 yX6_count ∈ lw_g := mg 485 (by decide +kernel) rfl
theorem KRX6_182 : Cond.methodLink RX6 182 yX5_allSteps ∈ lw_g := mg 489 (by decide +kernel) rfl
theorem KRX6_186 : Cond.methodLink RX6 186 yX5_allWork ∈ lw_g := mg 493 (by decide +kernel) rfl
theorem KRX5_60 : Cond.methodLink RX5 60 yX5_work ∈ lw_g := mg 497 (by decide +kernel) rfl
theorem KRX6_195 : Cond.methodLink RX6 195 yX6_numberOfPlan ∈ lw_g := mg 498 (by decide +kernel) rfl
theorem KRX6_311 : Cond.methodLink RX6 311 yX3_blocks ∈ lw_g := mg 502 (by decide +kernel) rfl
theorem KRX6_314 : Cond.methodLink RX6 314 yX6_sumOfLateness ∈ lw_g := mg 506 (by decide +kernel) rfl
theorem KRX6_317 : Cond.methodLink RX6 317 yX6_greatestLateness ∈ lw_g := mg 510 (by decide +kernel) rfl
theorem KRL_73 : Cond.methodLink RL 73 yX6_improve ∈ lw_g := mg 514 (by decide +kernel) rfl
theorem KRX6_150 : Cond.methodLink RX6 150 yX6_lengthBehindNext ∈ lw_g := mg 518 (by decide +kernel) rfl
theorem KRX6_154 : Cond.methodLink RX6 154 yX5_placeOf ∈ lw_g := mg 522 (by decide +kernel) rfl
theorem KRL_76 : Cond.methodLink RL 76 yX6_about ∈ lw_g := mg 523 (by decide +kernel) rfl
theorem KRX6_97 : Cond.methodLink RX6 97 yX5_hasOperation ∈ lw_g := mg 527 (by decide +kernel) rfl
theorem KRX6_157 : Cond.methodLink RX6 157 yX6_timeAbout ∈ lw_g := mg 528 (by decide +kernel) rfl
theorem KRX6_307 : Cond.methodLink RX6 307 yX1_slackOf ∈ lw_g := mg 532 (by decide +kernel) rfl
theorem KRX6_310 : Cond.methodLink RX6 310 yX3_placeOf ∈ lw_g := mg 533 (by decide +kernel) rfl
theorem KRL_79 : Cond.methodLink RL 79 yX6_change ∈ lw_g := mg 537 (by decide +kernel) rfl
theorem KRL_82 : Cond.methodLink RL 82 yX6_best ∈ lw_g := mg 541 (by decide +kernel) rfl
theorem KRX6_122 : Cond.methodLink RX6 122 yX4_find ∈ lw_g := mg 545 (by decide +kernel) rfl
theorem KRX4_43 : Cond.methodLinkNest RX4 43 yX6_copyRow "BottleneckShop" ∈ nw := mn 549 (by decide +kernel) rfl
theorem KRX4_47 : Cond.methodLink RX4 47 yX1_measure ∈ lw_g := mg 550 (by decide +kernel) rfl
theorem KRX4_51 : Cond.methodLink RX4 51 yX1_greatestBound ∈ lw_g := mg 551 (by decide +kernel) rfl
theorem KRX1_123 : Cond.methodLink RX1 123 yX1_boundOf ∈ lw_g := mg 555 (by decide +kernel) rfl
theorem KRX1_126 : Cond.methodLink RX1 126 yX1_nextHead ∈ lw_g := mg 559 (by decide +kernel) rfl
theorem KRX1_129 : Cond.methodLink RX1 129 yX1_mostUrgent ∈ lw_g := mg 563 (by decide +kernel) rfl
theorem KRX4_59 : Cond.methodLink RX4 59 yX4_complete ∈ lw_g := mg 567 (by decide +kernel) rfl
theorem KRX4_63 : Cond.methodLink RX4 63 yX1_keeps ∈ lw_g := mg 570 (by decide +kernel) rfl
theorem KRX1_105 : Cond.methodLink RX1 105 yX1_measure ∈ lw_g := mg 574 (by decide +kernel) rfl
theorem KRX1_109 : Cond.methodLink RX1 109 yX1_forceOn ∈ lw_g := mg 575 (by decide +kernel) rfl
theorem KRX1_113 : Cond.methodLink RX1 113 yX1_undecided ∈ lw_g := mg 579 (by decide +kernel) rfl
theorem KRX1_82 : Cond.methodLink RX1 82 yX1_goesAhead ∈ lw_g := mg 583 (by decide +kernel) rfl
theorem KRX1_116 : Cond.methodLink RX1 116 yX1_wayThrough ∈ lw_g := mg 587 (by decide +kernel) rfl
theorem KRX1_119 : Cond.methodLink RX1 119 yX1_decide ∈ lw_g := mg 591 (by decide +kernel) rfl
theorem KRX4_84 : Cond.methodLink RX4 84 yX1_longestPair ∈ lw_g := mg 595 (by decide +kernel) rfl
theorem KRX4_87 : Cond.methodLink RX4 87 yX1_decide ∈ lw_g := mg 599 (by decide +kernel) rfl
theorem KRX4_67 : Cond.methodLink RX4 67 yX4_settle ∈ lw_g := mg 600 (by decide +kernel) rfl
theorem KRX4_71 : Cond.methodLink RX4 71 yX4_jobsLeft ∈ lw_g := mg 604 (by decide +kernel) rfl
theorem KRX4_81 : Cond.methodLink RX4 81 yX1_jobsOn ∈ lw_g := mg 608 (by decide +kernel) rfl
theorem KRX4_77 : Cond.methodLink RX4 77 yX1_letFirst ∈ lw_g := mg 609 (by decide +kernel) rfl
theorem KRL_84 : Cond.methodLink RL 84 yX6_takeBest ∈ lw_g := mg 610 (by decide +kernel) rfl
theorem KRX6_131 : Cond.methodLink RX6 131 yX6_copyRow ∈ lw_g := mg 614 (by decide +kernel) rfl
theorem KRL_40 : Cond.methodLink RL 40 yL_plan ∈ lw_g := mg 615 (by decide +kernel) rfl
theorem KRL_87 : Cond.methodLink RL 87 yL_on ∈ lw_g := mg 618 (by decide +kernel) rfl
theorem KRL_91 : Cond.methodLink RL 91 yL_end ∈ lw_g := mg 621 (by decide +kernel) rfl
theorem KRL_95 : Cond.methodLink RL 95 yL_rest ∈ lw_g := mg 624 (by decide +kernel) rfl
theorem KRL_98 : Cond.methodLink RL 98 yX6_path ∈ lw_g := mg 627 (by decide +kernel) rfl
theorem KRL_101 : Cond.methodLink RL 101 yL_critical ∈ lw_g := mg 631 (by decide +kernel) rfl
theorem KRL_44 : Cond.methodLink RL 44 yL_best ∈ lw_g := mg 634 (by decide +kernel) rfl
theorem KRL_104 : Cond.methodLink RL 104 yX6_bound ∈ lw_g := mg 637 (by decide +kernel) rfl
theorem KRX6_201 : Cond.methodLink RX6 201 yX1_greatestBound ∈ lw_g := mg 641 (by decide +kernel) rfl
theorem KRX6_204 : Cond.methodLink RX6 204 yX1_boundOf ∈ lw_g := mg 642 (by decide +kernel) rfl
theorem KRL_47 : Cond.methodLink RL 47 yL_forces ∈ lw_g := mg 643 (by decide +kernel) rfl
theorem KRL_107 : Cond.methodLink RL 107 yX6_forced ∈ lw_g := mg 646 (by decide +kernel) rfl
theorem KRX6_207 : Cond.methodLink RX6 207 yX1_keeps ∈ lw_g := mg 650 (by decide +kernel) rfl
theorem KRX6_210 : Cond.methodLink RX6 210 yX1_decidedPairs ∈ lw_g := mg 651 (by decide +kernel) rfl
theorem KRL_110 : Cond.methodLink RL 110 yX6_isForced ∈ lw_g := mg 655 (by decide +kernel) rfl
theorem KRX6_213 : Cond.methodLink RX6 213 yX1_goesAhead ∈ lw_g := mg 659 (by decide +kernel) rfl
theorem KRL_50 : Cond.methodLink RL 50 yL_breaks ∈ lw_g := mg 660 (by decide +kernel) rfl
theorem KRL_113 : Cond.methodLink RL 113 yX6_breakdown ∈ lw_g := mg 663 (by decide +kernel) rfl
theorem KRX6_216 : Cond.methodLink RX6 216 yX6_takeBreakdown ∈ lw_g := mg 667 (by decide +kernel) rfl
theorem KRX6_285 : Cond.methodLink RX6 285 yX5_operationAt ∈ lw_g := mg 671 (by decide +kernel) rfl
theorem KRX6_288 : Cond.methodLink RX6 288 yX6_stays ∈ lw_g := mg 672 (by decide +kernel) rfl
theorem KRX6_291 : Cond.methodLink RX6 291 yX1_holdBack ∈ lw_g := mg 676 (by decide +kernel) rfl
theorem KRX6_294 : Cond.methodLink RX6 294 yX1_followOrder ∈ lw_g := mg 680 (by decide +kernel) rfl
theorem KRL_117 : Cond.methodLink RL 117 yX6_undo ∈ lw_g := mg 681 (by decide +kernel) rfl
theorem KRX6_250 : Cond.methodLink RX6 250 yX0_takeBack ∈ lw_g := mg 685 (by decide +kernel) rfl
theorem KRL_53 : Cond.methodLink RL 53 yL_told ∈ lw_g := mg 689 (by decide +kernel) rfl
theorem KRL_120 : Cond.methodLink RL 120 yX6_wipe ∈ lw_g := mg 692 (by decide +kernel) rfl
theorem KRL_125 : Cond.methodLink RL 125 yX6_put ∈ lw_g := mg 697 (by decide +kernel) rfl
theorem KRX6_220 : Cond.methodLink RX6 220 yX6_signsIn ∈ lw_g := mg 701 (by decide +kernel) rfl
theorem KRX6_226 : Cond.methodLink RX6 226 yX2_append ∈ lw_g := mg 705 (by decide +kernel) rfl
theorem KRL_131 : Cond.methodLink RL 131 yX6_fault ∈ lw_g := mg 710 (by decide +kernel) rfl
theorem KRX6_230 : Cond.methodLink RX6 230 yX2_readRoutes ∈ lw_g := mg 714 (by decide +kernel) rfl
theorem KRX2_25 : Cond.methodLink RX2 25 yX5_clear ∈ lw_g := mg 718 (by decide +kernel) rfl
theorem KRX2_30 : Cond.methodLink RX2 30 yX2_readJob ∈ lw_g := mg 722 (by decide +kernel) rfl
theorem KRX2_34 : Cond.methodLink RX2 34 yX2_take ∈ lw_g := mg 726 (by decide +kernel) rfl
theorem KRX2_38 : Cond.methodLink RX2 38 yX2_number ∈ lw_g := mg 730 (by decide +kernel) rfl
theorem KRX2_49 : Cond.methodLink RX2 49 yX2_digit ∈ lw_g := mg 734 (by decide +kernel) rfl
theorem KRX2_42 : Cond.methodLink RX2 42 yX5_addJob ∈ lw_g := mg 738 (by decide +kernel) rfl
theorem KRX2_45 : Cond.methodLink RX2 45 yX2_readOperation ∈ lw_g := mg 739 (by decide +kernel) rfl
theorem KRX2_53 : Cond.methodLink RX2 53 yX5_operationOf ∈ lw_g := mg 743 (by decide +kernel) rfl
theorem KRX2_56 : Cond.methodLink RX2 56 yX5_addOperation ∈ lw_g := mg 744 (by decide +kernel) rfl
theorem KRX6_234 : Cond.methodLink RX6 234 yX2_readPlan ∈ lw_g := mg 745 (by decide +kernel) rfl
theorem KRX2_60 : Cond.methodLink RX2 60 yX2_readOrder ∈ lw_g := mg 749 (by decide +kernel) rfl
theorem KRX2_63 : Cond.methodLink RX2 63 yX2_names ∈ lw_g := mg 753 (by decide +kernel) rfl
theorem KRX2_67 : Cond.methodLink RX2 67 yX5_jobsInOrder ∈ lw_g := mg 757 (by decide +kernel) rfl
theorem KRX2_71 : Cond.methodLink RX2 71 yX2_anotherJobFor ∈ lw_g := mg 761 (by decide +kernel) rfl
theorem KRX2_74 : Cond.methodLink RX2 74 yX5_append ∈ lw_g := mg 765 (by decide +kernel) rfl
theorem KRL_134 : Cond.methodLink RL 134 yX6_loadPlan ∈ lw_g := mg 766 (by decide +kernel) rfl
theorem KRX6_240 : Cond.methodLink RX6 240 yX2_names ∈ lw_g := mg 770 (by decide +kernel) rfl
theorem KRX6_243 : Cond.methodLink RX6 243 yX5_jobsInOrder ∈ lw_g := mg 771 (by decide +kernel) rfl
theorem KRX6_246 : Cond.methodLink RX6 246 yX5_takeOrder ∈ lw_g := mg 772 (by decide +kernel) rfl
theorem KRL_56 : Cond.methodLink RL 56 yL_back ∈ lw_g := mg 776 (by decide +kernel) rfl
theorem KRL_137 : Cond.methodLink RL 137 yX6_save ∈ lw_g := mg 779 (by decide +kernel) rfl
theorem KRX6_237 : Cond.methodLink RX6 237 yX5_become ∈ lw_g := mg 783 (by decide +kernel) rfl
theorem KRL_140 : Cond.methodLink RL 140 yX6_restore ∈ lw_g := mg 784 (by decide +kernel) rfl
theorem KRL_18 : Cond.methodLink RL 18 yL_refused ∈ lw_g := mg 788 (by decide +kernel) rfl
theorem KRL_144 : Cond.methodLink RL 144 yX6_loadRoutes ∈ lw_g := mg 792 (by decide +kernel) rfl
def frX0 : Nat → Option (Nat × Nat × Int)
  | 11 => some (0, 0, 0)
  | 18 => some (0, 2, 2)
  | 26 => some (0, 1, 1)
  | _ => none
theorem frX0_ok : FldOK RX0 frX0 := by
  intro k t j z h
  unfold frX0 at h
  split at h
  · cases h; exact ⟨_, rfl, rfl, by decide, mg 106 (by decide +kernel) rfl⟩
  · cases h; exact ⟨_, rfl, rfl, by decide, mg 109 (by decide +kernel) rfl⟩
  · cases h; exact ⟨_, rfl, rfl, by decide, mg 107 (by decide +kernel) rfl⟩
  · cases h
def frX1 : Nat → Option (Nat × Nat × Int)
  | 9 => some (1, 0, 0)
  | 15 => some (1, 1, 1)
  | 18 => some (1, 2, 2)
  | 21 => some (1, 3, 3)
  | 24 => some (1, 4, 4)
  | 27 => some (1, 5, 5)
  | 30 => some (1, 6, 6)
  | 33 => some (1, 7, 7)
  | 36 => some (1, 10, 10)
  | 39 => some (1, 12, 12)
  | 42 => some (1, 13, 13)
  | 45 => some (1, 14, 14)
  | 48 => some (1, 9, 9)
  | 52 => some (5, 3, 3)
  | 59 => some (5, 4, 4)
  | 60 => some (5, 5, 5)
  | 61 => some (5, 1, 1)
  | 64 => some (5, 6, 6)
  | 75 => some (5, 7, 7)
  | 89 => some (1, 8, 8)
  | 92 => some (1, 11, 11)
  | _ => none
theorem frX1_ok : FldOK RX1 frX1 := by
  intro k t j z h
  unfold frX1 at h
  split at h
  · cases h; exact ⟨_, rfl, rfl, by decide, mg 145 (by decide +kernel) rfl⟩
  · cases h; exact ⟨_, rfl, rfl, by decide, mg 146 (by decide +kernel) rfl⟩
  · cases h; exact ⟨_, rfl, rfl, by decide, mg 147 (by decide +kernel) rfl⟩
  · cases h; exact ⟨_, rfl, rfl, by decide, mg 148 (by decide +kernel) rfl⟩
  · cases h; exact ⟨_, rfl, rfl, by decide, mg 149 (by decide +kernel) rfl⟩
  · cases h; exact ⟨_, rfl, rfl, by decide, mg 151 (by decide +kernel) rfl⟩
  · cases h; exact ⟨_, rfl, rfl, by decide, mg 153 (by decide +kernel) rfl⟩
  · cases h; exact ⟨_, rfl, rfl, by decide, mg 156 (by decide +kernel) rfl⟩
  · cases h; exact ⟨_, rfl, rfl, by decide, mg 161 (by decide +kernel) rfl⟩
  · cases h; exact ⟨_, rfl, rfl, by decide, mg 163 (by decide +kernel) rfl⟩
  · cases h; exact ⟨_, rfl, rfl, by decide, mg 164 (by decide +kernel) rfl⟩
  · cases h; exact ⟨_, rfl, rfl, by decide, mg 165 (by decide +kernel) rfl⟩
  · cases h; exact ⟨_, rfl, rfl, by decide, mg 160 (by decide +kernel) rfl⟩
  · cases h; exact ⟨_, rfl, rfl, by decide, mg 63 (by decide +kernel) rfl⟩
  · cases h; exact ⟨_, rfl, rfl, by decide, mg 67 (by decide +kernel) rfl⟩
  · cases h; exact ⟨_, rfl, rfl, by decide, mg 71 (by decide +kernel) rfl⟩
  · cases h; exact ⟨_, rfl, rfl, by decide, mg 57 (by decide +kernel) rfl⟩
  · cases h; exact ⟨_, rfl, rfl, by decide, mg 74 (by decide +kernel) rfl⟩
  · cases h; exact ⟨_, rfl, rfl, by decide, mg 77 (by decide +kernel) rfl⟩
  · cases h; exact ⟨_, rfl, rfl, by decide, mg 159 (by decide +kernel) rfl⟩
  · cases h; exact ⟨_, rfl, rfl, by decide, mg 162 (by decide +kernel) rfl⟩
  · cases h
def frX2 : Nat → Option (Nat × Nat × Int)
  | 9 => some (2, 0, 0)
  | 15 => some (2, 1, 1)
  | 19 => some (2, 3, 3)
  | 22 => some (2, 2, 2)
  | _ => none
theorem frX2_ok : FldOK RX2 frX2 := by
  intro k t j z h
  unfold frX2 at h
  split at h
  · cases h; exact ⟨_, rfl, rfl, by decide, mg 123 (by decide +kernel) rfl⟩
  · cases h; exact ⟨_, rfl, rfl, by decide, mg 124 (by decide +kernel) rfl⟩
  · cases h; exact ⟨_, rfl, rfl, by decide, mg 127 (by decide +kernel) rfl⟩
  · cases h; exact ⟨_, rfl, rfl, by decide, mg 126 (by decide +kernel) rfl⟩
  · cases h
def frX3 : Nat → Option (Nat × Nat × Int)
  | 9 => some (3, 0, 0)
  | 15 => some (3, 1, 1)
  | 39 => some (1, 6, 6)
  | 42 => some (5, 1, 1)
  | 48 => some (5, 3, 3)
  | 58 => some (5, 4, 4)
  | _ => none
theorem frX3_ok : FldOK RX3 frX3 := by
  intro k t j z h
  unfold frX3 at h
  split at h
  · cases h; exact ⟨_, rfl, rfl, by decide, mg 203 (by decide +kernel) rfl⟩
  · cases h; exact ⟨_, rfl, rfl, by decide, mg 205 (by decide +kernel) rfl⟩
  · cases h; exact ⟨_, rfl, rfl, by decide, mg 154 (by decide +kernel) rfl⟩
  · cases h; exact ⟨_, rfl, rfl, by decide, mg 58 (by decide +kernel) rfl⟩
  · cases h; exact ⟨_, rfl, rfl, by decide, mg 64 (by decide +kernel) rfl⟩
  · cases h; exact ⟨_, rfl, rfl, by decide, mg 68 (by decide +kernel) rfl⟩
  · cases h
def frX4 : Nat → Option (Nat × Nat × Int)
  | 12 => some (4, 0, 0)
  | 18 => some (4, 3, 3)
  | 22 => some (4, 4, 4)
  | 25 => some (4, 5, 5)
  | 28 => some (4, 6, 6)
  | 33 => some (4, 7, 7)
  | 36 => some (4, 1, 1)
  | 40 => some (1, 5, 5)
  | 55 => some (4, 2, 2)
  | 74 => some (1, 4, 4)
  | _ => none
theorem frX4_ok : FldOK RX4 frX4 := by
  intro k t j z h
  unfold frX4 at h
  split at h
  · cases h; exact ⟨_, rfl, rfl, by decide, mg 222 (by decide +kernel) rfl⟩
  · cases h; exact ⟨_, rfl, rfl, by decide, mg 228 (by decide +kernel) rfl⟩
  · cases h; exact ⟨_, rfl, rfl, by decide, mg 230 (by decide +kernel) rfl⟩
  · cases h; exact ⟨_, rfl, rfl, by decide, mg 231 (by decide +kernel) rfl⟩
  · cases h; exact ⟨_, rfl, rfl, by decide, mg 232 (by decide +kernel) rfl⟩
  · cases h; exact ⟨_, rfl, rfl, by decide, mg 233 (by decide +kernel) rfl⟩
  · cases h; exact ⟨_, rfl, rfl, by decide, mg 224 (by decide +kernel) rfl⟩
  · cases h; exact ⟨_, rfl, rfl, by decide, mg 152 (by decide +kernel) rfl⟩
  · cases h; exact ⟨_, rfl, rfl, by decide, mg 226 (by decide +kernel) rfl⟩
  · cases h; exact ⟨_, rfl, rfl, by decide, mg 150 (by decide +kernel) rfl⟩
  · cases h
def frX5 : Nat → Option (Nat × Nat × Int)
  | 9 => some (5, 1, 1)
  | 15 => some (5, 2, 2)
  | 18 => some (5, 3, 3)
  | 21 => some (5, 4, 4)
  | 24 => some (5, 5, 5)
  | 27 => some (5, 6, 6)
  | 30 => some (5, 7, 7)
  | 33 => some (5, 0, 0)
  | _ => none
theorem frX5_ok : FldOK RX5 frX5 := by
  intro k t j z h
  unfold frX5 at h
  split at h
  · cases h; exact ⟨_, rfl, rfl, by decide, mg 56 (by decide +kernel) rfl⟩
  · cases h; exact ⟨_, rfl, rfl, by decide, mg 60 (by decide +kernel) rfl⟩
  · cases h; exact ⟨_, rfl, rfl, by decide, mg 62 (by decide +kernel) rfl⟩
  · cases h; exact ⟨_, rfl, rfl, by decide, mg 66 (by decide +kernel) rfl⟩
  · cases h; exact ⟨_, rfl, rfl, by decide, mg 70 (by decide +kernel) rfl⟩
  · cases h; exact ⟨_, rfl, rfl, by decide, mg 73 (by decide +kernel) rfl⟩
  · cases h; exact ⟨_, rfl, rfl, by decide, mg 76 (by decide +kernel) rfl⟩
  · cases h; exact ⟨_, rfl, rfl, by decide, mg 54 (by decide +kernel) rfl⟩
  · cases h
def frX6 : Nat → Option (Nat × Nat × Int)
  | 10 => some (6, 0, 0)
  | 16 => some (6, 1, 1)
  | 22 => some (6, 2, 2)
  | 26 => some (6, 3, 3)
  | 30 => some (6, 4, 4)
  | 37 => some (6, 5, 5)
  | 44 => some (6, 6, 6)
  | 51 => some (6, 7, 7)
  | 55 => some (6, 10, 10)
  | 61 => some (6, 11, 11)
  | 65 => some (6, 12, 12)
  | 72 => some (5, 0, 0)
  | 100 => some (5, 5, 5)
  | 104 => some (5, 6, 6)
  | 115 => some (4, 0, 0)
  | 125 => some (4, 3, 3)
  | 128 => some (5, 7, 7)
  | 135 => some (4, 2, 2)
  | 138 => some (1, 8, 8)
  | 141 => some (3, 1, 1)
  | 144 => some (3, 0, 0)
  | 147 => some (5, 4, 4)
  | 164 => some (5, 1, 1)
  | 167 => some (5, 2, 2)
  | 170 => some (5, 3, 3)
  | 189 => some (2, 1, 1)
  | 192 => some (0, 1, 1)
  | 259 => some (6, 8, 8)
  | 263 => some (4, 1, 1)
  | 269 => some (6, 9, 9)
  | 276 => some (6, 13, 13)
  | 279 => some (6, 14, 14)
  | 282 => some (6, 15, 15)
  | 301 => some (1, 6, 6)
  | 304 => some (1, 7, 7)
  | _ => none
theorem frX6_ok : FldOK RX6 frX6 := by
  intro k t j z h
  unfold frX6 at h
  split at h
  · cases h; exact ⟨_, rfl, rfl, by decide, mg 251 (by decide +kernel) rfl⟩
  · cases h; exact ⟨_, rfl, rfl, by decide, mg 252 (by decide +kernel) rfl⟩
  · cases h; exact ⟨_, rfl, rfl, by decide, mg 253 (by decide +kernel) rfl⟩
  · cases h; exact ⟨_, rfl, rfl, by decide, mg 254 (by decide +kernel) rfl⟩
  · cases h; exact ⟨_, rfl, rfl, by decide, mg 255 (by decide +kernel) rfl⟩
  · cases h; exact ⟨_, rfl, rfl, by decide, mg 256 (by decide +kernel) rfl⟩
  · cases h; exact ⟨_, rfl, rfl, by decide, mg 257 (by decide +kernel) rfl⟩
  · cases h; exact ⟨_, rfl, rfl, by decide, mg 258 (by decide +kernel) rfl⟩
  · cases h; exact ⟨_, rfl, rfl, by decide, mg 261 (by decide +kernel) rfl⟩
  · cases h; exact ⟨_, rfl, rfl, by decide, mg 262 (by decide +kernel) rfl⟩
  · cases h; exact ⟨_, rfl, rfl, by decide, mg 263 (by decide +kernel) rfl⟩
  · cases h; exact ⟨_, rfl, rfl, by decide, mg 55 (by decide +kernel) rfl⟩
  · cases h; exact ⟨_, rfl, rfl, by decide, mg 72 (by decide +kernel) rfl⟩
  · cases h; exact ⟨_, rfl, rfl, by decide, mg 75 (by decide +kernel) rfl⟩
  · cases h; exact ⟨_, rfl, rfl, by decide, mg 223 (by decide +kernel) rfl⟩
  · cases h; exact ⟨_, rfl, rfl, by decide, mg 229 (by decide +kernel) rfl⟩
  · cases h; exact ⟨_, rfl, rfl, by decide, mg 78 (by decide +kernel) rfl⟩
  · cases h; exact ⟨_, rfl, rfl, by decide, mg 227 (by decide +kernel) rfl⟩
  · cases h; exact ⟨_, rfl, rfl, by decide, mg 158 (by decide +kernel) rfl⟩
  · cases h; exact ⟨_, rfl, rfl, by decide, mg 206 (by decide +kernel) rfl⟩
  · cases h; exact ⟨_, rfl, rfl, by decide, mg 204 (by decide +kernel) rfl⟩
  · cases h; exact ⟨_, rfl, rfl, by decide, mg 69 (by decide +kernel) rfl⟩
  · cases h; exact ⟨_, rfl, rfl, by decide, mg 59 (by decide +kernel) rfl⟩
  · cases h; exact ⟨_, rfl, rfl, by decide, mg 61 (by decide +kernel) rfl⟩
  · cases h; exact ⟨_, rfl, rfl, by decide, mg 65 (by decide +kernel) rfl⟩
  · cases h; exact ⟨_, rfl, rfl, by decide, mg 125 (by decide +kernel) rfl⟩
  · cases h; exact ⟨_, rfl, rfl, by decide, mg 108 (by decide +kernel) rfl⟩
  · cases h; exact ⟨_, rfl, rfl, by decide, mg 259 (by decide +kernel) rfl⟩
  · cases h; exact ⟨_, rfl, rfl, by decide, mg 225 (by decide +kernel) rfl⟩
  · cases h; exact ⟨_, rfl, rfl, by decide, mg 260 (by decide +kernel) rfl⟩
  · cases h; exact ⟨_, rfl, rfl, by decide, mg 264 (by decide +kernel) rfl⟩
  · cases h; exact ⟨_, rfl, rfl, by decide, mg 265 (by decide +kernel) rfl⟩
  · cases h; exact ⟨_, rfl, rfl, by decide, mg 266 (by decide +kernel) rfl⟩
  · cases h; exact ⟨_, rfl, rfl, by decide, mg 155 (by decide +kernel) rfl⟩
  · cases h; exact ⟨_, rfl, rfl, by decide, mg 157 (by decide +kernel) rfl⟩
  · cases h
def kcL : Nat → Option Int
  | 7 => some (73244475)
  | 8 => some (2147483647)
  | 143 => some (1000000)
  | _ => none
def klL : Nat → Option Int64
  | 123 => some (59)
  | 129 => some (58)
  | _ => none
theorem cstL_ok : CstOK RL kcL klL := by
  refine ⟨fun k x h => ?_, fun k x h => ?_⟩
  · unfold kcL at h
    split at h
    · cases h; exact ⟨by constructor <;> decide, mg 460 (by decide +kernel) rfl⟩
    · cases h; exact ⟨by constructor <;> decide, mg 464 (by decide +kernel) rfl⟩
    · cases h; exact ⟨by constructor <;> decide, mg 791 (by decide +kernel) rfl⟩
    · cases h
  · unfold klL at h
    split at h
    · cases h; exact mg 696 (by decide +kernel) rfl
    · cases h; exact mg 709 (by decide +kernel) rfl
    · cases h
def kcX0 : Nat → Option Int
  | _ => none
def klX0 : Nat → Option Int64
  | _ => none
theorem cstX0_ok : CstOK RX0 kcX0 klX0 := by
  refine ⟨fun k x h => ?_, fun k x h => ?_⟩
  · cases h
  · cases h
def kcX1 : Nat → Option Int
  | _ => none
def klX1 : Nat → Option Int64
  | _ => none
theorem cstX1_ok : CstOK RX1 kcX1 klX1 := by
  refine ⟨fun k x h => ?_, fun k x h => ?_⟩
  · cases h
  · cases h
def kcX2 : Nat → Option Int
  | _ => none
def klX2 : Nat → Option Int64
  | _ => none
theorem cstX2_ok : CstOK RX2 kcX2 klX2 := by
  refine ⟨fun k x h => ?_, fun k x h => ?_⟩
  · cases h
  · cases h
def kcX3 : Nat → Option Int
  | _ => none
def klX3 : Nat → Option Int64
  | _ => none
theorem cstX3_ok : CstOK RX3 kcX3 klX3 := by
  refine ⟨fun k x h => ?_, fun k x h => ?_⟩
  · cases h
  · cases h
def kcX4 : Nat → Option Int
  | _ => none
def klX4 : Nat → Option Int64
  | _ => none
theorem cstX4_ok : CstOK RX4 kcX4 klX4 := by
  refine ⟨fun k x h => ?_, fun k x h => ?_⟩
  · cases h
  · cases h
def kcX5 : Nat → Option Int
  | _ => none
def klX5 : Nat → Option Int64
  | _ => none
theorem cstX5_ok : CstOK RX5 kcX5 klX5 := by
  refine ⟨fun k x h => ?_, fun k x h => ?_⟩
  · cases h
  · cases h
def kcX6 : Nat → Option Int
  | _ => none
def klX6 : Nat → Option Int64
  | 224 => some (255)
  | _ => none
theorem cstX6_ok : CstOK RX6 kcX6 klX6 := by
  refine ⟨fun k x h => ?_, fun k x h => ?_⟩
  · cases h
  · unfold klX6 at h
    split at h
    · cases h; exact mg 704 (by decide +kernel) rfl
    · cases h
def kcX7 : Nat → Option Int
  | _ => none
def klX7 : Nat → Option Int64
  | _ => none
theorem cstX7_ok : CstOK RX7 kcX7 klX7 := by
  refine ⟨fun k x h => ?_, fun k x h => ?_⟩
  · cases h
  · cases h
