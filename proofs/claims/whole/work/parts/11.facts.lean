theorem inRL : Cond.initialized RL ∈ lw_g := mg 96 (by decide +kernel) rfl
theorem inRX0 : Cond.initialized RX0 ∈ lw_g := mg 99 (by decide +kernel) rfl
theorem inRX1 : Cond.initialized RX1 ∈ lw_g := mg 101 (by decide +kernel) rfl
theorem inRX2 : Cond.initialized RX2 ∈ lw_g := mg 100 (by decide +kernel) rfl
theorem inRX3 : Cond.initialized RX3 ∈ lw_g := mg 102 (by decide +kernel) rfl
theorem inRX4 : Cond.initialized RX4 ∈ lw_g := mg 103 (by decide +kernel) rfl
theorem inRX5 : Cond.initialized RX5 ∈ lw_g := mg 98 (by decide +kernel) rfl
theorem inRX6 : Cond.initialized RX6 ∈ lw_g := mg 97 (by decide +kernel) rfl
theorem inRX7 : Cond.initialized RX7 ∈ lw_g := mg 104 (by decide +kernel) rfl
set_option maxRecDepth 100000 in
theorem FX0_record : MF yX0_record cX0_record 2 none 0 1 := ⟨⟨mg 377 (by decide +kernel) rfl, mg 378 (by decide +kernel) rfl, inRX0, mg 379 rfl rfl⟩, ⟨_, rfl, rfl⟩, ⟨by decide +kernel, by decide +kernel, by decide +kernel⟩, by decide⟩
set_option maxRecDepth 100000 in
theorem FX0_takeBack : MF yX0_takeBack cX0_takeBack 2 none 0 1 := ⟨⟨mg 803 (by decide +kernel) rfl, mg 804 (by decide +kernel) rfl, inRX0, mg 805 rfl rfl⟩, ⟨_, rfl, rfl⟩, ⟨by decide +kernel, by decide +kernel, by decide +kernel⟩, by decide⟩
set_option maxRecDepth 100000 in
theorem FX1_boundOf : MF yX1_boundOf cX1_boundOf 9 (some .int) 1 1 := ⟨⟨mg 533 (by decide +kernel) rfl, mg 534 (by decide +kernel) rfl, inRX1, mg 535 rfl rfl⟩, ⟨_, rfl, rfl⟩, ⟨by decide +kernel, by decide +kernel, by decide +kernel⟩, by decide⟩
set_option maxRecDepth 100000 in
theorem FX1_decide : MF yX1_decide cX1_decide 3 none 1 2 := ⟨⟨mg 569 (by decide +kernel) rfl, mg 570 (by decide +kernel) rfl, inRX1, mg 571 rfl rfl⟩, ⟨_, rfl, rfl⟩, ⟨by decide +kernel, by decide +kernel, by decide +kernel⟩, by decide⟩
set_option maxRecDepth 100000 in
theorem FX1_decidedPairs : MF yX1_decidedPairs cX1_decidedPairs 4 (some .int) 1 0 := ⟨⟨mg 681 (by decide +kernel) rfl, mg 682 (by decide +kernel) rfl, inRX1, mg 683 rfl rfl⟩, ⟨_, rfl, rfl⟩, ⟨by decide +kernel, by decide +kernel, by decide +kernel⟩, by decide⟩
set_option maxRecDepth 100000 in
theorem FX1_endOf : MF yX1_endOf cX1_endOf 2 (some .int) 1 1 := ⟨⟨mg 476 (by decide +kernel) rfl, mg 477 (by decide +kernel) rfl, inRX1, mg 478 rfl rfl⟩, ⟨_, rfl, rfl⟩, ⟨by decide +kernel, by decide +kernel, by decide +kernel⟩, by decide⟩
set_option maxRecDepth 100000 in
theorem FX1_followOrder : MF yX1_followOrder cX1_followOrder 7 none 1 3 := ⟨⟨mg 448 (by decide +kernel) rfl, mg 449 (by decide +kernel) rfl, inRX1, mg 450 rfl rfl⟩, ⟨_, rfl, rfl⟩, ⟨by decide +kernel, by decide +kernel, by decide +kernel⟩, by decide⟩
set_option maxRecDepth 100000 in
theorem FX1_followOrders : MF yX1_followOrders cX1_followOrders 3 none 1 1 := ⟨⟨mg 444 (by decide +kernel) rfl, mg 445 (by decide +kernel) rfl, inRX1, mg 446 rfl rfl⟩, ⟨_, rfl, rfl⟩, ⟨by decide +kernel, by decide +kernel, by decide +kernel⟩, by decide⟩
set_option maxRecDepth 100000 in
theorem FX1_forceOn : MF yX1_forceOn cX1_forceOn 10 (some .int) 1 2 := ⟨⟨mg 554 (by decide +kernel) rfl, mg 11 (by decide +kernel) rfl, inRX1, mg 555 rfl rfl⟩, ⟨_, rfl, rfl⟩, ⟨by decide +kernel, by decide +kernel, by decide +kernel⟩, by decide⟩
set_option maxRecDepth 100000 in
theorem FX1_goesAhead : MF yX1_goesAhead cX1_goesAhead 3 (some .boolean) 1 2 := ⟨⟨mg 561 (by decide +kernel) rfl, mg 562 (by decide +kernel) rfl, inRX1, mg 563 rfl rfl⟩, ⟨_, rfl, rfl⟩, ⟨by decide +kernel, by decide +kernel, by decide +kernel⟩, by decide⟩
set_option maxRecDepth 100000 in
theorem FX1_greatestBound : MF yX1_greatestBound cX1_greatestBound 4 (some .int) 1 0 := ⟨⟨mg 529 (by decide +kernel) rfl, mg 530 (by decide +kernel) rfl, inRX1, mg 531 rfl rfl⟩, ⟨_, rfl, rfl⟩, ⟨by decide +kernel, by decide +kernel, by decide +kernel⟩, by decide⟩
set_option maxRecDepth 100000 in
theorem FX1_headOf : MF yX1_headOf cX1_headOf 7 (some .int) 1 1 := ⟨⟨mg 469 (by decide +kernel) rfl, mg 4 (by decide +kernel) rfl, inRX1, mg 470 rfl rfl⟩, ⟨_, rfl, rfl⟩, ⟨by decide +kernel, by decide +kernel, by decide +kernel⟩, by decide⟩
set_option maxRecDepth 100000 in
theorem FX1_holdBack : MF yX1_holdBack cX1_holdBack 3 none 1 2 := ⟨⟨mg 707 (by decide +kernel) rfl, mg 708 (by decide +kernel) rfl, inRX1, mg 709 rfl rfl⟩, ⟨_, rfl, rfl⟩, ⟨by decide +kernel, by decide +kernel, by decide +kernel⟩, by decide⟩
set_option maxRecDepth 100000 in
theorem FX1_jobsOn : MF yX1_jobsOn cX1_jobsOn 4 (some .int) 1 1 := ⟨⟨mg 452 (by decide +kernel) rfl, mg 453 (by decide +kernel) rfl, inRX1, mg 454 rfl rfl⟩, ⟨_, rfl, rfl⟩, ⟨by decide +kernel, by decide +kernel, by decide +kernel⟩, by decide⟩
set_option maxRecDepth 100000 in
theorem FX1_keeps : MF yX1_keeps cX1_keeps 6 (some .boolean) 1 1 := ⟨⟨mg 548 (by decide +kernel) rfl, mg 549 (by decide +kernel) rfl, inRX1, mg 550 rfl rfl⟩, ⟨_, rfl, rfl⟩, ⟨by decide +kernel, by decide +kernel, by decide +kernel⟩, by decide⟩
set_option maxRecDepth 100000 in
theorem FX1_letFirst : MF yX1_letFirst cX1_letFirst 6 none 1 3 := ⟨⟨mg 456 (by decide +kernel) rfl, mg 457 (by decide +kernel) rfl, inRX1, mg 458 rfl rfl⟩, ⟨_, rfl, rfl⟩, ⟨by decide +kernel, by decide +kernel, by decide +kernel⟩, by decide⟩
set_option maxRecDepth 100000 in
theorem FX1_load : MF yX1_load cX1_load 5 none 1 1 := ⟨⟨mg 439 (by decide +kernel) rfl, mg 440 (by decide +kernel) rfl, inRX1, mg 441 rfl rfl⟩, ⟨_, rfl, rfl⟩, ⟨by decide +kernel, by decide +kernel, by decide +kernel⟩, by decide⟩
set_option maxRecDepth 100000 in
theorem FX1_longestPair : MF yX1_longestPair cX1_longestPair 9 (some .int) 1 0 := ⟨⟨mg 573 (by decide +kernel) rfl, mg 574 (by decide +kernel) rfl, inRX1, mg 575 rfl rfl⟩, ⟨_, rfl, rfl⟩, ⟨by decide +kernel, by decide +kernel, by decide +kernel⟩, by decide⟩
set_option maxRecDepth 100000 in
theorem FX1_measure : MF yX1_measure cX1_measure 5 (some .boolean) 1 0 := ⟨⟨mg 460 (by decide +kernel) rfl, mg 461 (by decide +kernel) rfl, inRX1, mg 462 rfl rfl⟩, ⟨_, rfl, rfl⟩, ⟨by decide +kernel, by decide +kernel, by decide +kernel⟩, by decide⟩
set_option maxRecDepth 100000 in
theorem FX1_mostUrgent : MF yX1_mostUrgent cX1_mostUrgent 7 (some .int) 1 2 := ⟨⟨mg 542 (by decide +kernel) rfl, mg 10 (by decide +kernel) rfl, inRX1, mg 543 rfl rfl⟩, ⟨_, rfl, rfl⟩, ⟨by decide +kernel, by decide +kernel, by decide +kernel⟩, by decide⟩
set_option maxRecDepth 100000 in
theorem FX1_nextHead : MF yX1_nextHead cX1_nextHead 6 (some .int) 1 2 := ⟨⟨mg 538 (by decide +kernel) rfl, mg 9 (by decide +kernel) rfl, inRX1, mg 539 rfl rfl⟩, ⟨_, rfl, rfl⟩, ⟨by decide +kernel, by decide +kernel, by decide +kernel⟩, by decide⟩
set_option maxRecDepth 100000 in
theorem FX1_slackOf : MF yX1_slackOf cX1_slackOf 2 (some .int) 1 1 := ⟨⟨mg 489 (by decide +kernel) rfl, mg 490 (by decide +kernel) rfl, inRX1, mg 491 rfl rfl⟩, ⟨_, rfl, rfl⟩, ⟨by decide +kernel, by decide +kernel, by decide +kernel⟩, by decide⟩
set_option maxRecDepth 100000 in
theorem FX1_sortAlong : MF yX1_sortAlong cX1_sortAlong 4 none 1 1 := ⟨⟨mg 465 (by decide +kernel) rfl, mg 3 (by decide +kernel) rfl, inRX1, mg 466 rfl rfl⟩, ⟨_, rfl, rfl⟩, ⟨by decide +kernel, by decide +kernel, by decide +kernel⟩, by decide⟩
set_option maxRecDepth 100000 in
theorem FX1_tailOf : MF yX1_tailOf cX1_tailOf 7 (some .int) 1 1 := ⟨⟨mg 473 (by decide +kernel) rfl, mg 5 (by decide +kernel) rfl, inRX1, mg 474 rfl rfl⟩, ⟨_, rfl, rfl⟩, ⟨by decide +kernel, by decide +kernel, by decide +kernel⟩, by decide⟩
set_option maxRecDepth 100000 in
theorem FX1_undecided : MF yX1_undecided cX1_undecided 3 (some .boolean) 1 2 := ⟨⟨mg 558 (by decide +kernel) rfl, mg 12 (by decide +kernel) rfl, inRX1, mg 559 rfl rfl⟩, ⟨_, rfl, rfl⟩, ⟨by decide +kernel, by decide +kernel, by decide +kernel⟩, by decide⟩
set_option maxRecDepth 100000 in
theorem FX1_wayThrough : MF yX1_wayThrough cX1_wayThrough 3 (some .int) 1 2 := ⟨⟨mg 566 (by decide +kernel) rfl, mg 13 (by decide +kernel) rfl, inRX1, mg 567 rfl rfl⟩, ⟨_, rfl, rfl⟩, ⟨by decide +kernel, by decide +kernel, by decide +kernel⟩, by decide⟩
set_option maxRecDepth 100000 in
theorem FX2_anotherJobFor : MF yX2_anotherJobFor cX2_anotherJobFor 3 (some .boolean) 2 1 := ⟨⟨mg 780 (by decide +kernel) rfl, mg 31 (by decide +kernel) rfl, inRX2, mg 781 rfl rfl⟩, ⟨_, rfl, rfl⟩, ⟨by decide +kernel, by decide +kernel, by decide +kernel⟩, by decide⟩
set_option maxRecDepth 100000 in
theorem FX2_append : MF yX2_append cX2_append 2 none 2 1 := ⟨⟨mg 720 (by decide +kernel) rfl, mg 721 (by decide +kernel) rfl, inRX2, mg 722 rfl rfl⟩, ⟨_, rfl, rfl⟩, ⟨by decide +kernel, by decide +kernel, by decide +kernel⟩, by decide⟩
set_option maxRecDepth 100000 in
theorem FX2_digit : MF yX2_digit cX2_digit 1 (some .int) 2 0 := ⟨⟨mg 753 (by decide +kernel) rfl, mg 28 (by decide +kernel) rfl, inRX2, mg 754 rfl rfl⟩, ⟨_, rfl, rfl⟩, ⟨by decide +kernel, by decide +kernel, by decide +kernel⟩, by decide⟩
set_option maxRecDepth 100000 in
theorem FX2_names : MF yX2_names cX2_names 2 (some .boolean) 2 1 := ⟨⟨mg 771 (by decide +kernel) rfl, mg 772 (by decide +kernel) rfl, inRX2, mg 773 rfl rfl⟩, ⟨_, rfl, rfl⟩, ⟨by decide +kernel, by decide +kernel, by decide +kernel⟩, by decide⟩
set_option maxRecDepth 100000 in
theorem FX2_number : MF yX2_number cX2_number 4 (some .int) 2 2 := ⟨⟨mg 749 (by decide +kernel) rfl, mg 27 (by decide +kernel) rfl, inRX2, mg 750 rfl rfl⟩, ⟨_, rfl, rfl⟩, ⟨by decide +kernel, by decide +kernel, by decide +kernel⟩, by decide⟩
set_option maxRecDepth 100000 in
theorem FX2_readJob : MF yX2_readJob cX2_readJob 6 (some .boolean) 2 1 := ⟨⟨mg 741 (by decide +kernel) rfl, mg 25 (by decide +kernel) rfl, inRX2, mg 742 rfl rfl⟩, ⟨_, rfl, rfl⟩, ⟨by decide +kernel, by decide +kernel, by decide +kernel⟩, by decide⟩
set_option maxRecDepth 100000 in
theorem FX2_readOperation : MF yX2_readOperation cX2_readOperation 5 (some .boolean) 2 2 := ⟨⟨mg 758 (by decide +kernel) rfl, mg 29 (by decide +kernel) rfl, inRX2, mg 759 rfl rfl⟩, ⟨_, rfl, rfl⟩, ⟨by decide +kernel, by decide +kernel, by decide +kernel⟩, by decide⟩
set_option maxRecDepth 100000 in
theorem FX2_readOrder : MF yX2_readOrder cX2_readOrder 4 (some .boolean) 2 1 := ⟨⟨mg 768 (by decide +kernel) rfl, mg 30 (by decide +kernel) rfl, inRX2, mg 769 rfl rfl⟩, ⟨_, rfl, rfl⟩, ⟨by decide +kernel, by decide +kernel, by decide +kernel⟩, by decide⟩
set_option maxRecDepth 100000 in
theorem FX2_readPlan : MF yX2_readPlan cX2_readPlan 4 (some .int) 2 1 := ⟨⟨mg 763 (by decide +kernel) rfl, mg 764 (by decide +kernel) rfl, inRX2, mg 765 rfl rfl⟩, ⟨_, rfl, rfl⟩, ⟨by decide +kernel, by decide +kernel, by decide +kernel⟩, by decide⟩
set_option maxRecDepth 100000 in
theorem FX2_readRoutes : MF yX2_readRoutes cX2_readRoutes 4 (some .int) 2 1 := ⟨⟨mg 732 (by decide +kernel) rfl, mg 733 (by decide +kernel) rfl, inRX2, mg 734 rfl rfl⟩, ⟨_, rfl, rfl⟩, ⟨by decide +kernel, by decide +kernel, by decide +kernel⟩, by decide⟩
set_option maxRecDepth 100000 in
theorem FX2_take : MF yX2_take cX2_take 2 (some .boolean) 2 1 := ⟨⟨mg 745 (by decide +kernel) rfl, mg 26 (by decide +kernel) rfl, inRX2, mg 746 rfl rfl⟩, ⟨_, rfl, rfl⟩, ⟨by decide +kernel, by decide +kernel, by decide +kernel⟩, by decide⟩
set_option maxRecDepth 100000 in
theorem FX3_blocks : MF yX3_blocks cX3_blocks 4 (some .int) 3 1 := ⟨⟨mg 658 (by decide +kernel) rfl, mg 659 (by decide +kernel) rfl, inRX3, mg 660 rfl rfl⟩, ⟨_, rfl, rfl⟩, ⟨by decide +kernel, by decide +kernel, by decide +kernel⟩, by decide⟩
set_option maxRecDepth 100000 in
theorem FX3_first : MF yX3_first cX3_first 4 (some .int) 3 2 := ⟨⟨mg 485 (by decide +kernel) rfl, mg 6 (by decide +kernel) rfl, inRX3, mg 486 rfl rfl⟩, ⟨_, rfl, rfl⟩, ⟨by decide +kernel, by decide +kernel, by decide +kernel⟩, by decide⟩
set_option maxRecDepth 100000 in
theorem FX3_goesOn : MF yX3_goesOn cX3_goesOn 4 (some .boolean) 3 3 := ⟨⟨mg 499 (by decide +kernel) rfl, mg 8 (by decide +kernel) rfl, inRX3, mg 500 rfl rfl⟩, ⟨_, rfl, rfl⟩, ⟨by decide +kernel, by decide +kernel, by decide +kernel⟩, by decide⟩
set_option maxRecDepth 100000 in
theorem FX3_next : MF yX3_next cX3_next 6 (some .int) 3 3 := ⟨⟨mg 494 (by decide +kernel) rfl, mg 7 (by decide +kernel) rfl, inRX3, mg 495 rfl rfl⟩, ⟨_, rfl, rfl⟩, ⟨by decide +kernel, by decide +kernel, by decide +kernel⟩, by decide⟩
set_option maxRecDepth 100000 in
theorem FX3_placeOf : MF yX3_placeOf cX3_placeOf 3 (some .int) 3 1 := ⟨⟨mg 611 (by decide +kernel) rfl, mg 612 (by decide +kernel) rfl, inRX3, mg 613 rfl rfl⟩, ⟨_, rfl, rfl⟩, ⟨by decide +kernel, by decide +kernel, by decide +kernel⟩, by decide⟩
set_option maxRecDepth 100000 in
theorem FX3_trace : MF yX3_trace cX3_trace 4 none 3 2 := ⟨⟨mg 480 (by decide +kernel) rfl, mg 481 (by decide +kernel) rfl, inRX3, mg 482 rfl rfl⟩, ⟨_, rfl, rfl⟩, ⟨by decide +kernel, by decide +kernel, by decide +kernel⟩, by decide⟩
set_option maxRecDepth 100000 in
theorem FX4_complete : SF yX4_complete cX4_complete 7 (some .boolean) 3 := ⟨⟨mg 545 (by decide +kernel) rfl, inRX4, mg 546 rfl rfl⟩, ⟨by decide +kernel, by decide +kernel, by decide +kernel⟩, by decide⟩
set_option maxRecDepth 100000 in
theorem FX4_find : MF yX4_find cX4_find 2 none 4 0 := ⟨⟨mg 523 (by decide +kernel) rfl, mg 524 (by decide +kernel) rfl, inRX4, mg 525 rfl rfl⟩, ⟨_, rfl, rfl⟩, ⟨by decide +kernel, by decide +kernel, by decide +kernel⟩, by decide⟩
set_option maxRecDepth 100000 in
theorem FX4_jobsLeft : MF yX4_jobsLeft cX4_jobsLeft 5 (some .int) 4 1 := ⟨⟨mg 583 (by decide +kernel) rfl, mg 15 (by decide +kernel) rfl, inRX4, mg 584 rfl rfl⟩, ⟨_, rfl, rfl⟩, ⟨by decide +kernel, by decide +kernel, by decide +kernel⟩, by decide⟩
set_option maxRecDepth 100000 in
theorem FX4_settle : MF yX4_settle cX4_settle 6 (some .int) 4 1 := ⟨⟨mg 579 (by decide +kernel) rfl, mg 14 (by decide +kernel) rfl, inRX4, mg 580 rfl rfl⟩, ⟨_, rfl, rfl⟩, ⟨by decide +kernel, by decide +kernel, by decide +kernel⟩, by decide⟩
set_option maxRecDepth 100000 in
theorem FX5_addJob : MF yX5_addJob cX5_addJob 3 (some .int) 5 2 := ⟨⟨mg 392 (by decide +kernel) rfl, mg 393 (by decide +kernel) rfl, inRX5, mg 394 rfl rfl⟩, ⟨_, rfl, rfl⟩, ⟨by decide +kernel, by decide +kernel, by decide +kernel⟩, by decide⟩
set_option maxRecDepth 100000 in
theorem FX5_addOperation : MF yX5_addOperation cX5_addOperation 5 (some .int) 5 3 := ⟨⟨mg 411 (by decide +kernel) rfl, mg 412 (by decide +kernel) rfl, inRX5, mg 413 rfl rfl⟩, ⟨_, rfl, rfl⟩, ⟨by decide +kernel, by decide +kernel, by decide +kernel⟩, by decide⟩
set_option maxRecDepth 100000 in
theorem FX5_allSteps : MF yX5_allSteps cX5_allSteps 3 (some .int) 5 0 := ⟨⟨mg 645 (by decide +kernel) rfl, mg 646 (by decide +kernel) rfl, inRX5, mg 647 rfl rfl⟩, ⟨_, rfl, rfl⟩, ⟨by decide +kernel, by decide +kernel, by decide +kernel⟩, by decide⟩
set_option maxRecDepth 100000 in
theorem FX5_allWork : MF yX5_allWork cX5_allWork 3 (some .int) 5 0 := ⟨⟨mg 649 (by decide +kernel) rfl, mg 650 (by decide +kernel) rfl, inRX5, mg 651 rfl rfl⟩, ⟨_, rfl, rfl⟩, ⟨by decide +kernel, by decide +kernel, by decide +kernel⟩, by decide⟩
set_option maxRecDepth 100000 in
theorem FX5_append : MF yX5_append cX5_append 3 none 5 2 := ⟨⟨mg 415 (by decide +kernel) rfl, mg 416 (by decide +kernel) rfl, inRX5, mg 417 rfl rfl⟩, ⟨_, rfl, rfl⟩, ⟨by decide +kernel, by decide +kernel, by decide +kernel⟩, by decide⟩
set_option maxRecDepth 100000 in
theorem FX5_become : MF yX5_become cX5_become 2 none 5 1 := ⟨⟨mg 381 (by decide +kernel) rfl, mg 382 (by decide +kernel) rfl, inRX5, mg 383 rfl rfl⟩, ⟨_, rfl, rfl⟩, ⟨by decide +kernel, by decide +kernel, by decide +kernel⟩, by decide⟩
set_option maxRecDepth 100000 in
theorem FX5_clear : MF yX5_clear cX5_clear 2 none 5 0 := ⟨⟨mg 736 (by decide +kernel) rfl, mg 737 (by decide +kernel) rfl, inRX5, mg 738 rfl rfl⟩, ⟨_, rfl, rfl⟩, ⟨by decide +kernel, by decide +kernel, by decide +kernel⟩, by decide⟩
set_option maxRecDepth 100000 in
theorem FX5_exchange : MF yX5_exchange cX5_exchange 5 none 5 2 := ⟨⟨mg 431 (by decide +kernel) rfl, mg 432 (by decide +kernel) rfl, inRX5, mg 433 rfl rfl⟩, ⟨_, rfl, rfl⟩, ⟨by decide +kernel, by decide +kernel, by decide +kernel⟩, by decide⟩
set_option maxRecDepth 100000 in
theorem FX5_hasJob : MF yX5_hasJob cX5_hasJob 2 (some .boolean) 5 1 := ⟨⟨mg 400 (by decide +kernel) rfl, mg 401 (by decide +kernel) rfl, inRX5, mg 402 rfl rfl⟩, ⟨_, rfl, rfl⟩, ⟨by decide +kernel, by decide +kernel, by decide +kernel⟩, by decide⟩
set_option maxRecDepth 100000 in
theorem FX5_hasOperation : MF yX5_hasOperation cX5_hasOperation 2 (some .boolean) 5 1 := ⟨⟨mg 423 (by decide +kernel) rfl, mg 424 (by decide +kernel) rfl, inRX5, mg 425 rfl rfl⟩, ⟨_, rfl, rfl⟩, ⟨by decide +kernel, by decide +kernel, by decide +kernel⟩, by decide⟩
set_option maxRecDepth 100000 in
theorem FX5_hasPlace : MF yX5_hasPlace cX5_hasPlace 3 (some .boolean) 5 2 := ⟨⟨mg 514 (by decide +kernel) rfl, mg 515 (by decide +kernel) rfl, inRX5, mg 516 rfl rfl⟩, ⟨_, rfl, rfl⟩, ⟨by decide +kernel, by decide +kernel, by decide +kernel⟩, by decide⟩
set_option maxRecDepth 100000 in
theorem FX5_jobsInOrder : MF yX5_jobsInOrder cX5_jobsInOrder 4 (some .int) 5 1 := ⟨⟨mg 775 (by decide +kernel) rfl, mg 776 (by decide +kernel) rfl, inRX5, mg 777 rfl rfl⟩, ⟨_, rfl, rfl⟩, ⟨by decide +kernel, by decide +kernel, by decide +kernel⟩, by decide⟩
set_option maxRecDepth 100000 in
theorem FX5_nextOnMachine : MF yX5_nextOnMachine cX5_nextOnMachine 3 (some .int) 5 1 := ⟨⟨mg 502 (by decide +kernel) rfl, mg 503 (by decide +kernel) rfl, inRX5, mg 504 rfl rfl⟩, ⟨_, rfl, rfl⟩, ⟨by decide +kernel, by decide +kernel, by decide +kernel⟩, by decide⟩
set_option maxRecDepth 100000 in
theorem FX5_operationAt : MF yX5_operationAt cX5_operationAt 3 (some .int) 5 2 := ⟨⟨mg 510 (by decide +kernel) rfl, mg 511 (by decide +kernel) rfl, inRX5, mg 512 rfl rfl⟩, ⟨_, rfl, rfl⟩, ⟨by decide +kernel, by decide +kernel, by decide +kernel⟩, by decide⟩
set_option maxRecDepth 100000 in
theorem FX5_operationOf : MF yX5_operationOf cX5_operationOf 4 (some .int) 5 2 := ⟨⟨mg 407 (by decide +kernel) rfl, mg 408 (by decide +kernel) rfl, inRX5, mg 409 rfl rfl⟩, ⟨_, rfl, rfl⟩, ⟨by decide +kernel, by decide +kernel, by decide +kernel⟩, by decide⟩
set_option maxRecDepth 100000 in
theorem FX5_placeOf : MF yX5_placeOf cX5_placeOf 4 (some .int) 5 1 := ⟨⟨mg 506 (by decide +kernel) rfl, mg 507 (by decide +kernel) rfl, inRX5, mg 508 rfl rfl⟩, ⟨_, rfl, rfl⟩, ⟨by decide +kernel, by decide +kernel, by decide +kernel⟩, by decide⟩
set_option maxRecDepth 100000 in
theorem FX5_takeOrder : MF yX5_takeOrder cX5_takeOrder 4 none 5 2 := ⟨⟨mg 795 (by decide +kernel) rfl, mg 796 (by decide +kernel) rfl, inRX5, mg 797 rfl rfl⟩, ⟨_, rfl, rfl⟩, ⟨by decide +kernel, by decide +kernel, by decide +kernel⟩, by decide⟩
set_option maxRecDepth 100000 in
theorem FX5_work : MF yX5_work cX5_work 4 (some .int) 5 1 := ⟨⟨mg 628 (by decide +kernel) rfl, mg 629 (by decide +kernel) rfl, inRX5, mg 630 rfl rfl⟩, ⟨_, rfl, rfl⟩, ⟨by decide +kernel, by decide +kernel, by decide +kernel⟩, by decide⟩
set_option maxRecDepth 100000 in
theorem FX6_about : MF yX6_about cX6_about 3 (some .int) 6 2 := ⟨⟨mg 602 (by decide +kernel) rfl, mg 603 (by decide +kernel) rfl, inRX6, mg 604 rfl rfl⟩, ⟨_, rfl, rfl⟩, ⟨by decide +kernel, by decide +kernel, by decide +kernel⟩, by decide⟩
set_option maxRecDepth 100000 in
theorem FX6_beginChange : MF yX6_beginChange cX6_beginChange 1 none 6 0 := ⟨⟨mg 374 (by decide +kernel) rfl, mg 0 (by decide +kernel) rfl, inRX6, mg 375 rfl rfl⟩, ⟨_, rfl, rfl⟩, ⟨by decide +kernel, by decide +kernel, by decide +kernel⟩, by decide⟩
set_option maxRecDepth 100000 in
theorem FX6_best : MF yX6_best cX6_best 3 (some .int) 6 2 := ⟨⟨mg 690 (by decide +kernel) rfl, mg 691 (by decide +kernel) rfl, inRX6, mg 692 rfl rfl⟩, ⟨_, rfl, rfl⟩, ⟨by decide +kernel, by decide +kernel, by decide +kernel⟩, by decide⟩
set_option maxRecDepth 100000 in
theorem FX6_bound : MF yX6_bound cX6_bound 2 (some .int) 6 1 := ⟨⟨mg 670 (by decide +kernel) rfl, mg 671 (by decide +kernel) rfl, inRX6, mg 672 rfl rfl⟩, ⟨_, rfl, rfl⟩, ⟨by decide +kernel, by decide +kernel, by decide +kernel⟩, by decide⟩
set_option maxRecDepth 100000 in
theorem FX6_breakdown : MF yX6_breakdown cX6_breakdown 5 (some .int) 6 4 := ⟨⟨mg 694 (by decide +kernel) rfl, mg 695 (by decide +kernel) rfl, inRX6, mg 696 rfl rfl⟩, ⟨_, rfl, rfl⟩, ⟨by decide +kernel, by decide +kernel, by decide +kernel⟩, by decide⟩
set_option maxRecDepth 100000 in
theorem FX6_change : MF yX6_change cX6_change 4 (some .int) 6 2 := ⟨⟨mg 419 (by decide +kernel) rfl, mg 420 (by decide +kernel) rfl, inRX6, mg 421 rfl rfl⟩, ⟨_, rfl, rfl⟩, ⟨by decide +kernel, by decide +kernel, by decide +kernel⟩, by decide⟩
set_option maxRecDepth 100000 in
theorem FX6_copyRow : SF yX6_copyRow cX6_copyRow 3 none 2 := ⟨⟨mg 385 (by decide +kernel) rfl, inRX6, mg 386 rfl rfl⟩, ⟨by decide +kernel, by decide +kernel, by decide +kernel⟩, by decide⟩
set_option maxRecDepth 100000 in
theorem FX6_count : MF yX6_count cX6_count 2 (some .int) 6 1 := ⟨⟨mg 641 (by decide +kernel) rfl, mg 642 (by decide +kernel) rfl, inRX6, mg 643 rfl rfl⟩, ⟨_, rfl, rfl⟩, ⟨by decide +kernel, by decide +kernel, by decide +kernel⟩, by decide⟩
set_option maxRecDepth 100000 in
theorem FX6_endOfJob : MF yX6_endOfJob cX6_endOfJob 3 (some .int) 6 1 := ⟨⟨mg 633 (by decide +kernel) rfl, mg 18 (by decide +kernel) rfl, inRX6, mg 634 rfl rfl⟩, ⟨_, rfl, rfl⟩, ⟨by decide +kernel, by decide +kernel, by decide +kernel⟩, by decide⟩
set_option maxRecDepth 100000 in
theorem FX6_fault : MF yX6_fault cX6_fault 2 (some .int) 6 1 := ⟨⟨mg 728 (by decide +kernel) rfl, mg 729 (by decide +kernel) rfl, inRX6, mg 730 rfl rfl⟩, ⟨_, rfl, rfl⟩, ⟨by decide +kernel, by decide +kernel, by decide +kernel⟩, by decide⟩
set_option maxRecDepth 100000 in
theorem FX6_forced : MF yX6_forced cX6_forced 2 (some .int) 6 1 := ⟨⟨mg 676 (by decide +kernel) rfl, mg 677 (by decide +kernel) rfl, inRX6, mg 678 rfl rfl⟩, ⟨_, rfl, rfl⟩, ⟨by decide +kernel, by decide +kernel, by decide +kernel⟩, by decide⟩
set_option maxRecDepth 100000 in
theorem FX6_forgetAnswers : MF yX6_forgetAnswers cX6_forgetAnswers 1 none 6 0 := ⟨⟨mg 389 (by decide +kernel) rfl, mg 1 (by decide +kernel) rfl, inRX6, mg 390 rfl rfl⟩, ⟨_, rfl, rfl⟩, ⟨by decide +kernel, by decide +kernel, by decide +kernel⟩, by decide⟩
set_option maxRecDepth 100000 in
theorem FX6_greatestLateness : MF yX6_greatestLateness cX6_greatestLateness 4 (some .int) 6 0 := ⟨⟨mg 667 (by decide +kernel) rfl, mg 22 (by decide +kernel) rfl, inRX6, mg 668 rfl rfl⟩, ⟨_, rfl, rfl⟩, ⟨by decide +kernel, by decide +kernel, by decide +kernel⟩, by decide⟩
set_option maxRecDepth 100000 in
theorem FX6_improve : MF yX6_improve cX6_improve 6 (some .int) 6 0 := ⟨⟨mg 589 (by decide +kernel) rfl, mg 590 (by decide +kernel) rfl, inRX6, mg 591 rfl rfl⟩, ⟨_, rfl, rfl⟩, ⟨by decide +kernel, by decide +kernel, by decide +kernel⟩, by decide⟩
set_option maxRecDepth 100000 in
theorem FX6_isForced : MF yX6_isForced cX6_isForced 4 (some .int) 6 3 := ⟨⟨mg 685 (by decide +kernel) rfl, mg 686 (by decide +kernel) rfl, inRX6, mg 687 rfl rfl⟩, ⟨_, rfl, rfl⟩, ⟨by decide +kernel, by decide +kernel, by decide +kernel⟩, by decide⟩
set_option maxRecDepth 100000 in
theorem FX6_isMachine : SF yX6_isMachine cX6_isMachine 1 (some .boolean) 1 := ⟨⟨mg 404 (by decide +kernel) rfl, inRX6, mg 405 rfl rfl⟩, ⟨by decide +kernel, by decide +kernel, by decide +kernel⟩, by decide⟩
set_option maxRecDepth 100000 in
theorem FX6_job : MF yX6_job cX6_job 3 (some .int) 6 2 := ⟨⟨mg 366 (by decide +kernel) rfl, mg 367 (by decide +kernel) rfl, inRX6, mg 368 rfl rfl⟩, ⟨_, rfl, rfl⟩, ⟨by decide +kernel, by decide +kernel, by decide +kernel⟩, by decide⟩
set_option maxRecDepth 100000 in
theorem FX6_knowPlan : MF yX6_knowPlan cX6_knowPlan 1 (some .boolean) 6 0 := ⟨⟨mg 436 (by decide +kernel) rfl, mg 2 (by decide +kernel) rfl, inRX6, mg 437 rfl rfl⟩, ⟨_, rfl, rfl⟩, ⟨by decide +kernel, by decide +kernel, by decide +kernel⟩, by decide⟩
set_option maxRecDepth 100000 in
theorem FX6_lateness : MF yX6_lateness cX6_lateness 3 (some .int) 6 1 := ⟨⟨mg 638 (by decide +kernel) rfl, mg 19 (by decide +kernel) rfl, inRX6, mg 639 rfl rfl⟩, ⟨_, rfl, rfl⟩, ⟨by decide +kernel, by decide +kernel, by decide +kernel⟩, by decide⟩
set_option maxRecDepth 100000 in
theorem FX6_length : MF yX6_length cX6_length 1 (some .int) 6 0 := ⟨⟨mg 598 (by decide +kernel) rfl, mg 599 (by decide +kernel) rfl, inRX6, mg 600 rfl rfl⟩, ⟨_, rfl, rfl⟩, ⟨by decide +kernel, by decide +kernel, by decide +kernel⟩, by decide⟩
set_option maxRecDepth 100000 in
theorem FX6_lengthBehindNext : MF yX6_lengthBehindNext cX6_lengthBehindNext 5 (some .int) 6 1 := ⟨⟨mg 594 (by decide +kernel) rfl, mg 16 (by decide +kernel) rfl, inRX6, mg 595 rfl rfl⟩, ⟨_, rfl, rfl⟩, ⟨by decide +kernel, by decide +kernel, by decide +kernel⟩, by decide⟩
set_option maxRecDepth 100000 in
theorem FX6_loadPlan : MF yX6_loadPlan cX6_loadPlan 2 (some .int) 6 0 := ⟨⟨mg 789 (by decide +kernel) rfl, mg 790 (by decide +kernel) rfl, inRX6, mg 791 rfl rfl⟩, ⟨_, rfl, rfl⟩, ⟨by decide +kernel, by decide +kernel, by decide +kernel⟩, by decide⟩
set_option maxRecDepth 100000 in
theorem FX6_loadRoutes : MF yX6_loadRoutes cX6_loadRoutes 1 (some .int) 6 0 := ⟨⟨mg 784 (by decide +kernel) rfl, mg 785 (by decide +kernel) rfl, inRX6, mg 786 rfl rfl⟩, ⟨_, rfl, rfl⟩, ⟨by decide +kernel, by decide +kernel, by decide +kernel⟩, by decide⟩
set_option maxRecDepth 100000 in
theorem FX6_numberOfPlan : MF yX6_numberOfPlan cX6_numberOfPlan 2 (some .int) 6 1 := ⟨⟨mg 655 (by decide +kernel) rfl, mg 20 (by decide +kernel) rfl, inRX6, mg 656 rfl rfl⟩, ⟨_, rfl, rfl⟩, ⟨by decide +kernel, by decide +kernel, by decide +kernel⟩, by decide⟩
set_option maxRecDepth 100000 in
theorem FX6_ofJob : MF yX6_ofJob cX6_ofJob 3 (some .int) 6 2 := ⟨⟨mg 624 (by decide +kernel) rfl, mg 625 (by decide +kernel) rfl, inRX6, mg 626 rfl rfl⟩, ⟨_, rfl, rfl⟩, ⟨by decide +kernel, by decide +kernel, by decide +kernel⟩, by decide⟩
set_option maxRecDepth 100000 in
theorem FX6_operation : MF yX6_operation cX6_operation 4 (some .int) 6 3 := ⟨⟨mg 396 (by decide +kernel) rfl, mg 397 (by decide +kernel) rfl, inRX6, mg 398 rfl rfl⟩, ⟨_, rfl, rfl⟩, ⟨by decide +kernel, by decide +kernel, by decide +kernel⟩, by decide⟩
set_option maxRecDepth 100000 in
theorem FX6_order : MF yX6_order cX6_order 3 (some .int) 6 2 := ⟨⟨mg 619 (by decide +kernel) rfl, mg 620 (by decide +kernel) rfl, inRX6, mg 621 rfl rfl⟩, ⟨_, rfl, rfl⟩, ⟨by decide +kernel, by decide +kernel, by decide +kernel⟩, by decide⟩
set_option maxRecDepth 100000 in
theorem FX6_path : MF yX6_path cX6_path 2 (some .int) 6 1 := ⟨⟨mg 615 (by decide +kernel) rfl, mg 616 (by decide +kernel) rfl, inRX6, mg 617 rfl rfl⟩, ⟨_, rfl, rfl⟩, ⟨by decide +kernel, by decide +kernel, by decide +kernel⟩, by decide⟩
set_option maxRecDepth 100000 in
theorem FX6_put : MF yX6_put cX6_put 5 (some .int) 6 1 := ⟨⟨mg 712 (by decide +kernel) rfl, mg 713 (by decide +kernel) rfl, inRX6, mg 714 rfl rfl⟩, ⟨_, rfl, rfl⟩, ⟨by decide +kernel, by decide +kernel, by decide +kernel⟩, by decide⟩
set_option maxRecDepth 100000 in
theorem FX6_restore : MF yX6_restore cX6_restore 2 (some .int) 6 1 := ⟨⟨mg 811 (by decide +kernel) rfl, mg 812 (by decide +kernel) rfl, inRX6, mg 813 rfl rfl⟩, ⟨_, rfl, rfl⟩, ⟨by decide +kernel, by decide +kernel, by decide +kernel⟩, by decide⟩
set_option maxRecDepth 100000 in
theorem FX6_save : MF yX6_save cX6_save 2 (some .int) 6 1 := ⟨⟨mg 807 (by decide +kernel) rfl, mg 808 (by decide +kernel) rfl, inRX6, mg 809 rfl rfl⟩, ⟨_, rfl, rfl⟩, ⟨by decide +kernel, by decide +kernel, by decide +kernel⟩, by decide⟩
set_option maxRecDepth 100000 in
theorem FX6_signsIn : SF yX6_signsIn cX6_signsIn 6 (some .int) 1 := ⟨⟨mg 716 (by decide +kernel) rfl, inRX6, mg 717 rfl rfl⟩, ⟨by decide +kernel, by decide +kernel, by decide +kernel⟩, by decide⟩
set_option maxRecDepth 100000 in
theorem FX6_stays : MF yX6_stays cX6_stays 4 (some .boolean) 6 3 := ⟨⟨mg 704 (by decide +kernel) rfl, mg 24 (by decide +kernel) rfl, inRX6, mg 705 rfl rfl⟩, ⟨_, rfl, rfl⟩, ⟨by decide +kernel, by decide +kernel, by decide +kernel⟩, by decide⟩
set_option maxRecDepth 100000 in
theorem FX6_sumOfLateness : MF yX6_sumOfLateness cX6_sumOfLateness 3 (some .int) 6 0 := ⟨⟨mg 663 (by decide +kernel) rfl, mg 21 (by decide +kernel) rfl, inRX6, mg 664 rfl rfl⟩, ⟨_, rfl, rfl⟩, ⟨by decide +kernel, by decide +kernel, by decide +kernel⟩, by decide⟩
set_option maxRecDepth 100000 in
theorem FX6_swap : MF yX6_swap cX6_swap 3 (some .int) 6 2 := ⟨⟨mg 427 (by decide +kernel) rfl, mg 428 (by decide +kernel) rfl, inRX6, mg 429 rfl rfl⟩, ⟨_, rfl, rfl⟩, ⟨by decide +kernel, by decide +kernel, by decide +kernel⟩, by decide⟩
set_option maxRecDepth 100000 in
theorem FX6_takeBest : MF yX6_takeBest cX6_takeBest 1 (some .int) 6 0 := ⟨⟨mg 519 (by decide +kernel) rfl, mg 520 (by decide +kernel) rfl, inRX6, mg 521 rfl rfl⟩, ⟨_, rfl, rfl⟩, ⟨by decide +kernel, by decide +kernel, by decide +kernel⟩, by decide⟩
set_option maxRecDepth 100000 in
theorem FX6_takeBreakdown : MF yX6_takeBreakdown cX6_takeBreakdown 8 none 6 3 := ⟨⟨mg 699 (by decide +kernel) rfl, mg 23 (by decide +kernel) rfl, inRX6, mg 700 rfl rfl⟩, ⟨_, rfl, rfl⟩, ⟨by decide +kernel, by decide +kernel, by decide +kernel⟩, by decide⟩
set_option maxRecDepth 100000 in
theorem FX6_timeAbout : MF yX6_timeAbout cX6_timeAbout 3 (some .int) 6 2 := ⟨⟨mg 607 (by decide +kernel) rfl, mg 17 (by decide +kernel) rfl, inRX6, mg 608 rfl rfl⟩, ⟨_, rfl, rfl⟩, ⟨by decide +kernel, by decide +kernel, by decide +kernel⟩, by decide⟩
set_option maxRecDepth 100000 in
theorem FX6_undo : MF yX6_undo cX6_undo 1 (some .int) 6 0 := ⟨⟨mg 799 (by decide +kernel) rfl, mg 800 (by decide +kernel) rfl, inRX6, mg 801 rfl rfl⟩, ⟨_, rfl, rfl⟩, ⟨by decide +kernel, by decide +kernel, by decide +kernel⟩, by decide⟩
set_option maxRecDepth 100000 in
theorem FX6_wipe : MF yX6_wipe cX6_wipe 2 (some .int) 6 0 := ⟨⟨mg 724 (by decide +kernel) rfl, mg 725 (by decide +kernel) rfl, inRX6, mg 726 rfl rfl⟩, ⟨_, rfl, rfl⟩, ⟨by decide +kernel, by decide +kernel, by decide +kernel⟩, by decide⟩
set_option maxRecDepth 100000 in
theorem FX6_within : SF yX6_within cX6_within 3 (some .boolean) 3 := ⟨⟨mg 370 (by decide +kernel) rfl, inRX6, mg 371 rfl rfl⟩, ⟨by decide +kernel, by decide +kernel, by decide +kernel⟩, by decide⟩
set_option maxRecDepth 100000 in
theorem FX7_about : MF yX7_about cX7_about 3 (some .int) 7 2 := ⟨⟨mg 1088 (by decide +kernel) rfl, mg 1089 (by decide +kernel) rfl, inRX7, mg 1090 rfl rfl⟩, ⟨_, rfl, rfl⟩, ⟨by decide +kernel, by decide +kernel, by decide +kernel⟩, by decide⟩
set_option maxRecDepth 100000 in
theorem FX7_addJob : MF yX7_addJob cX7_addJob 4 none 7 2 := ⟨⟨mg 909 (by decide +kernel) rfl, mg 33 (by decide +kernel) rfl, inRX7, mg 910 rfl rfl⟩, ⟨_, rfl, rfl⟩, ⟨by decide +kernel, by decide +kernel, by decide +kernel⟩, by decide⟩
set_option maxRecDepth 100000 in
theorem FX7_addOperation : MF yX7_addOperation cX7_addOperation 5 (some .int) 7 3 := ⟨⟨mg 933 (by decide +kernel) rfl, mg 38 (by decide +kernel) rfl, inRX7, mg 934 rfl rfl⟩, ⟨_, rfl, rfl⟩, ⟨by decide +kernel, by decide +kernel, by decide +kernel⟩, by decide⟩
set_option maxRecDepth 100000 in
theorem FX7_areTwo : MF yX7_areTwo cX7_areTwo 3 (some .boolean) 7 2 := ⟨⟨mg 1181 (by decide +kernel) rfl, mg 85 (by decide +kernel) rfl, inRX7, mg 1182 rfl rfl⟩, ⟨_, rfl, rfl⟩, ⟨by decide +kernel, by decide +kernel, by decide +kernel⟩, by decide⟩
set_option maxRecDepth 100000 in
theorem FX7_beforeOnRoute : MF yX7_beforeOnRoute cX7_beforeOnRoute 2 (some .int) 7 1 := ⟨⟨mg 980 (by decide +kernel) rfl, mg 47 (by decide +kernel) rfl, inRX7, mg 981 rfl rfl⟩, ⟨_, rfl, rfl⟩, ⟨by decide +kernel, by decide +kernel, by decide +kernel⟩, by decide⟩
set_option maxRecDepth 100000 in
theorem FX7_behindOnRoute : MF yX7_behindOnRoute cX7_behindOnRoute 2 (some .int) 7 1 := ⟨⟨mg 992 (by decide +kernel) rfl, mg 50 (by decide +kernel) rfl, inRX7, mg 993 rfl rfl⟩, ⟨_, rfl, rfl⟩, ⟨by decide +kernel, by decide +kernel, by decide +kernel⟩, by decide⟩
set_option maxRecDepth 100000 in
theorem FX7_best : MF yX7_best cX7_best 4 (some .int) 7 2 := ⟨⟨mg 1072 (by decide +kernel) rfl, mg 1073 (by decide +kernel) rfl, inRX7, mg 1074 rfl rfl⟩, ⟨_, rfl, rfl⟩, ⟨by decide +kernel, by decide +kernel, by decide +kernel⟩, by decide⟩
set_option maxRecDepth 100000 in
theorem FX7_blocks : MF yX7_blocks cX7_blocks 3 (some .int) 7 0 := ⟨⟨mg 1129 (by decide +kernel) rfl, mg 74 (by decide +kernel) rfl, inRX7, mg 1130 rfl rfl⟩, ⟨_, rfl, rfl⟩, ⟨by decide +kernel, by decide +kernel, by decide +kernel⟩, by decide⟩
set_option maxRecDepth 100000 in
theorem FX7_bound : MF yX7_bound cX7_bound 4 (some .int) 7 1 := ⟨⟨mg 1136 (by decide +kernel) rfl, mg 1137 (by decide +kernel) rfl, inRX7, mg 1138 rfl rfl⟩, ⟨_, rfl, rfl⟩, ⟨by decide +kernel, by decide +kernel, by decide +kernel⟩, by decide⟩
set_option maxRecDepth 100000 in
theorem FX7_boundOf : MF yX7_boundOf cX7_boundOf 6 (some .int) 7 1 := ⟨⟨mg 1141 (by decide +kernel) rfl, mg 76 (by decide +kernel) rfl, inRX7, mg 1142 rfl rfl⟩, ⟨_, rfl, rfl⟩, ⟨by decide +kernel, by decide +kernel, by decide +kernel⟩, by decide⟩
set_option maxRecDepth 100000 in
theorem FX7_breakdown : MF yX7_breakdown cX7_breakdown 7 (some .int) 7 4 := ⟨⟨mg 1080 (by decide +kernel) rfl, mg 1081 (by decide +kernel) rfl, inRX7, mg 1082 rfl rfl⟩, ⟨_, rfl, rfl⟩, ⟨by decide +kernel, by decide +kernel, by decide +kernel⟩, by decide⟩
set_option maxRecDepth 100000 in
theorem FX7_change : MF yX7_change cX7_change 4 (some .int) 7 2 := ⟨⟨mg 936 (by decide +kernel) rfl, mg 937 (by decide +kernel) rfl, inRX7, mg 938 rfl rfl⟩, ⟨_, rfl, rfl⟩, ⟨by decide +kernel, by decide +kernel, by decide +kernel⟩, by decide⟩
set_option maxRecDepth 100000 in
theorem FX7_count : MF yX7_count cX7_count 2 (some .int) 7 1 := ⟨⟨mg 1120 (by decide +kernel) rfl, mg 1121 (by decide +kernel) rfl, inRX7, mg 1122 rfl rfl⟩, ⟨_, rfl, rfl⟩, ⟨by decide +kernel, by decide +kernel, by decide +kernel⟩, by decide⟩
set_option maxRecDepth 100000 in
theorem FX7_endOf : MF yX7_endOf cX7_endOf 2 (some .int) 7 1 := ⟨⟨mg 984 (by decide +kernel) rfl, mg 48 (by decide +kernel) rfl, inRX7, mg 985 rfl rfl⟩, ⟨_, rfl, rfl⟩, ⟨by decide +kernel, by decide +kernel, by decide +kernel⟩, by decide⟩
set_option maxRecDepth 100000 in
theorem FX7_endOfJob : MF yX7_endOfJob cX7_endOfJob 3 (some .int) 7 1 := ⟨⟨mg 1113 (by decide +kernel) rfl, mg 71 (by decide +kernel) rfl, inRX7, mg 1114 rfl rfl⟩, ⟨_, rfl, rfl⟩, ⟨by decide +kernel, by decide +kernel, by decide +kernel⟩, by decide⟩
set_option maxRecDepth 100000 in
theorem FX7_exchange : MF yX7_exchange cX7_exchange 5 none 7 2 := ⟨⟨mg 1008 (by decide +kernel) rfl, mg 53 (by decide +kernel) rfl, inRX7, mg 1009 rfl rfl⟩, ⟨_, rfl, rfl⟩, ⟨by decide +kernel, by decide +kernel, by decide +kernel⟩, by decide⟩
set_option maxRecDepth 100000 in
theorem FX7_fault : MF yX7_fault cX7_fault 2 (some .int) 7 1 := ⟨⟨mg 1201 (by decide +kernel) rfl, mg 1202 (by decide +kernel) rfl, inRX7, mg 1203 rfl rfl⟩, ⟨_, rfl, rfl⟩, ⟨by decide +kernel, by decide +kernel, by decide +kernel⟩, by decide⟩
set_option maxRecDepth 100000 in
theorem FX7_faultOf : MF yX7_faultOf cX7_faultOf 2 (some .int) 7 1 := ⟨⟨mg 1206 (by decide +kernel) rfl, mg 87 (by decide +kernel) rfl, inRX7, mg 1207 rfl rfl⟩, ⟨_, rfl, rfl⟩, ⟨by decide +kernel, by decide +kernel, by decide +kernel⟩, by decide⟩
set_option maxRecDepth 100000 in
theorem FX7_find : MF yX7_find cX7_find 1 (some .boolean) 7 0 := ⟨⟨mg 953 (by decide +kernel) rfl, mg 41 (by decide +kernel) rfl, inRX7, mg 954 rfl rfl⟩, ⟨_, rfl, rfl⟩, ⟨by decide +kernel, by decide +kernel, by decide +kernel⟩, by decide⟩
set_option maxRecDepth 100000 in
theorem FX7_findBest : MF yX7_findBest cX7_findBest 2 (some .int) 7 0 := ⟨⟨mg 1040 (by decide +kernel) rfl, mg 59 (by decide +kernel) rfl, inRX7, mg 1041 rfl rfl⟩, ⟨_, rfl, rfl⟩, ⟨by decide +kernel, by decide +kernel, by decide +kernel⟩, by decide⟩
set_option maxRecDepth 100000 in
theorem FX7_findCritical : MF yX7_findCritical cX7_findCritical 4 none 7 0 := ⟨⟨mg 1016 (by decide +kernel) rfl, mg 54 (by decide +kernel) rfl, inRX7, mg 1017 rfl rfl⟩, ⟨_, rfl, rfl⟩, ⟨by decide +kernel, by decide +kernel, by decide +kernel⟩, by decide⟩
set_option maxRecDepth 100000 in
theorem FX7_findForced : MF yX7_findForced cX7_findForced 6 (some .boolean) 7 0 := ⟨⟨mg 1165 (by decide +kernel) rfl, mg 81 (by decide +kernel) rfl, inRX7, mg 1166 rfl rfl⟩, ⟨_, rfl, rfl⟩, ⟨by decide +kernel, by decide +kernel, by decide +kernel⟩, by decide⟩
set_option maxRecDepth 100000 in
theorem FX7_findHeads : MF yX7_findHeads cX7_findHeads 6 (some .boolean) 7 1 := ⟨⟨mg 961 (by decide +kernel) rfl, mg 43 (by decide +kernel) rfl, inRX7, mg 962 rfl rfl⟩, ⟨_, rfl, rfl⟩, ⟨by decide +kernel, by decide +kernel, by decide +kernel⟩, by decide⟩
set_option maxRecDepth 100000 in
theorem FX7_findTails : MF yX7_findTails cX7_findTails 6 none 7 0 := ⟨⟨mg 988 (by decide +kernel) rfl, mg 49 (by decide +kernel) rfl, inRX7, mg 989 rfl rfl⟩, ⟨_, rfl, rfl⟩, ⟨by decide +kernel, by decide +kernel, by decide +kernel⟩, by decide⟩
set_option maxRecDepth 100000 in
theorem FX7_fitsOrder : MF yX7_fitsOrder cX7_fitsOrder 6 (some .boolean) 7 1 := ⟨⟨mg 1246 (by decide +kernel) rfl, mg 95 (by decide +kernel) rfl, inRX7, mg 1247 rfl rfl⟩, ⟨_, rfl, rfl⟩, ⟨by decide +kernel, by decide +kernel, by decide +kernel⟩, by decide⟩
set_option maxRecDepth 100000 in
theorem FX7_force : MF yX7_force cX7_force 5 (some .boolean) 7 1 := ⟨⟨mg 1161 (by decide +kernel) rfl, mg 80 (by decide +kernel) rfl, inRX7, mg 1162 rfl rfl⟩, ⟨_, rfl, rfl⟩, ⟨by decide +kernel, by decide +kernel, by decide +kernel⟩, by decide⟩
set_option maxRecDepth 100000 in
theorem FX7_forced : MF yX7_forced cX7_forced 5 (some .int) 7 1 := ⟨⟨mg 1156 (by decide +kernel) rfl, mg 1157 (by decide +kernel) rfl, inRX7, mg 1158 rfl rfl⟩, ⟨_, rfl, rfl⟩, ⟨by decide +kernel, by decide +kernel, by decide +kernel⟩, by decide⟩
set_option maxRecDepth 100000 in
theorem FX7_foundAt : MF yX7_foundAt cX7_foundAt 3 (some .int) 7 2 := ⟨⟨mg 1077 (by decide +kernel) rfl, mg 67 (by decide +kernel) rfl, inRX7, mg 1078 rfl rfl⟩, ⟨_, rfl, rfl⟩, ⟨by decide +kernel, by decide +kernel, by decide +kernel⟩, by decide⟩
set_option maxRecDepth 100000 in
theorem FX7_goesOn : MF yX7_goesOn cX7_goesOn 3 (some .boolean) 7 2 := ⟨⟨mg 1032 (by decide +kernel) rfl, mg 58 (by decide +kernel) rfl, inRX7, mg 1033 rfl rfl⟩, ⟨_, rfl, rfl⟩, ⟨by decide +kernel, by decide +kernel, by decide +kernel⟩, by decide⟩
set_option maxRecDepth 100000 in
theorem FX7_greater : SF yX7_greater cX7_greater 2 (some .int) 2 := ⟨⟨mg 976 (by decide +kernel) rfl, inRX7, mg 977 rfl rfl⟩, ⟨by decide +kernel, by decide +kernel, by decide +kernel⟩, by decide⟩
set_option maxRecDepth 100000 in
theorem FX7_headAlone : MF yX7_headAlone cX7_headAlone 4 (some .int) 7 1 := ⟨⟨mg 1149 (by decide +kernel) rfl, mg 78 (by decide +kernel) rfl, inRX7, mg 1150 rfl rfl⟩, ⟨_, rfl, rfl⟩, ⟨by decide +kernel, by decide +kernel, by decide +kernel⟩, by decide⟩
set_option maxRecDepth 100000 in
theorem FX7_headBy : MF yX7_headBy cX7_headBy 4 (some .int) 7 1 := ⟨⟨mg 1169 (by decide +kernel) rfl, mg 82 (by decide +kernel) rfl, inRX7, mg 1170 rfl rfl⟩, ⟨_, rfl, rfl⟩, ⟨by decide +kernel, by decide +kernel, by decide +kernel⟩, by decide⟩
set_option maxRecDepth 100000 in
theorem FX7_improve : MF yX7_improve cX7_improve 6 (some .int) 7 0 := ⟨⟨mg 1011 (by decide +kernel) rfl, mg 1012 (by decide +kernel) rfl, inRX7, mg 1013 rfl rfl⟩, ⟨_, rfl, rfl⟩, ⟨by decide +kernel, by decide +kernel, by decide +kernel⟩, by decide⟩
set_option maxRecDepth 100000 in
theorem FX7_in : SF yX7_in cX7_in 3 (some .boolean) 3 := ⟨⟨mg 901 (by decide +kernel) rfl, inRX7, mg 902 rfl rfl⟩, ⟨by decide +kernel, by decide +kernel, by decide +kernel⟩, by decide⟩
set_option maxRecDepth 100000 in
theorem FX7_isCritical : MF yX7_isCritical cX7_isCritical 2 (some .boolean) 7 1 := ⟨⟨mg 1020 (by decide +kernel) rfl, mg 55 (by decide +kernel) rfl, inRX7, mg 1021 rfl rfl⟩, ⟨_, rfl, rfl⟩, ⟨by decide +kernel, by decide +kernel, by decide +kernel⟩, by decide⟩
set_option maxRecDepth 100000 in
theorem FX7_isForced : MF yX7_isForced cX7_isForced 4 (some .int) 7 3 := ⟨⟨mg 1188 (by decide +kernel) rfl, mg 1189 (by decide +kernel) rfl, inRX7, mg 1190 rfl rfl⟩, ⟨_, rfl, rfl⟩, ⟨by decide +kernel, by decide +kernel, by decide +kernel⟩, by decide⟩
set_option maxRecDepth 100000 in
theorem FX7_isForcedBoth : MF yX7_isForcedBoth cX7_isForcedBoth 4 (some .boolean) 7 0 := ⟨⟨mg 1185 (by decide +kernel) rfl, mg 86 (by decide +kernel) rfl, inRX7, mg 1186 rfl rfl⟩, ⟨_, rfl, rfl⟩, ⟨by decide +kernel, by decide +kernel, by decide +kernel⟩, by decide⟩
set_option maxRecDepth 100000 in
theorem FX7_isJob : MF yX7_isJob cX7_isJob 2 (some .boolean) 7 1 := ⟨⟨mg 917 (by decide +kernel) rfl, mg 34 (by decide +kernel) rfl, inRX7, mg 918 rfl rfl⟩, ⟨_, rfl, rfl⟩, ⟨by decide +kernel, by decide +kernel, by decide +kernel⟩, by decide⟩
set_option maxRecDepth 100000 in
theorem FX7_isOperation : MF yX7_isOperation cX7_isOperation 2 (some .boolean) 7 1 := ⟨⟨mg 941 (by decide +kernel) rfl, mg 39 (by decide +kernel) rfl, inRX7, mg 942 rfl rfl⟩, ⟨_, rfl, rfl⟩, ⟨by decide +kernel, by decide +kernel, by decide +kernel⟩, by decide⟩
set_option maxRecDepth 100000 in
theorem FX7_isSet : MF yX7_isSet cX7_isSet 3 (some .boolean) 7 2 := ⟨⟨mg 1173 (by decide +kernel) rfl, mg 83 (by decide +kernel) rfl, inRX7, mg 1174 rfl rfl⟩, ⟨_, rfl, rfl⟩, ⟨by decide +kernel, by decide +kernel, by decide +kernel⟩, by decide⟩
set_option maxRecDepth 100000 in
theorem FX7_job : MF yX7_job cX7_job 3 (some .int) 7 2 := ⟨⟨mg 897 (by decide +kernel) rfl, mg 898 (by decide +kernel) rfl, inRX7, mg 899 rfl rfl⟩, ⟨_, rfl, rfl⟩, ⟨by decide +kernel, by decide +kernel, by decide +kernel⟩, by decide⟩
set_option maxRecDepth 100000 in
theorem FX7_jobAt : MF yX7_jobAt cX7_jobAt 3 (some .int) 7 2 := ⟨⟨mg 969 (by decide +kernel) rfl, mg 45 (by decide +kernel) rfl, inRX7, mg 970 rfl rfl⟩, ⟨_, rfl, rfl⟩, ⟨by decide +kernel, by decide +kernel, by decide +kernel⟩, by decide⟩
set_option maxRecDepth 100000 in
theorem FX7_keep : MF yX7_keep cX7_keep 2 none 7 0 := ⟨⟨mg 905 (by decide +kernel) rfl, mg 32 (by decide +kernel) rfl, inRX7, mg 906 rfl rfl⟩, ⟨_, rfl, rfl⟩, ⟨by decide +kernel, by decide +kernel, by decide +kernel⟩, by decide⟩
set_option maxRecDepth 100000 in
theorem FX7_keepFound : MF yX7_keepFound cX7_keepFound 2 none 7 0 := ⟨⟨mg 1065 (by decide +kernel) rfl, mg 65 (by decide +kernel) rfl, inRX7, mg 1066 rfl rfl⟩, ⟨_, rfl, rfl⟩, ⟨by decide +kernel, by decide +kernel, by decide +kernel⟩, by decide⟩
set_option maxRecDepth 100000 in
theorem FX7_keepOrders : MF yX7_keepOrders cX7_keepOrders 2 none 7 0 := ⟨⟨mg 1044 (by decide +kernel) rfl, mg 60 (by decide +kernel) rfl, inRX7, mg 1045 rfl rfl⟩, ⟨_, rfl, rfl⟩, ⟨by decide +kernel, by decide +kernel, by decide +kernel⟩, by decide⟩
set_option maxRecDepth 100000 in
theorem FX7_lastEnd : MF yX7_lastEnd cX7_lastEnd 3 (some .int) 7 0 := ⟨⟨mg 1000 (by decide +kernel) rfl, mg 52 (by decide +kernel) rfl, inRX7, mg 1001 rfl rfl⟩, ⟨_, rfl, rfl⟩, ⟨by decide +kernel, by decide +kernel, by decide +kernel⟩, by decide⟩
set_option maxRecDepth 100000 in
theorem FX7_lasts : MF yX7_lasts cX7_lasts 2 (some .int) 7 1 := ⟨⟨mg 945 (by decide +kernel) rfl, mg 40 (by decide +kernel) rfl, inRX7, mg 946 rfl rfl⟩, ⟨_, rfl, rfl⟩, ⟨by decide +kernel, by decide +kernel, by decide +kernel⟩, by decide⟩
set_option maxRecDepth 100000 in
theorem FX7_lateness : MF yX7_lateness cX7_lateness 2 (some .int) 7 1 := ⟨⟨mg 1117 (by decide +kernel) rfl, mg 72 (by decide +kernel) rfl, inRX7, mg 1118 rfl rfl⟩, ⟨_, rfl, rfl⟩, ⟨by decide +kernel, by decide +kernel, by decide +kernel⟩, by decide⟩
set_option maxRecDepth 100000 in
theorem FX7_layPlans : MF yX7_layPlans cX7_layPlans 7 none 7 2 := ⟨⟨mg 1048 (by decide +kernel) rfl, mg 61 (by decide +kernel) rfl, inRX7, mg 1049 rfl rfl⟩, ⟨_, rfl, rfl⟩, ⟨by decide +kernel, by decide +kernel, by decide +kernel⟩, by decide⟩
set_option maxRecDepth 100000 in
theorem FX7_layStays : MF yX7_layStays cX7_layStays 9 (some .int) 7 4 := ⟨⟨mg 1085 (by decide +kernel) rfl, mg 68 (by decide +kernel) rfl, inRX7, mg 1086 rfl rfl⟩, ⟨_, rfl, rfl⟩, ⟨by decide +kernel, by decide +kernel, by decide +kernel⟩, by decide⟩
set_option maxRecDepth 100000 in
theorem FX7_layTried : MF yX7_layTried cX7_layTried 3 none 7 1 := ⟨⟨mg 1061 (by decide +kernel) rfl, mg 64 (by decide +kernel) rfl, inRX7, mg 1062 rfl rfl⟩, ⟨_, rfl, rfl⟩, ⟨by decide +kernel, by decide +kernel, by decide +kernel⟩, by decide⟩
set_option maxRecDepth 100000 in
theorem FX7_length : MF yX7_length cX7_length 1 (some .int) 7 0 := ⟨⟨mg 948 (by decide +kernel) rfl, mg 949 (by decide +kernel) rfl, inRX7, mg 950 rfl rfl⟩, ⟨_, rfl, rfl⟩, ⟨by decide +kernel, by decide +kernel, by decide +kernel⟩, by decide⟩
set_option maxRecDepth 100000 in
theorem FX7_loadPlan : MF yX7_loadPlan cX7_loadPlan 3 (some .int) 7 0 := ⟨⟨mg 1241 (by decide +kernel) rfl, mg 1242 (by decide +kernel) rfl, inRX7, mg 1243 rfl rfl⟩, ⟨_, rfl, rfl⟩, ⟨by decide +kernel, by decide +kernel, by decide +kernel⟩, by decide⟩
set_option maxRecDepth 100000 in
theorem FX7_loadRoutes : MF yX7_loadRoutes cX7_loadRoutes 4 (some .int) 7 0 := ⟨⟨mg 1237 (by decide +kernel) rfl, mg 1238 (by decide +kernel) rfl, inRX7, mg 1239 rfl rfl⟩, ⟨_, rfl, rfl⟩, ⟨by decide +kernel, by decide +kernel, by decide +kernel⟩, by decide⟩
set_option maxRecDepth 100000 in
theorem FX7_machineOf : MF yX7_machineOf cX7_machineOf 2 (some .int) 7 1 := ⟨⟨mg 929 (by decide +kernel) rfl, mg 37 (by decide +kernel) rfl, inRX7, mg 930 rfl rfl⟩, ⟨_, rfl, rfl⟩, ⟨by decide +kernel, by decide +kernel, by decide +kernel⟩, by decide⟩
set_option maxRecDepth 100000 in
theorem FX7_need : MF yX7_need cX7_need 2 none 7 1 := ⟨⟨mg 1218 (by decide +kernel) rfl, mg 90 (by decide +kernel) rfl, inRX7, mg 1219 rfl rfl⟩, ⟨_, rfl, rfl⟩, ⟨by decide +kernel, by decide +kernel, by decide +kernel⟩, by decide⟩
set_option maxRecDepth 100000 in
theorem FX7_next : MF yX7_next cX7_next 1 (some .int) 7 0 := ⟨⟨mg 1222 (by decide +kernel) rfl, mg 91 (by decide +kernel) rfl, inRX7, mg 1223 rfl rfl⟩, ⟨_, rfl, rfl⟩, ⟨by decide +kernel, by decide +kernel, by decide +kernel⟩, by decide⟩
set_option maxRecDepth 100000 in
theorem FX7_nextPlan : MF yX7_nextPlan cX7_nextPlan 9 (some .boolean) 7 3 := ⟨⟨mg 1052 (by decide +kernel) rfl, mg 62 (by decide +kernel) rfl, inRX7, mg 1053 rfl rfl⟩, ⟨_, rfl, rfl⟩, ⟨by decide +kernel, by decide +kernel, by decide +kernel⟩, by decide⟩
set_option maxRecDepth 100000 in
theorem FX7_nothingStays : MF yX7_nothingStays cX7_nothingStays 2 none 7 0 := ⟨⟨mg 957 (by decide +kernel) rfl, mg 42 (by decide +kernel) rfl, inRX7, mg 958 rfl rfl⟩, ⟨_, rfl, rfl⟩, ⟨by decide +kernel, by decide +kernel, by decide +kernel⟩, by decide⟩
set_option maxRecDepth 100000 in
theorem FX7_ofAJob : MF yX7_ofAJob cX7_ofAJob 3 (some .int) 7 2 := ⟨⟨mg 925 (by decide +kernel) rfl, mg 36 (by decide +kernel) rfl, inRX7, mg 926 rfl rfl⟩, ⟨_, rfl, rfl⟩, ⟨by decide +kernel, by decide +kernel, by decide +kernel⟩, by decide⟩
set_option maxRecDepth 100000 in
theorem FX7_ofJob : MF yX7_ofJob cX7_ofJob 3 (some .int) 7 2 := ⟨⟨mg 1104 (by decide +kernel) rfl, mg 1105 (by decide +kernel) rfl, inRX7, mg 1106 rfl rfl⟩, ⟨_, rfl, rfl⟩, ⟨by decide +kernel, by decide +kernel, by decide +kernel⟩, by decide⟩
set_option maxRecDepth 100000 in
theorem FX7_ofPlan : MF yX7_ofPlan cX7_ofPlan 5 (some .int) 7 1 := ⟨⟨mg 1125 (by decide +kernel) rfl, mg 73 (by decide +kernel) rfl, inRX7, mg 1126 rfl rfl⟩, ⟨_, rfl, rfl⟩, ⟨by decide +kernel, by decide +kernel, by decide +kernel⟩, by decide⟩
set_option maxRecDepth 100000 in
theorem FX7_operation : MF yX7_operation cX7_operation 4 (some .int) 7 3 := ⟨⟨mg 912 (by decide +kernel) rfl, mg 913 (by decide +kernel) rfl, inRX7, mg 914 rfl rfl⟩, ⟨_, rfl, rfl⟩, ⟨by decide +kernel, by decide +kernel, by decide +kernel⟩, by decide⟩
set_option maxRecDepth 100000 in
theorem FX7_operationAt : MF yX7_operationAt cX7_operationAt 3 (some .int) 7 2 := ⟨⟨mg 965 (by decide +kernel) rfl, mg 44 (by decide +kernel) rfl, inRX7, mg 966 rfl rfl⟩, ⟨_, rfl, rfl⟩, ⟨by decide +kernel, by decide +kernel, by decide +kernel⟩, by decide⟩
set_option maxRecDepth 100000 in
theorem FX7_operationOn : MF yX7_operationOn cX7_operationOn 4 (some .int) 7 2 := ⟨⟨mg 921 (by decide +kernel) rfl, mg 35 (by decide +kernel) rfl, inRX7, mg 922 rfl rfl⟩, ⟨_, rfl, rfl⟩, ⟨by decide +kernel, by decide +kernel, by decide +kernel⟩, by decide⟩
set_option maxRecDepth 100000 in
theorem FX7_order : MF yX7_order cX7_order 3 (some .int) 7 2 := ⟨⟨mg 1100 (by decide +kernel) rfl, mg 1101 (by decide +kernel) rfl, inRX7, mg 1102 rfl rfl⟩, ⟨_, rfl, rfl⟩, ⟨by decide +kernel, by decide +kernel, by decide +kernel⟩, by decide⟩
set_option maxRecDepth 100000 in
theorem FX7_path : MF yX7_path cX7_path 2 (some .int) 7 1 := ⟨⟨mg 1096 (by decide +kernel) rfl, mg 1097 (by decide +kernel) rfl, inRX7, mg 1098 rfl rfl⟩, ⟨_, rfl, rfl⟩, ⟨by decide +kernel, by decide +kernel, by decide +kernel⟩, by decide⟩
set_option maxRecDepth 100000 in
theorem FX7_placeOf : MF yX7_placeOf cX7_placeOf 4 (some .int) 7 1 := ⟨⟨mg 1028 (by decide +kernel) rfl, mg 57 (by decide +kernel) rfl, inRX7, mg 1029 rfl rfl⟩, ⟨_, rfl, rfl⟩, ⟨by decide +kernel, by decide +kernel, by decide +kernel⟩, by decide⟩
set_option maxRecDepth 100000 in
theorem FX7_placeOnPath : MF yX7_placeOnPath cX7_placeOnPath 3 (some .int) 7 1 := ⟨⟨mg 1093 (by decide +kernel) rfl, mg 69 (by decide +kernel) rfl, inRX7, mg 1094 rfl rfl⟩, ⟨_, rfl, rfl⟩, ⟨by decide +kernel, by decide +kernel, by decide +kernel⟩, by decide⟩
set_option maxRecDepth 100000 in
theorem FX7_put : MF yX7_put cX7_put 7 (some .int) 7 1 := ⟨⟨mg 1192 (by decide +kernel) rfl, mg 1193 (by decide +kernel) rfl, inRX7, mg 1194 rfl rfl⟩, ⟨_, rfl, rfl⟩, ⟨by decide +kernel, by decide +kernel, by decide +kernel⟩, by decide⟩
set_option maxRecDepth 100000 in
theorem FX7_putOrders : MF yX7_putOrders cX7_putOrders 3 none 7 1 := ⟨⟨mg 1069 (by decide +kernel) rfl, mg 66 (by decide +kernel) rfl, inRX7, mg 1070 rfl rfl⟩, ⟨_, rfl, rfl⟩, ⟨by decide +kernel, by decide +kernel, by decide +kernel⟩, by decide⟩
set_option maxRecDepth 100000 in
theorem FX7_raiseHead : MF yX7_raiseHead cX7_raiseHead 4 (some .boolean) 7 2 := ⟨⟨mg 973 (by decide +kernel) rfl, mg 46 (by decide +kernel) rfl, inRX7, mg 974 rfl rfl⟩, ⟨_, rfl, rfl⟩, ⟨by decide +kernel, by decide +kernel, by decide +kernel⟩, by decide⟩
set_option maxRecDepth 100000 in
theorem FX7_restore : MF yX7_restore cX7_restore 3 (some .int) 7 1 := ⟨⟨mg 1257 (by decide +kernel) rfl, mg 1258 (by decide +kernel) rfl, inRX7, mg 1259 rfl rfl⟩, ⟨_, rfl, rfl⟩, ⟨by decide +kernel, by decide +kernel, by decide +kernel⟩, by decide⟩
set_option maxRecDepth 100000 in
theorem FX7_save : MF yX7_save cX7_save 3 (some .int) 7 1 := ⟨⟨mg 1253 (by decide +kernel) rfl, mg 1254 (by decide +kernel) rfl, inRX7, mg 1255 rfl rfl⟩, ⟨_, rfl, rfl⟩, ⟨by decide +kernel, by decide +kernel, by decide +kernel⟩, by decide⟩
set_option maxRecDepth 100000 in
theorem FX7_search : MF yX7_search cX7_search 3 (some .int) 7 0 := ⟨⟨mg 1056 (by decide +kernel) rfl, mg 63 (by decide +kernel) rfl, inRX7, mg 1057 rfl rfl⟩, ⟨_, rfl, rfl⟩, ⟨by decide +kernel, by decide +kernel, by decide +kernel⟩, by decide⟩
set_option maxRecDepth 100000 in
theorem FX7_sumOf : MF yX7_sumOf cX7_sumOf 4 (some .int) 7 1 := ⟨⟨mg 1109 (by decide +kernel) rfl, mg 70 (by decide +kernel) rfl, inRX7, mg 1110 rfl rfl⟩, ⟨_, rfl, rfl⟩, ⟨by decide +kernel, by decide +kernel, by decide +kernel⟩, by decide⟩
set_option maxRecDepth 100000 in
theorem FX7_sumOfAll : MF yX7_sumOfAll cX7_sumOfAll 4 (some .int) 7 1 := ⟨⟨mg 1133 (by decide +kernel) rfl, mg 75 (by decide +kernel) rfl, inRX7, mg 1134 rfl rfl⟩, ⟨_, rfl, rfl⟩, ⟨by decide +kernel, by decide +kernel, by decide +kernel⟩, by decide⟩
set_option maxRecDepth 100000 in
theorem FX7_swap : MF yX7_swap cX7_swap 3 (some .int) 7 2 := ⟨⟨mg 1003 (by decide +kernel) rfl, mg 1004 (by decide +kernel) rfl, inRX7, mg 1005 rfl rfl⟩, ⟨_, rfl, rfl⟩, ⟨by decide +kernel, by decide +kernel, by decide +kernel⟩, by decide⟩
set_option maxRecDepth 100000 in
theorem FX7_tailAlone : MF yX7_tailAlone cX7_tailAlone 4 (some .int) 7 1 := ⟨⟨mg 1153 (by decide +kernel) rfl, mg 79 (by decide +kernel) rfl, inRX7, mg 1154 rfl rfl⟩, ⟨_, rfl, rfl⟩, ⟨by decide +kernel, by decide +kernel, by decide +kernel⟩, by decide⟩
set_option maxRecDepth 100000 in
theorem FX7_tailBy : MF yX7_tailBy cX7_tailBy 4 (some .int) 7 1 := ⟨⟨mg 1177 (by decide +kernel) rfl, mg 84 (by decide +kernel) rfl, inRX7, mg 1178 rfl rfl⟩, ⟨_, rfl, rfl⟩, ⟨by decide +kernel, by decide +kernel, by decide +kernel⟩, by decide⟩
set_option maxRecDepth 100000 in
theorem FX7_takeBest : MF yX7_takeBest cX7_takeBest 2 (some .int) 7 0 := ⟨⟨mg 1035 (by decide +kernel) rfl, mg 1036 (by decide +kernel) rfl, inRX7, mg 1037 rfl rfl⟩, ⟨_, rfl, rfl⟩, ⟨by decide +kernel, by decide +kernel, by decide +kernel⟩, by decide⟩
set_option maxRecDepth 100000 in
theorem FX7_takeDigit : MF yX7_takeDigit cX7_takeDigit 2 (some .int) 7 1 := ⟨⟨mg 1230 (by decide +kernel) rfl, mg 93 (by decide +kernel) rfl, inRX7, mg 1231 rfl rfl⟩, ⟨_, rfl, rfl⟩, ⟨by decide +kernel, by decide +kernel, by decide +kernel⟩, by decide⟩
set_option maxRecDepth 100000 in
theorem FX7_takeNumber : MF yX7_takeNumber cX7_takeNumber 4 (some .int) 7 2 := ⟨⟨mg 1226 (by decide +kernel) rfl, mg 92 (by decide +kernel) rfl, inRX7, mg 1227 rfl rfl⟩, ⟨_, rfl, rfl⟩, ⟨by decide +kernel, by decide +kernel, by decide +kernel⟩, by decide⟩
set_option maxRecDepth 100000 in
theorem FX7_takeOrder : MF yX7_takeOrder cX7_takeOrder 4 none 7 0 := ⟨⟨mg 1234 (by decide +kernel) rfl, mg 94 (by decide +kernel) rfl, inRX7, mg 1235 rfl rfl⟩, ⟨_, rfl, rfl⟩, ⟨by decide +kernel, by decide +kernel, by decide +kernel⟩, by decide⟩
set_option maxRecDepth 100000 in
theorem FX7_takePart : MF yX7_takePart cX7_takePart 2 none 7 1 := ⟨⟨mg 1210 (by decide +kernel) rfl, mg 88 (by decide +kernel) rfl, inRX7, mg 1211 rfl rfl⟩, ⟨_, rfl, rfl⟩, ⟨by decide +kernel, by decide +kernel, by decide +kernel⟩, by decide⟩
set_option maxRecDepth 100000 in
theorem FX7_takeRoute : MF yX7_takeRoute cX7_takeRoute 4 none 7 0 := ⟨⟨mg 1214 (by decide +kernel) rfl, mg 89 (by decide +kernel) rfl, inRX7, mg 1215 rfl rfl⟩, ⟨_, rfl, rfl⟩, ⟨by decide +kernel, by decide +kernel, by decide +kernel⟩, by decide⟩
set_option maxRecDepth 100000 in
theorem FX7_throughOf : MF yX7_throughOf cX7_throughOf 2 (some .int) 7 1 := ⟨⟨mg 1024 (by decide +kernel) rfl, mg 56 (by decide +kernel) rfl, inRX7, mg 1025 rfl rfl⟩, ⟨_, rfl, rfl⟩, ⟨by decide +kernel, by decide +kernel, by decide +kernel⟩, by decide⟩
set_option maxRecDepth 100000 in
theorem FX7_undo : MF yX7_undo cX7_undo 2 (some .int) 7 0 := ⟨⟨mg 1249 (by decide +kernel) rfl, mg 1250 (by decide +kernel) rfl, inRX7, mg 1251 rfl rfl⟩, ⟨_, rfl, rfl⟩, ⟨by decide +kernel, by decide +kernel, by decide +kernel⟩, by decide⟩
set_option maxRecDepth 100000 in
theorem FX7_wipe : MF yX7_wipe cX7_wipe 2 (some .int) 7 0 := ⟨⟨mg 1197 (by decide +kernel) rfl, mg 1198 (by decide +kernel) rfl, inRX7, mg 1199 rfl rfl⟩, ⟨_, rfl, rfl⟩, ⟨by decide +kernel, by decide +kernel, by decide +kernel⟩, by decide⟩
set_option maxRecDepth 100000 in
theorem FX7_withTail : MF yX7_withTail cX7_withTail 2 (some .int) 7 1 := ⟨⟨mg 996 (by decide +kernel) rfl, mg 51 (by decide +kernel) rfl, inRX7, mg 997 rfl rfl⟩, ⟨_, rfl, rfl⟩, ⟨by decide +kernel, by decide +kernel, by decide +kernel⟩, by decide⟩
set_option maxRecDepth 100000 in
theorem FX7_workedOn : MF yX7_workedOn cX7_workedOn 5 (some .int) 7 2 := ⟨⟨mg 1145 (by decide +kernel) rfl, mg 77 (by decide +kernel) rfl, inRX7, mg 1146 rfl rfl⟩, ⟨_, rfl, rfl⟩, ⟨by decide +kernel, by decide +kernel, by decide +kernel⟩, by decide⟩
theorem KRL_9 : Cond.methodLink RL 9 yX6_init ∈ lw_g := mg 107 (by decide +kernel) rfl
theorem KRX6_9 : Cond.methodLinkNest RX6 9 yX5_init "BottleneckShop" ∈ nw := mn 115 (by decide +kernel) rfl
theorem KRX6_21 : Cond.methodLink RX6 21 yX0_init ∈ lw_g := mg 164 (by decide +kernel) rfl
theorem KRX0_17 : Cond.methodLinkNest RX0 17 yX5_init "BottleneckShop" ∈ nw := mn 170 (by decide +kernel) rfl
theorem KRX6_36 : Cond.methodLinkNest RX6 36 yX2_init "BottleneckShop" ∈ nw := mn 184 (by decide +kernel) rfl
theorem KRX6_43 : Cond.methodLinkNest RX6 43 yX1_init "BottleneckShop" ∈ nw := mn 206 (by decide +kernel) rfl
theorem KRX6_50 : Cond.methodLinkNest RX6 50 yX3_init "BottleneckShop" ∈ nw := mn 264 (by decide +kernel) rfl
theorem KRX6_60 : Cond.methodLinkNest RX6 60 yX4_init "BottleneckShop" ∈ nw := mn 279 (by decide +kernel) rfl
theorem KRX4_11 : Cond.methodLinkNest RX4 11 yX1_init "BottleneckShop" ∈ nw := mn 284 (by decide +kernel) rfl
theorem KRL_13 : Cond.methodLink RL 13 yX6_job ∈ lw_g := mg 365 (by decide +kernel) rfl
theorem KRX6_68 : Cond.methodLink RX6 68 yX6_within ∈ lw_g := mg 369 (by decide +kernel) rfl
theorem KRX6_76 : Cond.methodLink RX6 76 yX6_beginChange ∈ lw_g := mg 372 (by decide +kernel) rfl
theorem KRX6_256 : Cond.methodLink RX6 256 yX0_record ∈ lw_g := mg 376 (by decide +kernel) rfl
theorem KRX0_22 : Cond.methodLink RX0 22 yX5_become ∈ lw_g := mg 380 (by decide +kernel) rfl
theorem KRX5_37 : Cond.methodLinkNest RX5 37 yX6_copyRow "BottleneckShop" ∈ nw := mn 384 (by decide +kernel) rfl
theorem KRX6_253 : Cond.methodLink RX6 253 yX6_forgetAnswers ∈ lw_g := mg 387 (by decide +kernel) rfl
theorem KRX6_79 : Cond.methodLink RX6 79 yX5_addJob ∈ lw_g := mg 391 (by decide +kernel) rfl
theorem KRL_18 : Cond.methodLink RL 18 yX6_operation ∈ lw_g := mg 395 (by decide +kernel) rfl
theorem KRX6_83 : Cond.methodLink RX6 83 yX5_hasJob ∈ lw_g := mg 399 (by decide +kernel) rfl
theorem KRX6_87 : Cond.methodLink RX6 87 yX6_isMachine ∈ lw_g := mg 403 (by decide +kernel) rfl
theorem KRX6_90 : Cond.methodLink RX6 90 yX5_operationOf ∈ lw_g := mg 406 (by decide +kernel) rfl
theorem KRX6_93 : Cond.methodLink RX6 93 yX5_addOperation ∈ lw_g := mg 410 (by decide +kernel) rfl
theorem KRX5_41 : Cond.methodLink RX5 41 yX5_append ∈ lw_g := mg 414 (by decide +kernel) rfl
theorem KRL_23 : Cond.methodLink RL 23 yX6_change ∈ lw_g := mg 418 (by decide +kernel) rfl
theorem KRX6_97 : Cond.methodLink RX6 97 yX5_hasOperation ∈ lw_g := mg 422 (by decide +kernel) rfl
theorem KRL_27 : Cond.methodLink RL 27 yX6_swap ∈ lw_g := mg 426 (by decide +kernel) rfl
theorem KRX6_107 : Cond.methodLink RX6 107 yX5_exchange ∈ lw_g := mg 430 (by decide +kernel) rfl
theorem KRX6_111 : Cond.methodLink RX6 111 yX6_knowPlan ∈ lw_g := mg 434 (by decide +kernel) rfl
theorem KRX6_118 : Cond.methodLink RX6 118 yX1_load ∈ lw_g := mg 438 (by decide +kernel) rfl
theorem KRX1_55 : Cond.methodLinkNest RX1 55 yX6_copyRow "BottleneckShop" ∈ nw := mn 442 (by decide +kernel) rfl
theorem KRX6_266 : Cond.methodLink RX6 266 yX1_followOrders ∈ lw_g := mg 443 (by decide +kernel) rfl
theorem KRX1_67 : Cond.methodLink RX1 67 yX1_followOrder ∈ lw_g := mg 447 (by decide +kernel) rfl
theorem KRX1_71 : Cond.methodLink RX1 71 yX1_jobsOn ∈ lw_g := mg 451 (by decide +kernel) rfl
theorem KRX1_78 : Cond.methodLink RX1 78 yX1_letFirst ∈ lw_g := mg 455 (by decide +kernel) rfl
theorem KRX6_198 : Cond.methodLink RX6 198 yX1_measure ∈ lw_g := mg 459 (by decide +kernel) rfl
theorem KRX1_95 : Cond.methodLink RX1 95 yX1_sortAlong ∈ lw_g := mg 463 (by decide +kernel) rfl
theorem KRX1_102 : Cond.methodLink RX1 102 yX1_headOf ∈ lw_g := mg 467 (by decide +kernel) rfl
theorem KRX1_99 : Cond.methodLink RX1 99 yX1_tailOf ∈ lw_g := mg 471 (by decide +kernel) rfl
theorem KRX1_86 : Cond.methodLink RX1 86 yX1_endOf ∈ lw_g := mg 475 (by decide +kernel) rfl
theorem KRX6_272 : Cond.methodLink RX6 272 yX3_trace ∈ lw_g := mg 479 (by decide +kernel) rfl
theorem KRX3_19 : Cond.methodLink RX3 19 yX3_first ∈ lw_g := mg 483 (by decide +kernel) rfl
theorem KRX3_27 : Cond.methodLink RX3 27 yX5_hasOperation ∈ lw_g := mg 487 (by decide +kernel) rfl
theorem KRX3_33 : Cond.methodLink RX3 33 yX1_slackOf ∈ lw_g := mg 488 (by decide +kernel) rfl
theorem KRX3_23 : Cond.methodLink RX3 23 yX3_next ∈ lw_g := mg 492 (by decide +kernel) rfl
theorem KRX3_45 : Cond.methodLink RX3 45 yX1_endOf ∈ lw_g := mg 496 (by decide +kernel) rfl
theorem KRX3_51 : Cond.methodLink RX3 51 yX3_goesOn ∈ lw_g := mg 497 (by decide +kernel) rfl
theorem KRX3_55 : Cond.methodLink RX3 55 yX5_nextOnMachine ∈ lw_g := mg 501 (by decide +kernel) rfl
theorem KRX5_53 : Cond.methodLink RX5 53 yX5_placeOf ∈ lw_g := mg 505 (by decide +kernel) rfl
theorem KRX5_57 : Cond.methodLink RX5 57 yX5_operationAt ∈ lw_g := mg 509 (by decide +kernel) rfl
theorem KRX5_45 : Cond.methodLink RX5 45 yX5_hasPlace ∈ lw_g := mg 513 (by decide +kernel) rfl
theorem KRX5_49 : Cond.methodLink RX5 49 yX5_operationOf ∈ lw_g := mg 517 (by decide +kernel) rfl
theorem KRL_31 : Cond.methodLink RL 31 yX6_takeBest ∈ lw_g := mg 518 (by decide +kernel) rfl
theorem KRX6_122 : Cond.methodLink RX6 122 yX4_find ∈ lw_g := mg 522 (by decide +kernel) rfl
theorem KRX4_43 : Cond.methodLinkNest RX4 43 yX6_copyRow "BottleneckShop" ∈ nw := mn 526 (by decide +kernel) rfl
theorem KRX4_47 : Cond.methodLink RX4 47 yX1_measure ∈ lw_g := mg 527 (by decide +kernel) rfl
theorem KRX4_51 : Cond.methodLink RX4 51 yX1_greatestBound ∈ lw_g := mg 528 (by decide +kernel) rfl
theorem KRX1_123 : Cond.methodLink RX1 123 yX1_boundOf ∈ lw_g := mg 532 (by decide +kernel) rfl
theorem KRX1_126 : Cond.methodLink RX1 126 yX1_nextHead ∈ lw_g := mg 536 (by decide +kernel) rfl
theorem KRX1_129 : Cond.methodLink RX1 129 yX1_mostUrgent ∈ lw_g := mg 540 (by decide +kernel) rfl
theorem KRX4_59 : Cond.methodLink RX4 59 yX4_complete ∈ lw_g := mg 544 (by decide +kernel) rfl
theorem KRX4_63 : Cond.methodLink RX4 63 yX1_keeps ∈ lw_g := mg 547 (by decide +kernel) rfl
theorem KRX1_105 : Cond.methodLink RX1 105 yX1_measure ∈ lw_g := mg 551 (by decide +kernel) rfl
theorem KRX1_109 : Cond.methodLink RX1 109 yX1_forceOn ∈ lw_g := mg 552 (by decide +kernel) rfl
theorem KRX1_113 : Cond.methodLink RX1 113 yX1_undecided ∈ lw_g := mg 556 (by decide +kernel) rfl
theorem KRX1_82 : Cond.methodLink RX1 82 yX1_goesAhead ∈ lw_g := mg 560 (by decide +kernel) rfl
theorem KRX1_116 : Cond.methodLink RX1 116 yX1_wayThrough ∈ lw_g := mg 564 (by decide +kernel) rfl
theorem KRX1_119 : Cond.methodLink RX1 119 yX1_decide ∈ lw_g := mg 568 (by decide +kernel) rfl
theorem KRX4_84 : Cond.methodLink RX4 84 yX1_longestPair ∈ lw_g := mg 572 (by decide +kernel) rfl
theorem KRX4_87 : Cond.methodLink RX4 87 yX1_decide ∈ lw_g := mg 576 (by decide +kernel) rfl
theorem KRX4_67 : Cond.methodLink RX4 67 yX4_settle ∈ lw_g := mg 577 (by decide +kernel) rfl
theorem KRX4_71 : Cond.methodLink RX4 71 yX4_jobsLeft ∈ lw_g := mg 581 (by decide +kernel) rfl
theorem KRX4_81 : Cond.methodLink RX4 81 yX1_jobsOn ∈ lw_g := mg 585 (by decide +kernel) rfl
theorem KRX4_77 : Cond.methodLink RX4 77 yX1_letFirst ∈ lw_g := mg 586 (by decide +kernel) rfl
theorem KRX6_131 : Cond.methodLink RX6 131 yX6_copyRow ∈ lw_g := mg 587 (by decide +kernel) rfl
theorem KRL_36 : Cond.methodLink RL 36 yX6_improve ∈ lw_g := mg 588 (by decide +kernel) rfl
theorem KRX6_150 : Cond.methodLink RX6 150 yX6_lengthBehindNext ∈ lw_g := mg 592 (by decide +kernel) rfl
theorem KRX6_154 : Cond.methodLink RX6 154 yX5_placeOf ∈ lw_g := mg 596 (by decide +kernel) rfl
theorem KRL_40 : Cond.methodLink RL 40 yX6_length ∈ lw_g := mg 597 (by decide +kernel) rfl
theorem KRL_44 : Cond.methodLink RL 44 yX6_about ∈ lw_g := mg 601 (by decide +kernel) rfl
theorem KRX6_157 : Cond.methodLink RX6 157 yX6_timeAbout ∈ lw_g := mg 605 (by decide +kernel) rfl
theorem KRX6_307 : Cond.methodLink RX6 307 yX1_slackOf ∈ lw_g := mg 609 (by decide +kernel) rfl
theorem KRX6_310 : Cond.methodLink RX6 310 yX3_placeOf ∈ lw_g := mg 610 (by decide +kernel) rfl
theorem KRL_48 : Cond.methodLink RL 48 yX6_path ∈ lw_g := mg 614 (by decide +kernel) rfl
theorem KRL_53 : Cond.methodLink RL 53 yX6_order ∈ lw_g := mg 618 (by decide +kernel) rfl
theorem KRX6_160 : Cond.methodLink RX6 160 yX5_hasPlace ∈ lw_g := mg 622 (by decide +kernel) rfl
theorem KRL_57 : Cond.methodLink RL 57 yX6_ofJob ∈ lw_g := mg 623 (by decide +kernel) rfl
theorem KRX6_173 : Cond.methodLink RX6 173 yX5_work ∈ lw_g := mg 627 (by decide +kernel) rfl
theorem KRX6_176 : Cond.methodLink RX6 176 yX6_endOfJob ∈ lw_g := mg 631 (by decide +kernel) rfl
theorem KRX6_298 : Cond.methodLink RX6 298 yX1_endOf ∈ lw_g := mg 635 (by decide +kernel) rfl
theorem KRX6_179 : Cond.methodLink RX6 179 yX6_lateness ∈ lw_g := mg 636 (by decide +kernel) rfl
theorem KRL_61 : Cond.methodLink RL 61 yX6_count ∈ lw_g := mg 640 (by decide +kernel) rfl
theorem KRX6_182 : Cond.methodLink RX6 182 yX5_allSteps ∈ lw_g := mg 644 (by decide +kernel) rfl
theorem KRX6_186 : Cond.methodLink RX6 186 yX5_allWork ∈ lw_g := mg 648 (by decide +kernel) rfl
theorem KRX5_60 : Cond.methodLink RX5 60 yX5_work ∈ lw_g := mg 652 (by decide +kernel) rfl
theorem KRX6_195 : Cond.methodLink RX6 195 yX6_numberOfPlan ∈ lw_g := mg 653 (by decide +kernel) rfl
theorem KRX6_311 : Cond.methodLink RX6 311 yX3_blocks ∈ lw_g := mg 657 (by decide +kernel) rfl
theorem KRX6_314 : Cond.methodLink RX6 314 yX6_sumOfLateness ∈ lw_g := mg 661 (by decide +kernel) rfl
theorem KRX6_317 : Cond.methodLink RX6 317 yX6_greatestLateness ∈ lw_g := mg 665 (by decide +kernel) rfl
theorem KRL_65 : Cond.methodLink RL 65 yX6_bound ∈ lw_g := mg 669 (by decide +kernel) rfl
theorem KRX6_201 : Cond.methodLink RX6 201 yX1_greatestBound ∈ lw_g := mg 673 (by decide +kernel) rfl
theorem KRX6_204 : Cond.methodLink RX6 204 yX1_boundOf ∈ lw_g := mg 674 (by decide +kernel) rfl
theorem KRL_69 : Cond.methodLink RL 69 yX6_forced ∈ lw_g := mg 675 (by decide +kernel) rfl
theorem KRX6_207 : Cond.methodLink RX6 207 yX1_keeps ∈ lw_g := mg 679 (by decide +kernel) rfl
theorem KRX6_210 : Cond.methodLink RX6 210 yX1_decidedPairs ∈ lw_g := mg 680 (by decide +kernel) rfl
theorem KRL_73 : Cond.methodLink RL 73 yX6_isForced ∈ lw_g := mg 684 (by decide +kernel) rfl
theorem KRX6_213 : Cond.methodLink RX6 213 yX1_goesAhead ∈ lw_g := mg 688 (by decide +kernel) rfl
theorem KRL_77 : Cond.methodLink RL 77 yX6_best ∈ lw_g := mg 689 (by decide +kernel) rfl
theorem KRL_81 : Cond.methodLink RL 81 yX6_breakdown ∈ lw_g := mg 693 (by decide +kernel) rfl
theorem KRX6_216 : Cond.methodLink RX6 216 yX6_takeBreakdown ∈ lw_g := mg 697 (by decide +kernel) rfl
theorem KRX6_285 : Cond.methodLink RX6 285 yX5_operationAt ∈ lw_g := mg 701 (by decide +kernel) rfl
theorem KRX6_288 : Cond.methodLink RX6 288 yX6_stays ∈ lw_g := mg 702 (by decide +kernel) rfl
theorem KRX6_291 : Cond.methodLink RX6 291 yX1_holdBack ∈ lw_g := mg 706 (by decide +kernel) rfl
theorem KRX6_294 : Cond.methodLink RX6 294 yX1_followOrder ∈ lw_g := mg 710 (by decide +kernel) rfl
theorem KRL_88 : Cond.methodLink RL 88 yX6_put ∈ lw_g := mg 711 (by decide +kernel) rfl
theorem KRX6_220 : Cond.methodLink RX6 220 yX6_signsIn ∈ lw_g := mg 715 (by decide +kernel) rfl
theorem KRX6_226 : Cond.methodLink RX6 226 yX2_append ∈ lw_g := mg 719 (by decide +kernel) rfl
theorem KRL_93 : Cond.methodLink RL 93 yX6_wipe ∈ lw_g := mg 723 (by decide +kernel) rfl
theorem KRL_97 : Cond.methodLink RL 97 yX6_fault ∈ lw_g := mg 727 (by decide +kernel) rfl
theorem KRX6_230 : Cond.methodLink RX6 230 yX2_readRoutes ∈ lw_g := mg 731 (by decide +kernel) rfl
theorem KRX2_25 : Cond.methodLink RX2 25 yX5_clear ∈ lw_g := mg 735 (by decide +kernel) rfl
theorem KRX2_30 : Cond.methodLink RX2 30 yX2_readJob ∈ lw_g := mg 739 (by decide +kernel) rfl
theorem KRX2_34 : Cond.methodLink RX2 34 yX2_take ∈ lw_g := mg 743 (by decide +kernel) rfl
theorem KRX2_38 : Cond.methodLink RX2 38 yX2_number ∈ lw_g := mg 747 (by decide +kernel) rfl
theorem KRX2_49 : Cond.methodLink RX2 49 yX2_digit ∈ lw_g := mg 751 (by decide +kernel) rfl
theorem KRX2_42 : Cond.methodLink RX2 42 yX5_addJob ∈ lw_g := mg 755 (by decide +kernel) rfl
theorem KRX2_45 : Cond.methodLink RX2 45 yX2_readOperation ∈ lw_g := mg 756 (by decide +kernel) rfl
theorem KRX2_53 : Cond.methodLink RX2 53 yX5_operationOf ∈ lw_g := mg 760 (by decide +kernel) rfl
theorem KRX2_56 : Cond.methodLink RX2 56 yX5_addOperation ∈ lw_g := mg 761 (by decide +kernel) rfl
theorem KRX6_234 : Cond.methodLink RX6 234 yX2_readPlan ∈ lw_g := mg 762 (by decide +kernel) rfl
theorem KRX2_60 : Cond.methodLink RX2 60 yX2_readOrder ∈ lw_g := mg 766 (by decide +kernel) rfl
theorem KRX2_63 : Cond.methodLink RX2 63 yX2_names ∈ lw_g := mg 770 (by decide +kernel) rfl
theorem KRX2_67 : Cond.methodLink RX2 67 yX5_jobsInOrder ∈ lw_g := mg 774 (by decide +kernel) rfl
theorem KRX2_71 : Cond.methodLink RX2 71 yX2_anotherJobFor ∈ lw_g := mg 778 (by decide +kernel) rfl
theorem KRX2_74 : Cond.methodLink RX2 74 yX5_append ∈ lw_g := mg 782 (by decide +kernel) rfl
theorem KRL_101 : Cond.methodLink RL 101 yX6_loadRoutes ∈ lw_g := mg 783 (by decide +kernel) rfl
theorem KRX6_237 : Cond.methodLink RX6 237 yX5_become ∈ lw_g := mg 787 (by decide +kernel) rfl
theorem KRL_105 : Cond.methodLink RL 105 yX6_loadPlan ∈ lw_g := mg 788 (by decide +kernel) rfl
theorem KRX6_240 : Cond.methodLink RX6 240 yX2_names ∈ lw_g := mg 792 (by decide +kernel) rfl
theorem KRX6_243 : Cond.methodLink RX6 243 yX5_jobsInOrder ∈ lw_g := mg 793 (by decide +kernel) rfl
theorem KRX6_246 : Cond.methodLink RX6 246 yX5_takeOrder ∈ lw_g := mg 794 (by decide +kernel) rfl
theorem KRL_109 : Cond.methodLink RL 109 yX6_undo ∈ lw_g := mg 798 (by decide +kernel) rfl
theorem KRX6_250 : Cond.methodLink RX6 250 yX0_takeBack ∈ lw_g := mg 802 (by decide +kernel) rfl
theorem KRL_113 : Cond.methodLink RL 113 yX6_save ∈ lw_g := mg 806 (by decide +kernel) rfl
theorem KRL_117 : Cond.methodLink RL 117 yX6_restore ∈ lw_g := mg 810 (by decide +kernel) rfl
theorem KRL_12 : Cond.methodLink RL 12 yX7_init ∈ lw_g := mg 816 (by decide +kernel) rfl
theorem KRL_17 : Cond.methodLink RL 17 yX7_job ∈ lw_g := mg 896 (by decide +kernel) rfl
theorem KRX7_87 : Cond.methodLink RX7 87 yX7_in ∈ lw_g := mg 900 (by decide +kernel) rfl
theorem KRX7_91 : Cond.methodLink RX7 91 yX7_keep ∈ lw_g := mg 903 (by decide +kernel) rfl
theorem KRX7_94 : Cond.methodLink RX7 94 yX7_addJob ∈ lw_g := mg 907 (by decide +kernel) rfl
theorem KRL_22 : Cond.methodLink RL 22 yX7_operation ∈ lw_g := mg 911 (by decide +kernel) rfl
theorem KRX7_65 : Cond.methodLink RX7 65 yX7_isJob ∈ lw_g := mg 915 (by decide +kernel) rfl
theorem KRX7_80 : Cond.methodLink RX7 80 yX7_operationOn ∈ lw_g := mg 919 (by decide +kernel) rfl
theorem KRX7_69 : Cond.methodLink RX7 69 yX7_ofAJob ∈ lw_g := mg 923 (by decide +kernel) rfl
theorem KRX7_73 : Cond.methodLink RX7 73 yX7_machineOf ∈ lw_g := mg 927 (by decide +kernel) rfl
theorem KRX7_98 : Cond.methodLink RX7 98 yX7_addOperation ∈ lw_g := mg 931 (by decide +kernel) rfl
theorem KRL_26 : Cond.methodLink RL 26 yX7_change ∈ lw_g := mg 935 (by decide +kernel) rfl
theorem KRX7_102 : Cond.methodLink RX7 102 yX7_isOperation ∈ lw_g := mg 939 (by decide +kernel) rfl
theorem KRX7_105 : Cond.methodLink RX7 105 yX7_lasts ∈ lw_g := mg 943 (by decide +kernel) rfl
theorem KRL_43 : Cond.methodLink RL 43 yX7_length ∈ lw_g := mg 947 (by decide +kernel) rfl
theorem KRX7_139 : Cond.methodLink RX7 139 yX7_find ∈ lw_g := mg 951 (by decide +kernel) rfl
theorem KRX7_130 : Cond.methodLink RX7 130 yX7_nothingStays ∈ lw_g := mg 955 (by decide +kernel) rfl
theorem KRX7_133 : Cond.methodLink RX7 133 yX7_findHeads ∈ lw_g := mg 959 (by decide +kernel) rfl
theorem KRX7_117 : Cond.methodLink RX7 117 yX7_operationAt ∈ lw_g := mg 963 (by decide +kernel) rfl
theorem KRX7_77 : Cond.methodLink RX7 77 yX7_jobAt ∈ lw_g := mg 967 (by decide +kernel) rfl
theorem KRX7_120 : Cond.methodLink RX7 120 yX7_raiseHead ∈ lw_g := mg 971 (by decide +kernel) rfl
theorem KRX7_108 : Cond.methodLink RX7 108 yX7_greater ∈ lw_g := mg 975 (by decide +kernel) rfl
theorem KRX7_111 : Cond.methodLink RX7 111 yX7_beforeOnRoute ∈ lw_g := mg 978 (by decide +kernel) rfl
theorem KRX7_114 : Cond.methodLink RX7 114 yX7_endOf ∈ lw_g := mg 982 (by decide +kernel) rfl
theorem KRX7_136 : Cond.methodLink RX7 136 yX7_findTails ∈ lw_g := mg 986 (by decide +kernel) rfl
theorem KRX7_124 : Cond.methodLink RX7 124 yX7_behindOnRoute ∈ lw_g := mg 990 (by decide +kernel) rfl
theorem KRX7_127 : Cond.methodLink RX7 127 yX7_withTail ∈ lw_g := mg 994 (by decide +kernel) rfl
theorem KRX7_143 : Cond.methodLink RX7 143 yX7_lastEnd ∈ lw_g := mg 998 (by decide +kernel) rfl
theorem KRL_30 : Cond.methodLink RL 30 yX7_swap ∈ lw_g := mg 1002 (by decide +kernel) rfl
theorem KRX7_162 : Cond.methodLink RX7 162 yX7_exchange ∈ lw_g := mg 1006 (by decide +kernel) rfl
theorem KRL_39 : Cond.methodLink RL 39 yX7_improve ∈ lw_g := mg 1010 (by decide +kernel) rfl
theorem KRX7_165 : Cond.methodLink RX7 165 yX7_findCritical ∈ lw_g := mg 1014 (by decide +kernel) rfl
theorem KRX7_150 : Cond.methodLink RX7 150 yX7_isCritical ∈ lw_g := mg 1018 (by decide +kernel) rfl
theorem KRX7_147 : Cond.methodLink RX7 147 yX7_throughOf ∈ lw_g := mg 1022 (by decide +kernel) rfl
theorem KRX7_156 : Cond.methodLink RX7 156 yX7_placeOf ∈ lw_g := mg 1026 (by decide +kernel) rfl
theorem KRX7_159 : Cond.methodLink RX7 159 yX7_goesOn ∈ lw_g := mg 1030 (by decide +kernel) rfl
theorem KRL_35 : Cond.methodLink RL 35 yX7_takeBest ∈ lw_g := mg 1034 (by decide +kernel) rfl
theorem KRX7_192 : Cond.methodLink RX7 192 yX7_findBest ∈ lw_g := mg 1038 (by decide +kernel) rfl
theorem KRX7_179 : Cond.methodLink RX7 179 yX7_keepOrders ∈ lw_g := mg 1042 (by decide +kernel) rfl
theorem KRX7_182 : Cond.methodLink RX7 182 yX7_layPlans ∈ lw_g := mg 1046 (by decide +kernel) rfl
theorem KRX7_168 : Cond.methodLink RX7 168 yX7_nextPlan ∈ lw_g := mg 1050 (by decide +kernel) rfl
theorem KRX7_185 : Cond.methodLink RX7 185 yX7_search ∈ lw_g := mg 1054 (by decide +kernel) rfl
theorem KRX7_172 : Cond.methodLink RX7 172 yX7_layTried ∈ lw_g := mg 1059 (by decide +kernel) rfl
theorem KRX7_176 : Cond.methodLink RX7 176 yX7_keepFound ∈ lw_g := mg 1063 (by decide +kernel) rfl
theorem KRX7_188 : Cond.methodLink RX7 188 yX7_putOrders ∈ lw_g := mg 1067 (by decide +kernel) rfl
theorem KRL_80 : Cond.methodLink RL 80 yX7_best ∈ lw_g := mg 1071 (by decide +kernel) rfl
theorem KRX7_195 : Cond.methodLink RX7 195 yX7_foundAt ∈ lw_g := mg 1075 (by decide +kernel) rfl
theorem KRL_85 : Cond.methodLink RL 85 yX7_breakdown ∈ lw_g := mg 1079 (by decide +kernel) rfl
theorem KRX7_198 : Cond.methodLink RX7 198 yX7_layStays ∈ lw_g := mg 1083 (by decide +kernel) rfl
theorem KRL_47 : Cond.methodLink RL 47 yX7_about ∈ lw_g := mg 1087 (by decide +kernel) rfl
theorem KRX7_202 : Cond.methodLink RX7 202 yX7_placeOnPath ∈ lw_g := mg 1091 (by decide +kernel) rfl
theorem KRL_52 : Cond.methodLink RL 52 yX7_path ∈ lw_g := mg 1095 (by decide +kernel) rfl
theorem KRL_56 : Cond.methodLink RL 56 yX7_order ∈ lw_g := mg 1099 (by decide +kernel) rfl
theorem KRL_60 : Cond.methodLink RL 60 yX7_ofJob ∈ lw_g := mg 1103 (by decide +kernel) rfl
theorem KRX7_208 : Cond.methodLink RX7 208 yX7_sumOf ∈ lw_g := mg 1107 (by decide +kernel) rfl
theorem KRX7_205 : Cond.methodLink RX7 205 yX7_endOfJob ∈ lw_g := mg 1111 (by decide +kernel) rfl
theorem KRX7_211 : Cond.methodLink RX7 211 yX7_lateness ∈ lw_g := mg 1115 (by decide +kernel) rfl
theorem KRL_64 : Cond.methodLink RL 64 yX7_count ∈ lw_g := mg 1119 (by decide +kernel) rfl
theorem KRX7_217 : Cond.methodLink RX7 217 yX7_ofPlan ∈ lw_g := mg 1123 (by decide +kernel) rfl
theorem KRX7_214 : Cond.methodLink RX7 214 yX7_blocks ∈ lw_g := mg 1127 (by decide +kernel) rfl
theorem KRX7_220 : Cond.methodLink RX7 220 yX7_sumOfAll ∈ lw_g := mg 1131 (by decide +kernel) rfl
theorem KRL_68 : Cond.methodLink RL 68 yX7_bound ∈ lw_g := mg 1135 (by decide +kernel) rfl
theorem KRX7_236 : Cond.methodLink RX7 236 yX7_boundOf ∈ lw_g := mg 1139 (by decide +kernel) rfl
theorem KRX7_233 : Cond.methodLink RX7 233 yX7_workedOn ∈ lw_g := mg 1143 (by decide +kernel) rfl
theorem KRX7_227 : Cond.methodLink RX7 227 yX7_headAlone ∈ lw_g := mg 1147 (by decide +kernel) rfl
theorem KRX7_230 : Cond.methodLink RX7 230 yX7_tailAlone ∈ lw_g := mg 1151 (by decide +kernel) rfl
theorem KRL_72 : Cond.methodLink RL 72 yX7_forced ∈ lw_g := mg 1155 (by decide +kernel) rfl
theorem KRX7_257 : Cond.methodLink RX7 257 yX7_force ∈ lw_g := mg 1159 (by decide +kernel) rfl
theorem KRX7_248 : Cond.methodLink RX7 248 yX7_findForced ∈ lw_g := mg 1163 (by decide +kernel) rfl
theorem KRX7_242 : Cond.methodLink RX7 242 yX7_headBy ∈ lw_g := mg 1167 (by decide +kernel) rfl
theorem KRX7_239 : Cond.methodLink RX7 239 yX7_isSet ∈ lw_g := mg 1171 (by decide +kernel) rfl
theorem KRX7_245 : Cond.methodLink RX7 245 yX7_tailBy ∈ lw_g := mg 1175 (by decide +kernel) rfl
theorem KRX7_251 : Cond.methodLink RX7 251 yX7_areTwo ∈ lw_g := mg 1179 (by decide +kernel) rfl
theorem KRX7_254 : Cond.methodLink RX7 254 yX7_isForcedBoth ∈ lw_g := mg 1183 (by decide +kernel) rfl
theorem KRL_76 : Cond.methodLink RL 76 yX7_isForced ∈ lw_g := mg 1187 (by decide +kernel) rfl
theorem KRL_92 : Cond.methodLink RL 92 yX7_put ∈ lw_g := mg 1191 (by decide +kernel) rfl
theorem KRL_96 : Cond.methodLink RL 96 yX7_wipe ∈ lw_g := mg 1196 (by decide +kernel) rfl
theorem KRL_100 : Cond.methodLink RL 100 yX7_fault ∈ lw_g := mg 1200 (by decide +kernel) rfl
theorem KRX7_296 : Cond.methodLink RX7 296 yX7_faultOf ∈ lw_g := mg 1204 (by decide +kernel) rfl
theorem KRX7_293 : Cond.methodLink RX7 293 yX7_takePart ∈ lw_g := mg 1208 (by decide +kernel) rfl
theorem KRX7_287 : Cond.methodLink RX7 287 yX7_takeRoute ∈ lw_g := mg 1212 (by decide +kernel) rfl
theorem KRX7_275 : Cond.methodLink RX7 275 yX7_need ∈ lw_g := mg 1216 (by decide +kernel) rfl
theorem KRX7_269 : Cond.methodLink RX7 269 yX7_next ∈ lw_g := mg 1220 (by decide +kernel) rfl
theorem KRX7_278 : Cond.methodLink RX7 278 yX7_takeNumber ∈ lw_g := mg 1224 (by decide +kernel) rfl
theorem KRX7_281 : Cond.methodLink RX7 281 yX7_takeDigit ∈ lw_g := mg 1228 (by decide +kernel) rfl
theorem KRX7_290 : Cond.methodLink RX7 290 yX7_takeOrder ∈ lw_g := mg 1232 (by decide +kernel) rfl
theorem KRL_104 : Cond.methodLink RL 104 yX7_loadRoutes ∈ lw_g := mg 1236 (by decide +kernel) rfl
theorem KRL_108 : Cond.methodLink RL 108 yX7_loadPlan ∈ lw_g := mg 1240 (by decide +kernel) rfl
theorem KRX7_299 : Cond.methodLink RX7 299 yX7_fitsOrder ∈ lw_g := mg 1244 (by decide +kernel) rfl
theorem KRL_112 : Cond.methodLink RL 112 yX7_undo ∈ lw_g := mg 1248 (by decide +kernel) rfl
theorem KRL_116 : Cond.methodLink RL 116 yX7_save ∈ lw_g := mg 1252 (by decide +kernel) rfl
theorem KRL_120 : Cond.methodLink RL 120 yX7_restore ∈ lw_g := mg 1256 (by decide +kernel) rfl
def frX0 : Nat → Option (Nat × Nat × Int)
  | 11 => some (0, 0, 0)
  | 18 => some (0, 2, 2)
  | 26 => some (0, 1, 1)
  | _ => none
theorem frX0_ok : FldOK RX0 frX0 := by
  intro k t j z h
  unfold frX0 at h
  split at h
  · cases h; exact ⟨_, rfl, rfl, by decide, mg 171 (by decide +kernel) rfl⟩
  · cases h; exact ⟨_, rfl, rfl, by decide, mg 174 (by decide +kernel) rfl⟩
  · cases h; exact ⟨_, rfl, rfl, by decide, mg 172 (by decide +kernel) rfl⟩
  · cases h
def frX1 : Nat → Option (Nat × Nat × Int)
  | 9 => some (1, 0, 0)
  | 15 => some (1, 1, 1)
  | 18 => some (1, 2, 2)
  | 21 => some (1, 3, 3)
  | 24 => some (1, 4, 4)
  | 27 => some (1, 5, 5)
  | 30 => some (1, 6, 6)
  | 33 => some (1, 7, 7)
  | 36 => some (1, 10, 10)
  | 39 => some (1, 12, 12)
  | 42 => some (1, 13, 13)
  | 45 => some (1, 14, 14)
  | 48 => some (1, 9, 9)
  | 52 => some (5, 3, 3)
  | 59 => some (5, 4, 4)
  | 60 => some (5, 5, 5)
  | 61 => some (5, 1, 1)
  | 64 => some (5, 6, 6)
  | 75 => some (5, 7, 7)
  | 89 => some (1, 8, 8)
  | 92 => some (1, 11, 11)
  | _ => none
theorem frX1_ok : FldOK RX1 frX1 := by
  intro k t j z h
  unfold frX1 at h
  split at h
  · cases h; exact ⟨_, rfl, rfl, by decide, mg 210 (by decide +kernel) rfl⟩
  · cases h; exact ⟨_, rfl, rfl, by decide, mg 211 (by decide +kernel) rfl⟩
  · cases h; exact ⟨_, rfl, rfl, by decide, mg 212 (by decide +kernel) rfl⟩
  · cases h; exact ⟨_, rfl, rfl, by decide, mg 213 (by decide +kernel) rfl⟩
  · cases h; exact ⟨_, rfl, rfl, by decide, mg 214 (by decide +kernel) rfl⟩
  · cases h; exact ⟨_, rfl, rfl, by decide, mg 216 (by decide +kernel) rfl⟩
  · cases h; exact ⟨_, rfl, rfl, by decide, mg 218 (by decide +kernel) rfl⟩
  · cases h; exact ⟨_, rfl, rfl, by decide, mg 221 (by decide +kernel) rfl⟩
  · cases h; exact ⟨_, rfl, rfl, by decide, mg 226 (by decide +kernel) rfl⟩
  · cases h; exact ⟨_, rfl, rfl, by decide, mg 228 (by decide +kernel) rfl⟩
  · cases h; exact ⟨_, rfl, rfl, by decide, mg 229 (by decide +kernel) rfl⟩
  · cases h; exact ⟨_, rfl, rfl, by decide, mg 230 (by decide +kernel) rfl⟩
  · cases h; exact ⟨_, rfl, rfl, by decide, mg 225 (by decide +kernel) rfl⟩
  · cases h; exact ⟨_, rfl, rfl, by decide, mg 128 (by decide +kernel) rfl⟩
  · cases h; exact ⟨_, rfl, rfl, by decide, mg 132 (by decide +kernel) rfl⟩
  · cases h; exact ⟨_, rfl, rfl, by decide, mg 136 (by decide +kernel) rfl⟩
  · cases h; exact ⟨_, rfl, rfl, by decide, mg 122 (by decide +kernel) rfl⟩
  · cases h; exact ⟨_, rfl, rfl, by decide, mg 139 (by decide +kernel) rfl⟩
  · cases h; exact ⟨_, rfl, rfl, by decide, mg 142 (by decide +kernel) rfl⟩
  · cases h; exact ⟨_, rfl, rfl, by decide, mg 224 (by decide +kernel) rfl⟩
  · cases h; exact ⟨_, rfl, rfl, by decide, mg 227 (by decide +kernel) rfl⟩
  · cases h
def frX2 : Nat → Option (Nat × Nat × Int)
  | 9 => some (2, 0, 0)
  | 15 => some (2, 1, 1)
  | 19 => some (2, 3, 3)
  | 22 => some (2, 2, 2)
  | _ => none
theorem frX2_ok : FldOK RX2 frX2 := by
  intro k t j z h
  unfold frX2 at h
  split at h
  · cases h; exact ⟨_, rfl, rfl, by decide, mg 188 (by decide +kernel) rfl⟩
  · cases h; exact ⟨_, rfl, rfl, by decide, mg 189 (by decide +kernel) rfl⟩
  · cases h; exact ⟨_, rfl, rfl, by decide, mg 192 (by decide +kernel) rfl⟩
  · cases h; exact ⟨_, rfl, rfl, by decide, mg 191 (by decide +kernel) rfl⟩
  · cases h
def frX3 : Nat → Option (Nat × Nat × Int)
  | 9 => some (3, 0, 0)
  | 15 => some (3, 1, 1)
  | 39 => some (1, 6, 6)
  | 42 => some (5, 1, 1)
  | 48 => some (5, 3, 3)
  | 58 => some (5, 4, 4)
  | _ => none
theorem frX3_ok : FldOK RX3 frX3 := by
  intro k t j z h
  unfold frX3 at h
  split at h
  · cases h; exact ⟨_, rfl, rfl, by decide, mg 268 (by decide +kernel) rfl⟩
  · cases h; exact ⟨_, rfl, rfl, by decide, mg 270 (by decide +kernel) rfl⟩
  · cases h; exact ⟨_, rfl, rfl, by decide, mg 219 (by decide +kernel) rfl⟩
  · cases h; exact ⟨_, rfl, rfl, by decide, mg 123 (by decide +kernel) rfl⟩
  · cases h; exact ⟨_, rfl, rfl, by decide, mg 129 (by decide +kernel) rfl⟩
  · cases h; exact ⟨_, rfl, rfl, by decide, mg 133 (by decide +kernel) rfl⟩
  · cases h
def frX4 : Nat → Option (Nat × Nat × Int)
  | 12 => some (4, 0, 0)
  | 18 => some (4, 3, 3)
  | 22 => some (4, 4, 4)
  | 25 => some (4, 5, 5)
  | 28 => some (4, 6, 6)
  | 33 => some (4, 7, 7)
  | 36 => some (4, 1, 1)
  | 40 => some (1, 5, 5)
  | 55 => some (4, 2, 2)
  | 74 => some (1, 4, 4)
  | _ => none
theorem frX4_ok : FldOK RX4 frX4 := by
  intro k t j z h
  unfold frX4 at h
  split at h
  · cases h; exact ⟨_, rfl, rfl, by decide, mg 287 (by decide +kernel) rfl⟩
  · cases h; exact ⟨_, rfl, rfl, by decide, mg 293 (by decide +kernel) rfl⟩
  · cases h; exact ⟨_, rfl, rfl, by decide, mg 295 (by decide +kernel) rfl⟩
  · cases h; exact ⟨_, rfl, rfl, by decide, mg 296 (by decide +kernel) rfl⟩
  · cases h; exact ⟨_, rfl, rfl, by decide, mg 297 (by decide +kernel) rfl⟩
  · cases h; exact ⟨_, rfl, rfl, by decide, mg 298 (by decide +kernel) rfl⟩
  · cases h; exact ⟨_, rfl, rfl, by decide, mg 289 (by decide +kernel) rfl⟩
  · cases h; exact ⟨_, rfl, rfl, by decide, mg 217 (by decide +kernel) rfl⟩
  · cases h; exact ⟨_, rfl, rfl, by decide, mg 291 (by decide +kernel) rfl⟩
  · cases h; exact ⟨_, rfl, rfl, by decide, mg 215 (by decide +kernel) rfl⟩
  · cases h
def frX5 : Nat → Option (Nat × Nat × Int)
  | 9 => some (5, 1, 1)
  | 15 => some (5, 2, 2)
  | 18 => some (5, 3, 3)
  | 21 => some (5, 4, 4)
  | 24 => some (5, 5, 5)
  | 27 => some (5, 6, 6)
  | 30 => some (5, 7, 7)
  | 33 => some (5, 0, 0)
  | _ => none
theorem frX5_ok : FldOK RX5 frX5 := by
  intro k t j z h
  unfold frX5 at h
  split at h
  · cases h; exact ⟨_, rfl, rfl, by decide, mg 121 (by decide +kernel) rfl⟩
  · cases h; exact ⟨_, rfl, rfl, by decide, mg 125 (by decide +kernel) rfl⟩
  · cases h; exact ⟨_, rfl, rfl, by decide, mg 127 (by decide +kernel) rfl⟩
  · cases h; exact ⟨_, rfl, rfl, by decide, mg 131 (by decide +kernel) rfl⟩
  · cases h; exact ⟨_, rfl, rfl, by decide, mg 135 (by decide +kernel) rfl⟩
  · cases h; exact ⟨_, rfl, rfl, by decide, mg 138 (by decide +kernel) rfl⟩
  · cases h; exact ⟨_, rfl, rfl, by decide, mg 141 (by decide +kernel) rfl⟩
  · cases h; exact ⟨_, rfl, rfl, by decide, mg 119 (by decide +kernel) rfl⟩
  · cases h
def frX6 : Nat → Option (Nat × Nat × Int)
  | 10 => some (6, 0, 0)
  | 16 => some (6, 1, 1)
  | 22 => some (6, 2, 2)
  | 26 => some (6, 3, 3)
  | 30 => some (6, 4, 4)
  | 37 => some (6, 5, 5)
  | 44 => some (6, 6, 6)
  | 51 => some (6, 7, 7)
  | 55 => some (6, 10, 10)
  | 61 => some (6, 11, 11)
  | 65 => some (6, 12, 12)
  | 72 => some (5, 0, 0)
  | 100 => some (5, 5, 5)
  | 104 => some (5, 6, 6)
  | 115 => some (4, 0, 0)
  | 125 => some (4, 3, 3)
  | 128 => some (5, 7, 7)
  | 135 => some (4, 2, 2)
  | 138 => some (1, 8, 8)
  | 141 => some (3, 1, 1)
  | 144 => some (3, 0, 0)
  | 147 => some (5, 4, 4)
  | 164 => some (5, 1, 1)
  | 167 => some (5, 2, 2)
  | 170 => some (5, 3, 3)
  | 189 => some (2, 1, 1)
  | 192 => some (0, 1, 1)
  | 259 => some (6, 8, 8)
  | 263 => some (4, 1, 1)
  | 269 => some (6, 9, 9)
  | 276 => some (6, 13, 13)
  | 279 => some (6, 14, 14)
  | 282 => some (6, 15, 15)
  | 301 => some (1, 6, 6)
  | 304 => some (1, 7, 7)
  | _ => none
theorem frX6_ok : FldOK RX6 frX6 := by
  intro k t j z h
  unfold frX6 at h
  split at h
  · cases h; exact ⟨_, rfl, rfl, by decide, mg 316 (by decide +kernel) rfl⟩
  · cases h; exact ⟨_, rfl, rfl, by decide, mg 317 (by decide +kernel) rfl⟩
  · cases h; exact ⟨_, rfl, rfl, by decide, mg 318 (by decide +kernel) rfl⟩
  · cases h; exact ⟨_, rfl, rfl, by decide, mg 319 (by decide +kernel) rfl⟩
  · cases h; exact ⟨_, rfl, rfl, by decide, mg 320 (by decide +kernel) rfl⟩
  · cases h; exact ⟨_, rfl, rfl, by decide, mg 321 (by decide +kernel) rfl⟩
  · cases h; exact ⟨_, rfl, rfl, by decide, mg 322 (by decide +kernel) rfl⟩
  · cases h; exact ⟨_, rfl, rfl, by decide, mg 323 (by decide +kernel) rfl⟩
  · cases h; exact ⟨_, rfl, rfl, by decide, mg 326 (by decide +kernel) rfl⟩
  · cases h; exact ⟨_, rfl, rfl, by decide, mg 327 (by decide +kernel) rfl⟩
  · cases h; exact ⟨_, rfl, rfl, by decide, mg 328 (by decide +kernel) rfl⟩
  · cases h; exact ⟨_, rfl, rfl, by decide, mg 120 (by decide +kernel) rfl⟩
  · cases h; exact ⟨_, rfl, rfl, by decide, mg 137 (by decide +kernel) rfl⟩
  · cases h; exact ⟨_, rfl, rfl, by decide, mg 140 (by decide +kernel) rfl⟩
  · cases h; exact ⟨_, rfl, rfl, by decide, mg 288 (by decide +kernel) rfl⟩
  · cases h; exact ⟨_, rfl, rfl, by decide, mg 294 (by decide +kernel) rfl⟩
  · cases h; exact ⟨_, rfl, rfl, by decide, mg 143 (by decide +kernel) rfl⟩
  · cases h; exact ⟨_, rfl, rfl, by decide, mg 292 (by decide +kernel) rfl⟩
  · cases h; exact ⟨_, rfl, rfl, by decide, mg 223 (by decide +kernel) rfl⟩
  · cases h; exact ⟨_, rfl, rfl, by decide, mg 271 (by decide +kernel) rfl⟩
  · cases h; exact ⟨_, rfl, rfl, by decide, mg 269 (by decide +kernel) rfl⟩
  · cases h; exact ⟨_, rfl, rfl, by decide, mg 134 (by decide +kernel) rfl⟩
  · cases h; exact ⟨_, rfl, rfl, by decide, mg 124 (by decide +kernel) rfl⟩
  · cases h; exact ⟨_, rfl, rfl, by decide, mg 126 (by decide +kernel) rfl⟩
  · cases h; exact ⟨_, rfl, rfl, by decide, mg 130 (by decide +kernel) rfl⟩
  · cases h; exact ⟨_, rfl, rfl, by decide, mg 190 (by decide +kernel) rfl⟩
  · cases h; exact ⟨_, rfl, rfl, by decide, mg 173 (by decide +kernel) rfl⟩
  · cases h; exact ⟨_, rfl, rfl, by decide, mg 324 (by decide +kernel) rfl⟩
  · cases h; exact ⟨_, rfl, rfl, by decide, mg 290 (by decide +kernel) rfl⟩
  · cases h; exact ⟨_, rfl, rfl, by decide, mg 325 (by decide +kernel) rfl⟩
  · cases h; exact ⟨_, rfl, rfl, by decide, mg 329 (by decide +kernel) rfl⟩
  · cases h; exact ⟨_, rfl, rfl, by decide, mg 330 (by decide +kernel) rfl⟩
  · cases h; exact ⟨_, rfl, rfl, by decide, mg 331 (by decide +kernel) rfl⟩
  · cases h; exact ⟨_, rfl, rfl, by decide, mg 220 (by decide +kernel) rfl⟩
  · cases h; exact ⟨_, rfl, rfl, by decide, mg 222 (by decide +kernel) rfl⟩
  · cases h
def frX7 : Nat → Option (Nat × Nat × Int)
  | 7 => some (7, 0, 0)
  | 13 => some (7, 1, 1)
  | 16 => some (7, 3, 3)
  | 19 => some (7, 4, 4)
  | 23 => some (7, 5, 5)
  | 26 => some (7, 7, 7)
  | 29 => some (7, 8, 8)
  | 32 => some (7, 9, 9)
  | 35 => some (7, 10, 10)
  | 38 => some (7, 11, 11)
  | 41 => some (7, 13, 13)
  | 44 => some (7, 14, 14)
  | 47 => some (7, 15, 15)
  | 50 => some (7, 16, 16)
  | 53 => some (7, 17, 17)
  | 56 => some (7, 18, 18)
  | 59 => some (7, 19, 19)
  | 62 => some (7, 22, 22)
  | 83 => some (7, 2, 2)
  | 153 => some (7, 12, 12)
  | 224 => some (7, 6, 6)
  | 262 => some (7, 20, 20)
  | 265 => some (7, 21, 21)
  | 272 => some (7, 23, 23)
  | 284 => some (7, 24, 24)
  | _ => none
theorem frX7_ok : FldOK RX7 frX7 := by
  intro k t j z h
  unfold frX7 at h
  split at h
  · cases h; exact ⟨_, rfl, rfl, by decide, mg 820 (by decide +kernel) rfl⟩
  · cases h; exact ⟨_, rfl, rfl, by decide, mg 821 (by decide +kernel) rfl⟩
  · cases h; exact ⟨_, rfl, rfl, by decide, mg 823 (by decide +kernel) rfl⟩
  · cases h; exact ⟨_, rfl, rfl, by decide, mg 824 (by decide +kernel) rfl⟩
  · cases h; exact ⟨_, rfl, rfl, by decide, mg 825 (by decide +kernel) rfl⟩
  · cases h; exact ⟨_, rfl, rfl, by decide, mg 827 (by decide +kernel) rfl⟩
  · cases h; exact ⟨_, rfl, rfl, by decide, mg 828 (by decide +kernel) rfl⟩
  · cases h; exact ⟨_, rfl, rfl, by decide, mg 829 (by decide +kernel) rfl⟩
  · cases h; exact ⟨_, rfl, rfl, by decide, mg 830 (by decide +kernel) rfl⟩
  · cases h; exact ⟨_, rfl, rfl, by decide, mg 831 (by decide +kernel) rfl⟩
  · cases h; exact ⟨_, rfl, rfl, by decide, mg 833 (by decide +kernel) rfl⟩
  · cases h; exact ⟨_, rfl, rfl, by decide, mg 834 (by decide +kernel) rfl⟩
  · cases h; exact ⟨_, rfl, rfl, by decide, mg 835 (by decide +kernel) rfl⟩
  · cases h; exact ⟨_, rfl, rfl, by decide, mg 836 (by decide +kernel) rfl⟩
  · cases h; exact ⟨_, rfl, rfl, by decide, mg 837 (by decide +kernel) rfl⟩
  · cases h; exact ⟨_, rfl, rfl, by decide, mg 838 (by decide +kernel) rfl⟩
  · cases h; exact ⟨_, rfl, rfl, by decide, mg 839 (by decide +kernel) rfl⟩
  · cases h; exact ⟨_, rfl, rfl, by decide, mg 842 (by decide +kernel) rfl⟩
  · cases h; exact ⟨_, rfl, rfl, by decide, mg 822 (by decide +kernel) rfl⟩
  · cases h; exact ⟨_, rfl, rfl, by decide, mg 832 (by decide +kernel) rfl⟩
  · cases h; exact ⟨_, rfl, rfl, by decide, mg 826 (by decide +kernel) rfl⟩
  · cases h; exact ⟨_, rfl, rfl, by decide, mg 840 (by decide +kernel) rfl⟩
  · cases h; exact ⟨_, rfl, rfl, by decide, mg 841 (by decide +kernel) rfl⟩
  · cases h; exact ⟨_, rfl, rfl, by decide, mg 843 (by decide +kernel) rfl⟩
  · cases h; exact ⟨_, rfl, rfl, by decide, mg 844 (by decide +kernel) rfl⟩
  · cases h
def kcL : Nat → Option Int
  | _ => none
def klL : Nat → Option Int64
  | 86 => some (4294967295)
  | _ => none
theorem cstL_ok : CstOK RL kcL klL := by
  refine ⟨fun k x h => ?_, fun k x h => ?_⟩
  · cases h
  · unfold klL at h
    split at h
    · cases h; exact mg 1260 (by decide +kernel) rfl
    · cases h
def kcX0 : Nat → Option Int
  | _ => none
def klX0 : Nat → Option Int64
  | _ => none
theorem cstX0_ok : CstOK RX0 kcX0 klX0 := by
  refine ⟨fun k x h => ?_, fun k x h => ?_⟩
  · cases h
  · cases h
def kcX1 : Nat → Option Int
  | _ => none
def klX1 : Nat → Option Int64
  | _ => none
theorem cstX1_ok : CstOK RX1 kcX1 klX1 := by
  refine ⟨fun k x h => ?_, fun k x h => ?_⟩
  · cases h
  · cases h
def kcX2 : Nat → Option Int
  | _ => none
def klX2 : Nat → Option Int64
  | _ => none
theorem cstX2_ok : CstOK RX2 kcX2 klX2 := by
  refine ⟨fun k x h => ?_, fun k x h => ?_⟩
  · cases h
  · cases h
def kcX3 : Nat → Option Int
  | _ => none
def klX3 : Nat → Option Int64
  | _ => none
theorem cstX3_ok : CstOK RX3 kcX3 klX3 := by
  refine ⟨fun k x h => ?_, fun k x h => ?_⟩
  · cases h
  · cases h
def kcX4 : Nat → Option Int
  | _ => none
def klX4 : Nat → Option Int64
  | _ => none
theorem cstX4_ok : CstOK RX4 kcX4 klX4 := by
  refine ⟨fun k x h => ?_, fun k x h => ?_⟩
  · cases h
  · cases h
def kcX5 : Nat → Option Int
  | _ => none
def klX5 : Nat → Option Int64
  | _ => none
theorem cstX5_ok : CstOK RX5 kcX5 klX5 := by
  refine ⟨fun k x h => ?_, fun k x h => ?_⟩
  · cases h
  · cases h
def kcX6 : Nat → Option Int
  | _ => none
def klX6 : Nat → Option Int64
  | 224 => some (255)
  | _ => none
theorem cstX6_ok : CstOK RX6 kcX6 klX6 := by
  refine ⟨fun k x h => ?_, fun k x h => ?_⟩
  · cases h
  · unfold klX6 at h
    split at h
    · cases h; exact mg 718 (by decide +kernel) rfl
    · cases h
def kcX7 : Nat → Option Int
  | 171 => some (1000000)
  | _ => none
def klX7 : Nat → Option Int64
  | 260 => some (255)
  | _ => none
theorem cstX7_ok : CstOK RX7 kcX7 klX7 := by
  refine ⟨fun k x h => ?_, fun k x h => ?_⟩
  · unfold kcX7 at h
    split at h
    · cases h; exact ⟨by constructor <;> decide, mg 1058 (by decide +kernel) rfl⟩
    · cases h
  · unfold klX7 at h
    split at h
    · cases h; exact mg 1195 (by decide +kernel) rfl
    · cases h
