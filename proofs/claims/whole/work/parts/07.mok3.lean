theorem x_mk_Paths_strayOnce : x_mkC tb_Paths_strayOnce (7, yX7_strayOnce, cX7_strayOnce, none, 0, false) 1064 103 1063 25 = true := by decide +kernel
theorem x_mk_Rule_setUsual : x_mkC tb_Rule_setUsual (8, yX8_setUsual, cX8_setUsual, none, 0, false) 271 100 270 2 = true := by decide +kernel
theorem x_mk_Rule_take : x_mkC tb_Rule_take (8, yX8_take, cX8_take, none, 1, false) 646 100 644 645 = true := by decide +kernel
theorem x_mk_Rule_reads : x_mkC tb_Rule_reads (8, yX8_reads, cX8_reads, (some .boolean), 1, false) 597 100 595 596 = true := by decide +kernel
theorem x_mk_Rule_readsThing : x_mkC tb_Rule_readsThing (8, yX8_readsThing, cX8_readsThing, (some .boolean), 1, false) 604 100 603 6 = true := by decide +kernel
theorem x_mk_Rule_opensBracket : x_mkC tb_Rule_opensBracket (8, yX8_opensBracket, cX8_opensBracket, (some .boolean), 1, false) 613 100 612 8 = true := by decide +kernel
theorem x_mk_Rule_readNumber : x_mkC tb_Rule_readNumber (8, yX8_readNumber, cX8_readNumber, none, 1, false) 618 100 617 9 = true := by decide +kernel
theorem x_mk_Rule_readsSign : x_mkC tb_Rule_readsSign (8, yX8_readsSign, cX8_readsSign, (some .boolean), 1, false) 630 100 629 11 = true := by decide +kernel
theorem x_mk_Rule_closesBracket : x_mkC tb_Rule_closesBracket (8, yX8_closesBracket, cX8_closesBracket, (some .boolean), 1, false) 634 100 633 12 = true := by decide +kernel
theorem x_mk_Rule_strengthOf : x_mkC tb_Rule_strengthOf (8, yX8_strengthOf, cX8_strengthOf, (some .int), 1, true) 641 100 640 0 = true := by decide +kernel
theorem x_mk_Rule_thingBySign : x_mkC tb_Rule_thingBySign (8, yX8_thingBySign, cX8_thingBySign, (some .int), 1, true) 626 100 625 0 = true := by decide +kernel
theorem x_mk_Rule_settle : x_mkC tb_Rule_settle (8, yX8_settle, cX8_settle, none, 1, false) 638 100 637 13 = true := by decide +kernel
theorem x_mk_Rule_hold : x_mkC tb_Rule_hold (8, yX8_hold, cX8_hold, none, 1, false) 608 100 607 7 = true := by decide +kernel
theorem x_mk_Rule_add : x_mkC tb_Rule_add (8, yX8_add, cX8_add, none, 1, false) 623 100 622 10 = true := by decide +kernel
theorem x_mk_Rule_reckon : x_mkC tb_Rule_reckon (8, yX8_reckon, cX8_reckon, (some .int), 1, false) 735 100 733 734 = true := by decide +kernel
theorem x_mk_Rule_release : x_mkC tb_Rule_release (8, yX8_release, cX8_release, (some .int), 0, false) 739 100 738 15 = true := by decide +kernel
theorem x_mk_Rule_join : x_mkC tb_Rule_join (8, yX8_join, cX8_join, (some .int), 3, true) 742 100 741 0 = true := by decide +kernel
theorem x_mk_Search_begin : x_mkC tb_Search_begin (9, yX9_begin, cX9_begin, none, 1, false) 998 104 996 997 = true := by decide +kernel
theorem x_mk_Search_viewsIn : x_mkC tb_Search_viewsIn (9, yX9_viewsIn, cX9_viewsIn, (some .int), 1, true) 1013 104 1012 0 = true := by decide +kernel
theorem x_mk_Search_wayInCode : x_mkC tb_Search_wayInCode (9, yX9_wayInCode, cX9_wayInCode, (some .int), 3, true) 1051 104 1050 0 = true := by decide +kernel
theorem x_mk_Search_pushed : x_mkC tb_Search_pushed (9, yX9_pushed, cX9_pushed, (some .int), 2, false) 1009 104 1008 23 = true := by decide +kernel
theorem x_mk_Search_follow : x_mkC tb_Search_follow (9, yX9_follow, cX9_follow, (some .int), 2, false) 1048 104 1046 1047 = true := by decide +kernel
theorem x_mk_Search_spread : x_mkC tb_Search_spread (9, yX9_spread, cX9_spread, none, 0, false) 1005 104 1003 1004 = true := by decide +kernel
theorem x_mk_Search_firstWith : x_mkC tb_Search_firstWith (9, yX9_firstWith, cX9_firstWith, (some .int), 1, false) 1019 104 1017 1018 = true := by decide +kernel
theorem x_mk_Search_firstWithMost : x_mkC tb_Search_firstWithMost (9, yX9_firstWithMost, cX9_firstWithMost, (some .int), 0, false) 1039 104 1037 1038 = true := by decide +kernel
theorem x_mk_Search_originOf : x_mkC tb_Search_originOf (9, yX9_originOf, cX9_originOf, (some .int), 1, false) 1027 104 1026 24 = true := by decide +kernel
theorem x_mk_Search_stepsTo : x_mkC tb_Search_stepsTo (9, yX9_stepsTo, cX9_stepsTo, (some .int), 1, false) 1023 104 1021 1022 = true := by decide +kernel
theorem x_mk_Search_wayTo : x_mkC tb_Search_wayTo (9, yX9_wayTo, cX9_wayTo, (some .int), 2, false) 1031 104 1029 1030 = true := by decide +kernel
theorem x_mk_Text_append : x_mkC tb_Text_append (10, yX10_append, cX10_append, (some .boolean), 1, false) 497 96 495 496 = true := by decide +kernel
theorem x_mk_Text_cut : x_mkC tb_Text_cut (10, yX10_cut, cX10_cut, (some .boolean), 1, false) 505 96 503 504 = true := by decide +kernel
theorem x_mk_Text_open : x_mkC tb_Text_open (10, yX10_open, cX10_open, none, 1, false) 517 96 515 516 = true := by decide +kernel
theorem x_mk_Text_close : x_mkC tb_Text_close (10, yX10_close, cX10_close, (some .int), 0, false) 553 96 551 552 = true := by decide +kernel
theorem x_mk_Text_here : x_mkC tb_Text_here (10, yX10_here, cX10_here, (some .int), 0, false) 532 96 530 531 = true := by decide +kernel
theorem x_mk_Text_step : x_mkC tb_Text_step (10, yX10_step, cX10_step, none, 0, false) 536 96 534 535 = true := by decide +kernel
theorem x_mk_Text_isRead : x_mkC tb_Text_isRead (10, yX10_isRead, cX10_isRead, (some .boolean), 0, false) 545 96 543 544 = true := by decide +kernel
theorem x_mk_Text_digitHere : x_mkC tb_Text_digitHere (10, yX10_digitHere, cX10_digitHere, (some .int), 2, false) 528 96 526 527 = true := by decide +kernel
theorem x_mk_Text_takeDigit : x_mkC tb_Text_takeDigit (10, yX10_takeDigit, cX10_takeDigit, (some .int), 2, false) 524 96 522 523 = true := by decide +kernel
theorem x_mk_Text_digitAt : x_mkC tb_Text_digitAt (10, yX10_digitAt, cX10_digitAt, (some .int), 1, false) 585 96 583 584 = true := by decide +kernel
theorem x_mk_Main_sign : x_mkC tb_Main_sign (11, yX11_sign, cX11_sign, (some .int), 1, false) 493 95 491 492 = true := by decide +kernel
theorem x_mk_Main_end : x_mkC tb_Main_end (11, yX11_end, cX11_end, (some .boolean), 1, false) 501 95 499 500 = true := by decide +kernel
