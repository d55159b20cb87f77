theorem x_mk_Garden_sights : x_mkC tb_Garden_sights (2, yX2_sights, cX2_sights, (some .int), 0, false) 1267 97 1265 1266 = true := by decide +kernel
theorem x_mk_Memory_clear : x_mkC tb_Memory_clear (3, yX3_clear, cX3_clear, none, 0, false) 561 99 559 560 = true := by decide +kernel
theorem x_mk_Memory_mark : x_mkC tb_Memory_mark (3, yX3_mark, cX3_mark, none, 1, false) 669 99 667 668 = true := by decide +kernel
theorem x_mk_Memory_addMarked : x_mkC tb_Memory_addMarked (3, yX3_addMarked, cX3_addMarked, none, 0, false) 751 99 749 750 = true := by decide +kernel
theorem x_mk_Memory_undoInto : x_mkC tb_Memory_undoInto (3, yX3_undoInto, cX3_undoInto, (some .int), 1, false) 869 99 867 868 = true := by decide +kernel
theorem x_mk_Memory_store : x_mkC tb_Memory_store (3, yX3_store, cX3_store, (some .boolean), 2, false) 1247 99 1245 1246 = true := by decide +kernel
theorem x_mk_Memory_fetch : x_mkC tb_Memory_fetch (3, yX3_fetch, cX3_fetch, (some .boolean), 2, false) 1255 99 1253 1254 = true := by decide +kernel
theorem x_mk_Notes_add : x_mkC tb_Notes_add (4, yX4_add, cX4_add, (some .boolean), 1, false) 1101 106 1099 1100 = true := by decide +kernel
theorem x_mk_Notes_get : x_mkC tb_Notes_get (4, yX4_get, cX4_get, (some .int), 1, false) 1131 106 1129 1130 = true := by decide +kernel
theorem x_mk_Notes_clear : x_mkC tb_Notes_clear (4, yX4_clear, cX4_clear, (some .int), 0, false) 1109 106 1107 1108 = true := by decide +kernel
theorem x_mk_Numbers_clear : x_mkC tb_Numbers_clear (5, yX5_clear, cX5_clear, none, 0, false) 767 105 765 766 = true := by decide +kernel
theorem x_mk_Numbers_add : x_mkC tb_Numbers_add (5, yX5_add, cX5_add, none, 1, false) 771 105 769 770 = true := by decide +kernel
theorem x_mk_Numbers_addFirst : x_mkC tb_Numbers_addFirst (5, yX5_addFirst, cX5_addFirst, none, 1, false) 985 105 983 984 = true := by decide +kernel
theorem x_mk_Numbers_tellOne : x_mkC tb_Numbers_tellOne (5, yX5_tellOne, cX5_tellOne, none, 1, false) 763 105 761 762 = true := by decide +kernel
theorem x_mk_Numbers_tellTwo : x_mkC tb_Numbers_tellTwo (5, yX5_tellTwo, cX5_tellTwo, none, 2, false) 759 105 757 758 = true := by decide +kernel
theorem x_mk_Numbers_has : x_mkC tb_Numbers_has (5, yX5_has, cX5_has, (some .boolean), 1, false) 1362 105 1360 1361 = true := by decide +kernel
theorem x_mk_Numbers_get : x_mkC tb_Numbers_get (5, yX5_get, cX5_get, (some .long), 1, false) 1367 105 1365 1366 = true := by decide +kernel
theorem x_mk_Outing_clear : x_mkC tb_Outing_clear (6, yX6_clear, cX6_clear, none, 0, false) 557 98 555 556 = true := by decide +kernel
theorem x_mk_Outing_add : x_mkC tb_Outing_add (6, yX6_add, cX6_add, none, 2, false) 589 98 587 588 = true := by decide +kernel
theorem x_mk_Outing_take : x_mkC tb_Outing_take (6, yX6_take, cX6_take, none, 1, false) 1218 98 1216 1217 = true := by decide +kernel
theorem x_mk_Outing_packed : x_mkC tb_Outing_packed (6, yX6_packed, cX6_packed, (some .long), 0, false) 673 98 671 672 = true := by decide +kernel
theorem x_mk_Outing_unpack : x_mkC tb_Outing_unpack (6, yX6_unpack, cX6_unpack, none, 2, false) 873 98 871 872 = true := by decide +kernel
theorem x_mk_Outing_has : x_mkC tb_Outing_has (6, yX6_has, cX6_has, (some .boolean), 1, false) 661 98 659 660 = true := by decide +kernel
theorem x_mk_Outing_fieldOf : x_mkC tb_Outing_fieldOf (6, yX6_fieldOf, cX6_fieldOf, (some .int), 1, false) 677 98 675 676 = true := by decide +kernel
theorem x_mk_Outing_wayOf : x_mkC tb_Outing_wayOf (6, yX6_wayOf, cX6_wayOf, (some .int), 1, false) 681 98 679 680 = true := by decide +kernel
theorem x_mk_Outing_viewsOf : x_mkC tb_Outing_viewsOf (6, yX6_viewsOf, cX6_viewsOf, (some .int), 1, false) 685 98 683 684 = true := by decide +kernel
theorem x_mk_Outing_isLoose : x_mkC tb_Outing_isLoose (6, yX6_isLoose, cX6_isLoose, (some .boolean), 1, false) 697 98 695 696 = true := by decide +kernel
theorem x_mk_Outing_place : x_mkC tb_Outing_place (6, yX6_place, cX6_place, none, 3, false) 706 98 704 705 = true := by decide +kernel
theorem x_mk_Outing_setViews : x_mkC tb_Outing_setViews (6, yX6_setViews, cX6_setViews, none, 2, false) 657 98 655 656 = true := by decide +kernel
theorem x_mk_Outing_setLoose : x_mkC tb_Outing_setLoose (6, yX6_setLoose, cX6_setLoose, none, 2, false) 791 98 789 790 = true := by decide +kernel
theorem x_mk_Outing_countLoose : x_mkC tb_Outing_countLoose (6, yX6_countLoose, cX6_countLoose, (some .int), 0, false) 795 98 793 794 = true := by decide +kernel
theorem x_mk_Outing_countViews : x_mkC tb_Outing_countViews (6, yX6_countViews, cX6_countViews, (some .int), 0, false) 861 98 859 860 = true := by decide +kernel
theorem x_mk_Outing_allViews : x_mkC tb_Outing_allViews (6, yX6_allViews, cX6_allViews, (some .int), 0, false) 1239 98 1237 1238 = true := by decide +kernel
theorem x_mk_Outing_countOthersOn : x_mkC tb_Outing_countOthersOn (6, yX6_countOthersOn, cX6_countOthersOn, (some .int), 2, false) 726 98 724 725 = true := by decide +kernel
theorem x_mk_Paths_spread : x_mkC tb_Paths_spread (7, yX7_spread, cX7_spread, (some .int), 2, false) 943 103 941 942 = true := by decide +kernel
theorem x_mk_Paths_distanceTo : x_mkC tb_Paths_distanceTo (7, yX7_distanceTo, cX7_distanceTo, (some .int), 1, false) 952 103 950 951 = true := by decide +kernel
theorem x_mk_Paths_wayNearer : x_mkC tb_Paths_wayNearer (7, yX7_wayNearer, cX7_wayNearer, (some .int), 1, false) 958 103 956 957 = true := by decide +kernel
theorem x_mk_Paths_countParts : x_mkC tb_Paths_countParts (7, yX7_countParts, cX7_countParts, (some .int), 1, false) 972 103 970 971 = true := by decide +kernel
theorem x_mk_Paths_countPart : x_mkC tb_Paths_countPart (7, yX7_countPart, cX7_countPart, none, 2, false) 976 103 975 22 = true := by decide +kernel
theorem x_mk_Paths_countStrays : x_mkC tb_Paths_countStrays (7, yX7_countStrays, cX7_countStrays, (some .int), 3, false) 1060 103 1058 1059 = true := by decide +kernel
