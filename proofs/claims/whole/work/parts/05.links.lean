theorem lx_nat : Cond.native arraycopyName ∈ gg_l := gg_in 499 (by decide +kernel) (by decide +kernel)
theorem lx_stat : Cond.static arraycopyName ∈ gg_l := gg_in 498 (by decide +kernel) (by decide +kernel)
theorem lx_ini : Cond.initialized "java/lang/System" ∈ gg_l := gg_in 167 (by decide +kernel) (by decide +kernel)
theorem lc_J6_bitCount_0f7a4 : gx_c yJ6_bitCount_0f7a4 cJ6_bitCount_0f7a4 1 (some .int) 1 := ⟨gg_in 705 (by decide +kernel) (by decide +kernel), gg_in 169 (by decide +kernel) (by decide +kernel), by decide +kernel, by decide +kernel, by decide +kernel, by decide⟩
theorem li_J6_bitCount_0f7a4 : Cond.static yJ6_bitCount_0f7a4 ∈ gg_l := gg_in 704 (by decide +kernel) (by decide +kernel)
theorem lc_J9_floorMod_7cf53 : gx_c yJ9_floorMod_7cf53 cJ9_floorMod_7cf53 3 (some .int) 2 := ⟨gg_in 944 (by decide +kernel) (by decide +kernel), gg_in 168 (by decide +kernel) (by decide +kernel), by decide +kernel, by decide +kernel, by decide +kernel, by decide⟩
theorem li_J9_floorMod_7cf53 : Cond.static yJ9_floorMod_7cf53 ∈ gg_l := gg_in 943 (by decide +kernel) (by decide +kernel)
theorem lc_J9_max_7cf53 : gx_c yJ9_max_7cf53 cJ9_max_7cf53 2 (some .int) 2 := ⟨gg_in 536 (by decide +kernel) (by decide +kernel), gg_in 168 (by decide +kernel) (by decide +kernel), by decide +kernel, by decide +kernel, by decide +kernel, by decide⟩
theorem li_J9_max_7cf53 : Cond.static yJ9_max_7cf53 ∈ gg_l := gg_in 535 (by decide +kernel) (by decide +kernel)
theorem lc_J9_max_f86c9 : gx_c yJ9_max_f86c9 cJ9_max_f86c9 4 (some .long) 2 := ⟨gg_in 840 (by decide +kernel) (by decide +kernel), gg_in 168 (by decide +kernel) (by decide +kernel), by decide +kernel, by decide +kernel, by decide +kernel, by decide⟩
theorem li_J9_max_f86c9 : Cond.static yJ9_max_f86c9 ∈ gg_l := gg_in 839 (by decide +kernel) (by decide +kernel)
theorem lc_J9_min_7cf53 : gx_c yJ9_min_7cf53 cJ9_min_7cf53 2 (some .int) 2 := ⟨gg_in 642 (by decide +kernel) (by decide +kernel), gg_in 168 (by decide +kernel) (by decide +kernel), by decide +kernel, by decide +kernel, by decide +kernel, by decide⟩
theorem li_J9_min_7cf53 : Cond.static yJ9_min_7cf53 ∈ gg_l := gg_in 641 (by decide +kernel) (by decide +kernel)
theorem lc_X0_add : gx_c yX0_add cX0_add 2 (some .boolean) 1 := ⟨gg_in 992 (by decide +kernel) (by decide +kernel), gg_in 164 (by decide +kernel) (by decide +kernel), by decide +kernel, by decide +kernel, by decide +kernel, by decide⟩
theorem li_X0_add : gx_i yX0_add := ⟨gg_in 991 (by decide +kernel) (by decide +kernel), gg_in 92 (by decide +kernel) (by decide +kernel)⟩
theorem lc_X0_asKind : gx_c yX0_asKind cX0_asKind 7 (some .int) 4 := ⟨gg_in 1004 (by decide +kernel) (by decide +kernel), gg_in 164 (by decide +kernel) (by decide +kernel), by decide +kernel, by decide +kernel, by decide +kernel, by decide⟩
theorem li_X0_asKind : gx_i yX0_asKind := ⟨gg_in 1003 (by decide +kernel) (by decide +kernel), gg_in 94 (by decide +kernel) (by decide +kernel)⟩
theorem lc_X0_isUnder : gx_c yX0_isUnder cX0_isUnder 5 (some .boolean) 2 := ⟨gg_in 1101 (by decide +kernel) (by decide +kernel), gg_in 164 (by decide +kernel) (by decide +kernel), by decide +kernel, by decide +kernel, by decide +kernel, by decide⟩
theorem li_X0_isUnder : gx_i yX0_isUnder := ⟨gg_in 1100 (by decide +kernel) (by decide +kernel), gg_in 108 (by decide +kernel) (by decide +kernel)⟩
theorem lc_X0_kindOf : gx_c yX0_kindOf cX0_kindOf 2 (some .int) 1 := ⟨gg_in 1097 (by decide +kernel) (by decide +kernel), gg_in 164 (by decide +kernel) (by decide +kernel), by decide +kernel, by decide +kernel, by decide +kernel, by decide⟩
theorem li_X0_kindOf : gx_i yX0_kindOf := ⟨gg_in 1096 (by decide +kernel) (by decide +kernel), gg_in 107 (by decide +kernel) (by decide +kernel)⟩
theorem lc_X0_perform : gx_c yX0_perform cX0_perform 4 (some .int) 3 := ⟨gg_in 1000 (by decide +kernel) (by decide +kernel), gg_in 164 (by decide +kernel) (by decide +kernel), by decide +kernel, by decide +kernel, by decide +kernel, by decide⟩
theorem li_X0_perform : gx_i yX0_perform := ⟨gg_in 999 (by decide +kernel) (by decide +kernel), gg_in 93 (by decide +kernel) (by decide +kernel)⟩
theorem lc_X0_runBody : gx_c yX0_runBody cX0_runBody 6 (some .int) 4 := ⟨gg_in 1012 (by decide +kernel) (by decide +kernel), gg_in 164 (by decide +kernel) (by decide +kernel), by decide +kernel, by decide +kernel, by decide +kernel, by decide⟩
theorem li_X0_runBody : gx_i yX0_runBody := ⟨gg_in 1011 (by decide +kernel) (by decide +kernel), gg_in 95 (by decide +kernel) (by decide +kernel)⟩
theorem lc_X0_tracesKept : gx_c yX0_tracesKept cX0_tracesKept 1 (some .int) 0 := ⟨gg_in 1020 (by decide +kernel) (by decide +kernel), gg_in 164 (by decide +kernel) (by decide +kernel), by decide +kernel, by decide +kernel, by decide +kernel, by decide⟩
theorem li_X0_tracesKept : gx_i yX0_tracesKept := ⟨gg_in 1019 (by decide +kernel) (by decide +kernel), gg_in 96 (by decide +kernel) (by decide +kernel)⟩
theorem lc_X10_above : gx_c yX10_above cX10_above 1 (some .int) 1 := ⟨gg_in 1583 (by decide +kernel) (by decide +kernel), gg_in 166 (by decide +kernel) (by decide +kernel), by decide +kernel, by decide +kernel, by decide +kernel, by decide⟩
theorem li_X10_above : Cond.static yX10_above ∈ gg_l := gg_in 1582 (by decide +kernel) (by decide +kernel)
theorem lc_X10_added : gx_c yX10_added cX10_added 4 (some .int) 0 := ⟨gg_in 1357 (by decide +kernel) (by decide +kernel), gg_in 166 (by decide +kernel) (by decide +kernel), by decide +kernel, by decide +kernel, by decide +kernel, by decide⟩
theorem li_X10_added : gx_i yX10_added := ⟨gg_in 1356 (by decide +kernel) (by decide +kernel), gg_in 120 (by decide +kernel) (by decide +kernel)⟩
theorem lc_X10_areMixed : gx_c yX10_areMixed cX10_areMixed 3 (some .boolean) 2 := ⟨gg_in 1427 (by decide +kernel) (by decide +kernel), gg_in 166 (by decide +kernel) (by decide +kernel), by decide +kernel, by decide +kernel, by decide +kernel, by decide⟩
theorem li_X10_areMixed : gx_i yX10_areMixed := ⟨gg_in 1426 (by decide +kernel) (by decide +kernel), gg_in 130 (by decide +kernel) (by decide +kernel)⟩
theorem lc_X10_at : gx_c yX10_at cX10_at 1 (some .int) 0 := ⟨gg_in 1369 (by decide +kernel) (by decide +kernel), gg_in 166 (by decide +kernel) (by decide +kernel), by decide +kernel, by decide +kernel, by decide +kernel, by decide⟩
theorem li_X10_at : gx_i yX10_at := ⟨gg_in 1368 (by decide +kernel) (by decide +kernel), gg_in 123 (by decide +kernel) (by decide +kernel)⟩
theorem lc_X10_atom : gx_c yX10_atom cX10_atom 3 (some .int) 0 := ⟨gg_in 1365 (by decide +kernel) (by decide +kernel), gg_in 166 (by decide +kernel) (by decide +kernel), by decide +kernel, by decide +kernel, by decide +kernel, by decide⟩
theorem li_X10_atom : gx_i yX10_atom := ⟨gg_in 1364 (by decide +kernel) (by decide +kernel), gg_in 122 (by decide +kernel) (by decide +kernel)⟩
theorem lc_X10_bitsOf : gx_c yX10_bitsOf cX10_bitsOf 3 (some .int) 1 := ⟨gg_in 1423 (by decide +kernel) (by decide +kernel), gg_in 166 (by decide +kernel) (by decide +kernel), by decide +kernel, by decide +kernel, by decide +kernel, by decide⟩
theorem li_X10_bitsOf : Cond.static yX10_bitsOf ∈ gg_l := gg_in 1422 (by decide +kernel) (by decide +kernel)
theorem lc_X10_both : gx_c yX10_both cX10_both 3 (some .int) 0 := ⟨gg_in 1349 (by decide +kernel) (by decide +kernel), gg_in 166 (by decide +kernel) (by decide +kernel), by decide +kernel, by decide +kernel, by decide +kernel, by decide⟩
theorem li_X10_both : gx_i yX10_both := ⟨gg_in 1348 (by decide +kernel) (by decide +kernel), gg_in 118 (by decide +kernel) (by decide +kernel)⟩
theorem lc_X10_compared : gx_c yX10_compared cX10_compared 4 (some .int) 0 := ⟨gg_in 1353 (by decide +kernel) (by decide +kernel), gg_in 166 (by decide +kernel) (by decide +kernel), by decide +kernel, by decide +kernel, by decide +kernel, by decide⟩
theorem li_X10_compared : gx_i yX10_compared := ⟨gg_in 1352 (by decide +kernel) (by decide +kernel), gg_in 119 (by decide +kernel) (by decide +kernel)⟩
theorem lc_X10_costOf : gx_c yX10_costOf cX10_costOf 2 (some .int) 1 := ⟨gg_in 1482 (by decide +kernel) (by decide +kernel), gg_in 166 (by decide +kernel) (by decide +kernel), by decide +kernel, by decide +kernel, by decide +kernel, by decide⟩
theorem li_X10_costOf : gx_i yX10_costOf := ⟨gg_in 1481 (by decide +kernel) (by decide +kernel), gg_in 137 (by decide +kernel) (by decide +kernel)⟩
theorem lc_X10_couldBeAlike : gx_c yX10_couldBeAlike cX10_couldBeAlike 8 (some .boolean) 3 := ⟨gg_in 1443 (by decide +kernel) (by decide +kernel), gg_in 166 (by decide +kernel) (by decide +kernel), by decide +kernel, by decide +kernel, by decide +kernel, by decide⟩
theorem li_X10_couldBeAlike : gx_i yX10_couldBeAlike := ⟨gg_in 1442 (by decide +kernel) (by decide +kernel), gg_in 132 (by decide +kernel) (by decide +kernel)⟩
theorem lc_X10_counts : gx_c yX10_counts cX10_counts 4 (some .boolean) 0 := ⟨gg_in 1519 (by decide +kernel) (by decide +kernel), gg_in 166 (by decide +kernel) (by decide +kernel), by decide +kernel, by decide +kernel, by decide +kernel, by decide⟩
theorem li_X10_counts : gx_i yX10_counts := ⟨gg_in 1518 (by decide +kernel) (by decide +kernel), gg_in 142 (by decide +kernel) (by decide +kernel)⟩
theorem lc_X10_differ : gx_c yX10_differ cX10_differ 5 (some .int) 2 := ⟨gg_in 1431 (by decide +kernel) (by decide +kernel), gg_in 166 (by decide +kernel) (by decide +kernel), by decide +kernel, by decide +kernel, by decide +kernel, by decide⟩
theorem li_X10_differ : gx_i yX10_differ := ⟨gg_in 1430 (by decide +kernel) (by decide +kernel), gg_in 131 (by decide +kernel) (by decide +kernel)⟩
theorem lc_X10_either : gx_c yX10_either cX10_either 3 (some .int) 0 := ⟨gg_in 1345 (by decide +kernel) (by decide +kernel), gg_in 166 (by decide +kernel) (by decide +kernel), by decide +kernel, by decide +kernel, by decide +kernel, by decide⟩
theorem li_X10_either : gx_i yX10_either := ⟨gg_in 1344 (by decide +kernel) (by decide +kernel), gg_in 117 (by decide +kernel) (by decide +kernel)⟩
theorem lc_X10_finds : gx_c yX10_finds cX10_finds 12 (some .boolean) 4 := ⟨gg_in 1535 (by decide +kernel) (by decide +kernel), gg_in 166 (by decide +kernel) (by decide +kernel), by decide +kernel, by decide +kernel, by decide +kernel, by decide⟩
theorem li_X10_finds : gx_i yX10_finds := ⟨gg_in 1534 (by decide +kernel) (by decide +kernel), gg_in 145 (by decide +kernel) (by decide +kernel)⟩
theorem lc_X10_forgets : gx_c yX10_forgets cX10_forgets 1 none 0 := ⟨gg_in 1280 (by decide +kernel) (by decide +kernel), gg_in 166 (by decide +kernel) (by decide +kernel), by decide +kernel, by decide +kernel, by decide +kernel, by decide⟩
theorem li_X10_forgets : gx_i yX10_forgets := ⟨gg_in 1279 (by decide +kernel) (by decide +kernel), gg_in 109 (by decide +kernel) (by decide +kernel)⟩
theorem lc_X10_heardNow : gx_c yX10_heardNow cX10_heardNow 1 (some .int) 0 := ⟨gg_in 1416 (by decide +kernel) (by decide +kernel), gg_in 166 (by decide +kernel) (by decide +kernel), by decide +kernel, by decide +kernel, by decide +kernel, by decide⟩
theorem li_X10_heardNow : gx_i yX10_heardNow := ⟨gg_in 1415 (by decide +kernel) (by decide +kernel), gg_in 128 (by decide +kernel) (by decide +kernel)⟩
theorem lc_X10_in : gx_c yX10_in cX10_in 6 (some .boolean) 3 := ⟨gg_in 1269 (by decide +kernel) (by decide +kernel), gg_in 166 (by decide +kernel) (by decide +kernel), by decide +kernel, by decide +kernel, by decide +kernel, by decide⟩
theorem li_X10_in : Cond.static yX10_in ∈ gg_l := gg_in 1268 (by decide +kernel) (by decide +kernel)
theorem lc_X10_isAlarm : gx_c yX10_isAlarm cX10_isAlarm 5 (some .boolean) 0 := ⟨gg_in 1543 (by decide +kernel) (by decide +kernel), gg_in 166 (by decide +kernel) (by decide +kernel), by decide +kernel, by decide +kernel, by decide +kernel, by decide⟩
theorem li_X10_isAlarm : gx_i yX10_isAlarm := ⟨gg_in 1542 (by decide +kernel) (by decide +kernel), gg_in 146 (by decide +kernel) (by decide +kernel)⟩
theorem lc_X10_isBell : gx_c yX10_isBell cX10_isBell 2 (some .boolean) 1 := ⟨gg_in 1308 (by decide +kernel) (by decide +kernel), gg_in 166 (by decide +kernel) (by decide +kernel), by decide +kernel, by decide +kernel, by decide +kernel, by decide⟩
theorem li_X10_isBell : gx_i yX10_isBell := ⟨gg_in 1307 (by decide +kernel) (by decide +kernel), gg_in 113 (by decide +kernel) (by decide +kernel)⟩
theorem lc_X10_isCell : gx_c yX10_isCell cX10_isCell 2 (some .boolean) 1 := ⟨gg_in 1304 (by decide +kernel) (by decide +kernel), gg_in 166 (by decide +kernel) (by decide +kernel), by decide +kernel, by decide +kernel, by decide +kernel, by decide⟩
theorem li_X10_isCell : gx_i yX10_isCell := ⟨gg_in 1303 (by decide +kernel) (by decide +kernel), gg_in 112 (by decide +kernel) (by decide +kernel)⟩
theorem lc_X10_isFewTables : gx_c yX10_isFewTables cX10_isFewTables 5 (some .boolean) 0 := ⟨gg_in 1506 (by decide +kernel) (by decide +kernel), gg_in 166 (by decide +kernel) (by decide +kernel), by decide +kernel, by decide +kernel, by decide +kernel, by decide⟩
theorem li_X10_isFewTables : gx_i yX10_isFewTables := ⟨gg_in 1505 (by decide +kernel) (by decide +kernel), gg_in 139 (by decide +kernel) (by decide +kernel)⟩
theorem lc_X10_isHour : gx_c yX10_isHour cX10_isHour 2 (some .boolean) 1 := ⟨gg_in 1292 (by decide +kernel) (by decide +kernel), gg_in 166 (by decide +kernel) (by decide +kernel), by decide +kernel, by decide +kernel, by decide +kernel, by decide⟩
theorem li_X10_isHour : gx_i yX10_isHour := ⟨gg_in 1291 (by decide +kernel) (by decide +kernel), gg_in 111 (by decide +kernel) (by decide +kernel)⟩
theorem lc_X10_isName : gx_c yX10_isName cX10_isName 1 (some .boolean) 1 := ⟨gg_in 1378 (by decide +kernel) (by decide +kernel), gg_in 166 (by decide +kernel) (by decide +kernel), by decide +kernel, by decide +kernel, by decide +kernel, by decide⟩
theorem li_X10_isName : Cond.static yX10_isName ∈ gg_l := gg_in 1377 (by decide +kernel) (by decide +kernel)
theorem lc_X10_isPair : gx_c yX10_isPair cX10_isPair 2 (some .boolean) 1 := ⟨gg_in 1324 (by decide +kernel) (by decide +kernel), gg_in 166 (by decide +kernel) (by decide +kernel), by decide +kernel, by decide +kernel, by decide +kernel, by decide⟩
theorem li_X10_isPair : gx_i yX10_isPair := ⟨gg_in 1323 (by decide +kernel) (by decide +kernel), gg_in 115 (by decide +kernel) (by decide +kernel)⟩
theorem lc_X10_isShelf : gx_c yX10_isShelf cX10_isShelf 1 (some .boolean) 1 := ⟨gg_in 1606 (by decide +kernel) (by decide +kernel), gg_in 166 (by decide +kernel) (by decide +kernel), by decide +kernel, by decide +kernel, by decide +kernel, by decide⟩
theorem li_X10_isShelf : Cond.static yX10_isShelf ∈ gg_l := gg_in 1605 (by decide +kernel) (by decide +kernel)
theorem lc_X10_isSure : gx_c yX10_isSure cX10_isSure 7 (some .boolean) 2 := ⟨gg_in 1559 (by decide +kernel) (by decide +kernel), gg_in 166 (by decide +kernel) (by decide +kernel), by decide +kernel, by decide +kernel, by decide +kernel, by decide⟩
theorem li_X10_isSure : gx_i yX10_isSure := ⟨gg_in 1558 (by decide +kernel) (by decide +kernel), gg_in 148 (by decide +kernel) (by decide +kernel)⟩
theorem lc_X10_keeps : gx_c yX10_keeps cX10_keeps 5 none 3 := ⟨gg_in 1312 (by decide +kernel) (by decide +kernel), gg_in 166 (by decide +kernel) (by decide +kernel), by decide +kernel, by decide +kernel, by decide +kernel, by decide⟩
theorem li_X10_keeps : gx_i yX10_keeps := ⟨gg_in 1311 (by decide +kernel) (by decide +kernel), gg_in 114 (by decide +kernel) (by decide +kernel)⟩
theorem lc_X10_keepsBest : gx_c yX10_keepsBest cX10_keepsBest 2 none 0 := ⟨gg_in 1515 (by decide +kernel) (by decide +kernel), gg_in 166 (by decide +kernel) (by decide +kernel), by decide +kernel, by decide +kernel, by decide +kernel, by decide⟩
theorem li_X10_keepsBest : gx_i yX10_keepsBest := ⟨gg_in 1514 (by decide +kernel) (by decide +kernel), gg_in 141 (by decide +kernel) (by decide +kernel)⟩
theorem lc_X10_laysAside : gx_c yX10_laysAside cX10_laysAside 2 none 0 := ⟨gg_in 1511 (by decide +kernel) (by decide +kernel), gg_in 166 (by decide +kernel) (by decide +kernel), by decide +kernel, by decide +kernel, by decide +kernel, by decide⟩
theorem li_X10_laysAside : gx_i yX10_laysAside := ⟨gg_in 1510 (by decide +kernel) (by decide +kernel), gg_in 140 (by decide +kernel) (by decide +kernel)⟩
theorem lc_X10_laysBack : gx_c yX10_laysBack cX10_laysBack 2 none 0 := ⟨gg_in 1523 (by decide +kernel) (by decide +kernel), gg_in 166 (by decide +kernel) (by decide +kernel), by decide +kernel, by decide +kernel, by decide +kernel, by decide⟩
theorem li_X10_laysBack : gx_i yX10_laysBack := ⟨gg_in 1522 (by decide +kernel) (by decide +kernel), gg_in 143 (by decide +kernel) (by decide +kernel)⟩
theorem lc_X10_lessOne : gx_c yX10_lessOne cX10_lessOne 5 (some .int) 3 := ⟨gg_in 1447 (by decide +kernel) (by decide +kernel), gg_in 166 (by decide +kernel) (by decide +kernel), by decide +kernel, by decide +kernel, by decide +kernel, by decide⟩
theorem li_X10_lessOne : gx_i yX10_lessOne := ⟨gg_in 1446 (by decide +kernel) (by decide +kernel), gg_in 133 (by decide +kernel) (by decide +kernel)⟩
theorem lc_X10_look : gx_c yX10_look cX10_look 3 (some .int) 2 := ⟨gg_in 1620 (by decide +kernel) (by decide +kernel), gg_in 166 (by decide +kernel) (by decide +kernel), by decide +kernel, by decide +kernel, by decide +kernel, by decide⟩
theorem li_X10_look : gx_i yX10_look := ⟨gg_in 1619 (by decide +kernel) (by decide +kernel), gg_in 154 (by decide +kernel) (by decide +kernel)⟩
theorem lc_X10_lowest : gx_c yX10_lowest cX10_lowest 11 (some .long) 3 := ⟨gg_in 1498 (by decide +kernel) (by decide +kernel), gg_in 166 (by decide +kernel) (by decide +kernel), by decide +kernel, by decide +kernel, by decide +kernel, by decide⟩
theorem li_X10_lowest : Cond.static yX10_lowest ∈ gg_l := gg_in 1497 (by decide +kernel) (by decide +kernel)
theorem lc_X10_mayBegin : gx_c yX10_mayBegin cX10_mayBegin 6 (some .boolean) 1 := ⟨gg_in 1555 (by decide +kernel) (by decide +kernel), gg_in 166 (by decide +kernel) (by decide +kernel), by decide +kernel, by decide +kernel, by decide +kernel, by decide⟩
theorem li_X10_mayBegin : gx_i yX10_mayBegin := ⟨gg_in 1554 (by decide +kernel) (by decide +kernel), gg_in 147 (by decide +kernel) (by decide +kernel)⟩
theorem lc_X10_mostStrokes : gx_c yX10_mostStrokes cX10_mostStrokes 3 (some .int) 0 := ⟨gg_in 1531 (by decide +kernel) (by decide +kernel), gg_in 166 (by decide +kernel) (by decide +kernel), by decide +kernel, by decide +kernel, by decide +kernel, by decide⟩
theorem li_X10_mostStrokes : gx_i yX10_mostStrokes := ⟨gg_in 1530 (by decide +kernel) (by decide +kernel), gg_in 144 (by decide +kernel) (by decide +kernel)⟩
theorem lc_X10_named : gx_c yX10_named cX10_named 2 (some .int) 1 := ⟨gg_in 1382 (by decide +kernel) (by decide +kernel), gg_in 166 (by decide +kernel) (by decide +kernel), by decide +kernel, by decide +kernel, by decide +kernel, by decide⟩
theorem li_X10_named : gx_i yX10_named := ⟨gg_in 1381 (by decide +kernel) (by decide +kernel), gg_in 125 (by decide +kernel) (by decide +kernel)⟩
theorem lc_X10_number : gx_c yX10_number cX10_number 3 (some .int) 0 := ⟨gg_in 1375 (by decide +kernel) (by decide +kernel), gg_in 166 (by decide +kernel) (by decide +kernel), by decide +kernel, by decide +kernel, by decide +kernel, by decide⟩
theorem li_X10_number : gx_i yX10_number := ⟨gg_in 1374 (by decide +kernel) (by decide +kernel), gg_in 124 (by decide +kernel) (by decide +kernel)⟩
theorem lc_X10_product : gx_c yX10_product cX10_product 4 (some .int) 0 := ⟨gg_in 1361 (by decide +kernel) (by decide +kernel), gg_in 166 (by decide +kernel) (by decide +kernel), by decide +kernel, by decide +kernel, by decide +kernel, by decide⟩
theorem li_X10_product : gx_i yX10_product := ⟨gg_in 1360 (by decide +kernel) (by decide +kernel), gg_in 121 (by decide +kernel) (by decide +kernel)⟩
theorem lc_X10_puts : gx_c yX10_puts cX10_puts 3 none 2 := ⟨gg_in 1288 (by decide +kernel) (by decide +kernel), gg_in 166 (by decide +kernel) (by decide +kernel), by decide +kernel, by decide +kernel, by decide +kernel, by decide⟩
theorem li_X10_puts : gx_i yX10_puts := ⟨gg_in 1287 (by decide +kernel) (by decide +kernel), gg_in 110 (by decide +kernel) (by decide +kernel)⟩
theorem lc_X10_restsBy : gx_c yX10_restsBy cX10_restsBy 4 (some .int) 2 := ⟨gg_in 1591 (by decide +kernel) (by decide +kernel), gg_in 166 (by decide +kernel) (by decide +kernel), by decide +kernel, by decide +kernel, by decide +kernel, by decide⟩
theorem li_X10_restsBy : gx_i yX10_restsBy := ⟨gg_in 1590 (by decide +kernel) (by decide +kernel), gg_in 152 (by decide +kernel) (by decide +kernel)⟩
theorem lc_X10_runs : gx_c yX10_runs cX10_runs 2 none 1 := ⟨gg_in 1580 (by decide +kernel) (by decide +kernel), gg_in 166 (by decide +kernel) (by decide +kernel), by decide +kernel, by decide +kernel, by decide +kernel, by decide⟩
theorem li_X10_runs : gx_i yX10_runs := ⟨gg_in 1579 (by decide +kernel) (by decide +kernel), gg_in 150 (by decide +kernel) (by decide +kernel)⟩
theorem lc_X10_soundsBy : gx_c yX10_soundsBy cX10_soundsBy 4 (some .int) 2 := ⟨gg_in 1587 (by decide +kernel) (by decide +kernel), gg_in 166 (by decide +kernel) (by decide +kernel), by decide +kernel, by decide +kernel, by decide +kernel, by decide⟩
theorem li_X10_soundsBy : gx_i yX10_soundsBy := ⟨gg_in 1586 (by decide +kernel) (by decide +kernel), gg_in 151 (by decide +kernel) (by decide +kernel)⟩
theorem lc_X10_strikesBy : gx_c yX10_strikesBy cX10_strikesBy 3 (some .int) 2 := ⟨gg_in 1576 (by decide +kernel) (by decide +kernel), gg_in 166 (by decide +kernel) (by decide +kernel), by decide +kernel, by decide +kernel, by decide +kernel, by decide⟩
theorem li_X10_strikesBy : gx_i yX10_strikesBy := ⟨gg_in 1575 (by decide +kernel) (by decide +kernel), gg_in 149 (by decide +kernel) (by decide +kernel)⟩
theorem lc_X10_striking : gx_c yX10_striking cX10_striking 5 (some .int) 2 := ⟨gg_in 1464 (by decide +kernel) (by decide +kernel), gg_in 166 (by decide +kernel) (by decide +kernel), by decide +kernel, by decide +kernel, by decide +kernel, by decide⟩
theorem li_X10_striking : gx_i yX10_striking := ⟨gg_in 1463 (by decide +kernel) (by decide +kernel), gg_in 134 (by decide +kernel) (by decide +kernel)⟩
theorem lc_X10_strokesOf : gx_c yX10_strokesOf cX10_strokesOf 4 (some .int) 1 := ⟨gg_in 1472 (by decide +kernel) (by decide +kernel), gg_in 166 (by decide +kernel) (by decide +kernel), by decide +kernel, by decide +kernel, by decide +kernel, by decide⟩
theorem li_X10_strokesOf : gx_i yX10_strokesOf := ⟨gg_in 1471 (by decide +kernel) (by decide +kernel), gg_in 135 (by decide +kernel) (by decide +kernel)⟩
theorem lc_X10_sumAll : gx_c yX10_sumAll cX10_sumAll 3 (some .int) 0 := ⟨gg_in 1393 (by decide +kernel) (by decide +kernel), gg_in 166 (by decide +kernel) (by decide +kernel), by decide +kernel, by decide +kernel, by decide +kernel, by decide⟩
theorem li_X10_sumAll : gx_i yX10_sumAll := ⟨gg_in 1392 (by decide +kernel) (by decide +kernel), gg_in 126 (by decide +kernel) (by decide +kernel)⟩
theorem lc_X10_sumOf : gx_c yX10_sumOf cX10_sumOf 4 (some .int) 1 := ⟨gg_in 1403 (by decide +kernel) (by decide +kernel), gg_in 166 (by decide +kernel) (by decide +kernel), by decide +kernel, by decide +kernel, by decide +kernel, by decide⟩
theorem li_X10_sumOf : gx_i yX10_sumOf := ⟨gg_in 1402 (by decide +kernel) (by decide +kernel), gg_in 127 (by decide +kernel) (by decide +kernel)⟩
theorem lc_X10_tellsAbove : gx_c yX10_tellsAbove cX10_tellsAbove 9 (some .long) 1 := ⟨gg_in 1495 (by decide +kernel) (by decide +kernel), gg_in 166 (by decide +kernel) (by decide +kernel), by decide +kernel, by decide +kernel, by decide +kernel, by decide⟩
theorem li_X10_tellsAbove : gx_i yX10_tellsAbove := ⟨gg_in 1494 (by decide +kernel) (by decide +kernel), gg_in 138 (by decide +kernel) (by decide +kernel)⟩
theorem lc_X10_tellsBy : gx_c yX10_tellsBy cX10_tellsBy 6 (some .boolean) 2 := ⟨gg_in 1420 (by decide +kernel) (by decide +kernel), gg_in 166 (by decide +kernel) (by decide +kernel), by decide +kernel, by decide +kernel, by decide +kernel, by decide⟩
theorem li_X10_tellsBy : gx_i yX10_tellsBy := ⟨gg_in 1419 (by decide +kernel) (by decide +kernel), gg_in 129 (by decide +kernel) (by decide +kernel)⟩
theorem lc_X10_tellsOf : gx_c yX10_tellsOf cX10_tellsOf 4 (some .int) 2 := ⟨gg_in 1595 (by decide +kernel) (by decide +kernel), gg_in 166 (by decide +kernel) (by decide +kernel), by decide +kernel, by decide +kernel, by decide +kernel, by decide⟩
theorem li_X10_tellsOf : gx_i yX10_tellsOf := ⟨gg_in 1594 (by decide +kernel) (by decide +kernel), gg_in 153 (by decide +kernel) (by decide +kernel)⟩
theorem lc_X10_walks : gx_c yX10_walks cX10_walks 6 (some .int) 0 := ⟨gg_in 1341 (by decide +kernel) (by decide +kernel), gg_in 166 (by decide +kernel) (by decide +kernel), by decide +kernel, by decide +kernel, by decide +kernel, by decide⟩
theorem li_X10_walks : gx_i yX10_walks := ⟨gg_in 1340 (by decide +kernel) (by decide +kernel), gg_in 116 (by decide +kernel) (by decide +kernel)⟩
theorem lc_X10_within : gx_c yX10_within cX10_within 3 (some .int) 3 := ⟨gg_in 1389 (by decide +kernel) (by decide +kernel), gg_in 166 (by decide +kernel) (by decide +kernel), by decide +kernel, by decide +kernel, by decide +kernel, by decide⟩
theorem li_X10_within : Cond.static yX10_within ∈ gg_l := gg_in 1388 (by decide +kernel) (by decide +kernel)
theorem lc_X10_worst : gx_c yX10_worst cX10_worst 3 (some .int) 0 := ⟨gg_in 1478 (by decide +kernel) (by decide +kernel), gg_in 166 (by decide +kernel) (by decide +kernel), by decide +kernel, by decide +kernel, by decide +kernel, by decide⟩
theorem li_X10_worst : gx_i yX10_worst := ⟨gg_in 1477 (by decide +kernel) (by decide +kernel), gg_in 136 (by decide +kernel) (by decide +kernel)⟩
theorem lc_X1_dropOldest : gx_c yX1_dropOldest cX1_dropOldest 1 none 0 := ⟨gg_in 496 (by decide +kernel) (by decide +kernel), gg_in 158 (by decide +kernel) (by decide +kernel), by decide +kernel, by decide +kernel, by decide +kernel, by decide⟩
theorem li_X1_dropOldest : gx_i yX1_dropOldest := ⟨gg_in 495 (by decide +kernel) (by decide +kernel), gg_in 11 (by decide +kernel) (by decide +kernel)⟩
theorem lc_X1_forgetAll : gx_c yX1_forgetAll cX1_forgetAll 1 none 0 := ⟨gg_in 463 (by decide +kernel) (by decide +kernel), gg_in 158 (by decide +kernel) (by decide +kernel), by decide +kernel, by decide +kernel, by decide +kernel, by decide⟩
theorem li_X1_forgetAll : gx_i yX1_forgetAll := ⟨gg_in 462 (by decide +kernel) (by decide +kernel), gg_in 4 (by decide +kernel) (by decide +kernel)⟩
theorem lc_X1_note : gx_c yX1_note cX1_note 4 none 3 := ⟨gg_in 492 (by decide +kernel) (by decide +kernel), gg_in 158 (by decide +kernel) (by decide +kernel), by decide +kernel, by decide +kernel, by decide +kernel, by decide⟩
theorem li_X1_note : gx_i yX1_note := ⟨gg_in 491 (by decide +kernel) (by decide +kernel), gg_in 10 (by decide +kernel) (by decide +kernel)⟩
theorem lc_X1_stepBack : gx_c yX1_stepBack cX1_stepBack 1 (some .int) 0 := ⟨gg_in 972 (by decide +kernel) (by decide +kernel), gg_in 158 (by decide +kernel) (by decide +kernel), by decide +kernel, by decide +kernel, by decide +kernel, by decide⟩
theorem li_X1_stepBack : gx_i yX1_stepBack := ⟨gg_in 971 (by decide +kernel) (by decide +kernel), gg_in 89 (by decide +kernel) (by decide +kernel)⟩
theorem lc_X1_stepOn : gx_c yX1_stepOn cX1_stepOn 1 (some .int) 0 := ⟨gg_in 984 (by decide +kernel) (by decide +kernel), gg_in 158 (by decide +kernel) (by decide +kernel), by decide +kernel, by decide +kernel, by decide +kernel, by decide⟩
theorem li_X1_stepOn : gx_i yX1_stepOn := ⟨gg_in 983 (by decide +kernel) (by decide +kernel), gg_in 91 (by decide +kernel) (by decide +kernel)⟩
theorem lc_X2_add : gx_c yX2_add cX2_add 2 (some .boolean) 1 := ⟨gg_in 755 (by decide +kernel) (by decide +kernel), gg_in 163 (by decide +kernel) (by decide +kernel), by decide +kernel, by decide +kernel, by decide +kernel, by decide⟩
theorem li_X2_add : gx_i yX2_add := ⟨gg_in 754 (by decide +kernel) (by decide +kernel), gg_in 53 (by decide +kernel) (by decide +kernel)⟩
theorem lc_X2_forgetTold : gx_c yX2_forgetTold cX2_forgetTold 2 none 0 := ⟨gg_in 350 (by decide +kernel) (by decide +kernel), gg_in 163 (by decide +kernel) (by decide +kernel), by decide +kernel, by decide +kernel, by decide +kernel, by decide⟩
theorem li_X2_forgetTold : gx_i yX2_forgetTold := ⟨gg_in 349 (by decide +kernel) (by decide +kernel), gg_in 0 (by decide +kernel) (by decide +kernel)⟩
theorem lc_X2_hourBehind : gx_c yX2_hourBehind cX2_hourBehind 3 (some .int) 2 := ⟨gg_in 941 (by decide +kernel) (by decide +kernel), gg_in 163 (by decide +kernel) (by decide +kernel), by decide +kernel, by decide +kernel, by decide +kernel, by decide⟩
theorem li_X2_hourBehind : gx_i yX2_hourBehind := ⟨gg_in 940 (by decide +kernel) (by decide +kernel), gg_in 85 (by decide +kernel) (by decide +kernel)⟩
theorem lc_X2_hoursBegun : gx_c yX2_hoursBegun cX2_hoursBegun 3 (some .int) 0 := ⟨gg_in 933 (by decide +kernel) (by decide +kernel), gg_in 163 (by decide +kernel) (by decide +kernel), by decide +kernel, by decide +kernel, by decide +kernel, by decide⟩
theorem li_X2_hoursBegun : gx_i yX2_hoursBegun := ⟨gg_in 932 (by decide +kernel) (by decide +kernel), gg_in 83 (by decide +kernel) (by decide +kernel)⟩
theorem lc_X2_hoursHeard : gx_c yX2_hoursHeard cX2_hoursHeard 3 (some .int) 0 := ⟨gg_in 763 (by decide +kernel) (by decide +kernel), gg_in 163 (by decide +kernel) (by decide +kernel), by decide +kernel, by decide +kernel, by decide +kernel, by decide⟩
theorem li_X2_hoursHeard : gx_i yX2_hoursHeard := ⟨gg_in 762 (by decide +kernel) (by decide +kernel), gg_in 54 (by decide +kernel) (by decide +kernel)⟩
theorem lc_X2_keepTold : gx_c yX2_keepTold cX2_keepTold 1 (some .boolean) 0 := ⟨gg_in 924 (by decide +kernel) (by decide +kernel), gg_in 163 (by decide +kernel) (by decide +kernel), by decide +kernel, by decide +kernel, by decide +kernel, by decide⟩
theorem li_X2_keepTold : gx_i yX2_keepTold := ⟨gg_in 923 (by decide +kernel) (by decide +kernel), gg_in 82 (by decide +kernel) (by decide +kernel)⟩
theorem lc_X2_mayBe : gx_c yX2_mayBe cX2_mayBe 6 (some .boolean) 3 := ⟨gg_in 767 (by decide +kernel) (by decide +kernel), gg_in 163 (by decide +kernel) (by decide +kernel), by decide +kernel, by decide +kernel, by decide +kernel, by decide⟩
theorem li_X2_mayBe : gx_i yX2_mayBe := ⟨gg_in 766 (by decide +kernel) (by decide +kernel), gg_in 55 (by decide +kernel) (by decide +kernel)⟩
theorem lc_X2_mayHaveBegun : gx_c yX2_mayHaveBegun cX2_mayHaveBegun 3 (some .boolean) 1 := ⟨gg_in 937 (by decide +kernel) (by decide +kernel), gg_in 163 (by decide +kernel) (by decide +kernel), by decide +kernel, by decide +kernel, by decide +kernel, by decide⟩
theorem li_X2_mayHaveBegun : gx_i yX2_mayHaveBegun := ⟨gg_in 936 (by decide +kernel) (by decide +kernel), gg_in 84 (by decide +kernel) (by decide +kernel)⟩
theorem lc_X2_rowsMore : gx_c yX2_rowsMore cX2_rowsMore 7 (some .int) 1 := ⟨gg_in 948 (by decide +kernel) (by decide +kernel), gg_in 163 (by decide +kernel) (by decide +kernel), by decide +kernel, by decide +kernel, by decide +kernel, by decide⟩
theorem li_X2_rowsMore : gx_i yX2_rowsMore := ⟨gg_in 947 (by decide +kernel) (by decide +kernel), gg_in 86 (by decide +kernel) (by decide +kernel)⟩
theorem lc_X2_rowsMoreForPair : gx_c yX2_rowsMoreForPair cX2_rowsMoreForPair 4 (some .int) 2 := ⟨gg_in 953 (by decide +kernel) (by decide +kernel), gg_in 163 (by decide +kernel) (by decide +kernel), by decide +kernel, by decide +kernel, by decide +kernel, by decide⟩
theorem li_X2_rowsMoreForPair : gx_i yX2_rowsMoreForPair := ⟨gg_in 952 (by decide +kernel) (by decide +kernel), gg_in 87 (by decide +kernel) (by decide +kernel)⟩
theorem lc_X3_add : gx_c yX3_add cX3_add 2 (some .boolean) 1 := ⟨gg_in 560 (by decide +kernel) (by decide +kernel), gg_in 159 (by decide +kernel) (by decide +kernel), by decide +kernel, by decide +kernel, by decide +kernel, by decide⟩
theorem li_X3_add : gx_i yX3_add := ⟨gg_in 559 (by decide +kernel) (by decide +kernel), gg_in 21 (by decide +kernel) (by decide +kernel)⟩
theorem lc_X3_isDigit : gx_c yX3_isDigit cX3_isDigit 1 (some .boolean) 1 := ⟨gg_in 587 (by decide +kernel) (by decide +kernel), gg_in 159 (by decide +kernel) (by decide +kernel), by decide +kernel, by decide +kernel, by decide +kernel, by decide⟩
theorem li_X3_isDigit : Cond.static yX3_isDigit ∈ gg_l := gg_in 586 (by decide +kernel) (by decide +kernel)
theorem lc_X3_isNext : gx_c yX3_isNext cX3_isNext 2 (some .boolean) 1 := ⟨gg_in 606 (by decide +kernel) (by decide +kernel), gg_in 159 (by decide +kernel) (by decide +kernel), by decide +kernel, by decide +kernel, by decide +kernel, by decide⟩
theorem li_X3_isNext : gx_i yX3_isNext := ⟨gg_in 605 (by decide +kernel) (by decide +kernel), gg_in 30 (by decide +kernel) (by decide +kernel)⟩
theorem lc_X3_levelOf : gx_c yX3_levelOf cX3_levelOf 1 (some .int) 1 := ⟨gg_in 613 (by decide +kernel) (by decide +kernel), gg_in 159 (by decide +kernel) (by decide +kernel), by decide +kernel, by decide +kernel, by decide +kernel, by decide⟩
theorem li_X3_levelOf : Cond.static yX3_levelOf ∈ gg_l := gg_in 612 (by decide +kernel) (by decide +kernel)
theorem lc_X3_nameOf : gx_c yX3_nameOf cX3_nameOf 1 (some .int) 1 := ⟨gg_in 598 (by decide +kernel) (by decide +kernel), gg_in 159 (by decide +kernel) (by decide +kernel), by decide +kernel, by decide +kernel, by decide +kernel, by decide⟩
theorem li_X3_nameOf : Cond.static yX3_nameOf ∈ gg_l := gg_in 597 (by decide +kernel) (by decide +kernel)
theorem lc_X3_readAll : gx_c yX3_readAll cX3_readAll 4 (some .int) 0 := ⟨gg_in 568 (by decide +kernel) (by decide +kernel), gg_in 159 (by decide +kernel) (by decide +kernel), by decide +kernel, by decide +kernel, by decide +kernel, by decide⟩
theorem li_X3_readAll : gx_i yX3_readAll := ⟨gg_in 567 (by decide +kernel) (by decide +kernel), gg_in 22 (by decide +kernel) (by decide +kernel)⟩
theorem lc_X3_readBraced : gx_c yX3_readBraced cX3_readBraced 2 (some .boolean) 1 := ⟨gg_in 602 (by decide +kernel) (by decide +kernel), gg_in 159 (by decide +kernel) (by decide +kernel), by decide +kernel, by decide +kernel, by decide +kernel, by decide⟩
theorem li_X3_readBraced : gx_i yX3_readBraced := ⟨gg_in 601 (by decide +kernel) (by decide +kernel), gg_in 29 (by decide +kernel) (by decide +kernel)⟩
theorem lc_X3_readJoined : gx_c yX3_readJoined cX3_readJoined 5 (some .boolean) 2 := ⟨gg_in 576 (by decide +kernel) (by decide +kernel), gg_in 159 (by decide +kernel) (by decide +kernel), by decide +kernel, by decide +kernel, by decide +kernel, by decide⟩
theorem li_X3_readJoined : gx_i yX3_readJoined := ⟨gg_in 575 (by decide +kernel) (by decide +kernel), gg_in 24 (by decide +kernel) (by decide +kernel)⟩
theorem lc_X3_readLine : gx_c yX3_readLine cX3_readLine 2 (some .boolean) 0 := ⟨gg_in 572 (by decide +kernel) (by decide +kernel), gg_in 159 (by decide +kernel) (by decide +kernel), by decide +kernel, by decide +kernel, by decide +kernel, by decide⟩
theorem li_X3_readLine : gx_i yX3_readLine := ⟨gg_in 571 (by decide +kernel) (by decide +kernel), gg_in 23 (by decide +kernel) (by decide +kernel)⟩
theorem lc_X3_readNumber : gx_c yX3_readNumber cX3_readNumber 3 (some .int) 0 := ⟨gg_in 591 (by decide +kernel) (by decide +kernel), gg_in 159 (by decide +kernel) (by decide +kernel), by decide +kernel, by decide +kernel, by decide +kernel, by decide⟩
theorem li_X3_readNumber : gx_i yX3_readNumber := ⟨gg_in 590 (by decide +kernel) (by decide +kernel), gg_in 27 (by decide +kernel) (by decide +kernel)⟩
theorem lc_X3_readOperand : gx_c yX3_readOperand cX3_readOperand 3 (some .boolean) 1 := ⟨gg_in 584 (by decide +kernel) (by decide +kernel), gg_in 159 (by decide +kernel) (by decide +kernel), by decide +kernel, by decide +kernel, by decide +kernel, by decide⟩
theorem li_X3_readOperand : gx_i yX3_readOperand := ⟨gg_in 583 (by decide +kernel) (by decide +kernel), gg_in 26 (by decide +kernel) (by decide +kernel)⟩
theorem lc_X3_readPart : gx_c yX3_readPart cX3_readPart 3 (some .boolean) 2 := ⟨gg_in 580 (by decide +kernel) (by decide +kernel), gg_in 159 (by decide +kernel) (by decide +kernel), by decide +kernel, by decide +kernel, by decide +kernel, by decide⟩
theorem li_X3_readPart : gx_i yX3_readPart := ⟨gg_in 579 (by decide +kernel) (by decide +kernel), gg_in 25 (by decide +kernel) (by decide +kernel)⟩
theorem lc_X3_readSigned : gx_c yX3_readSigned cX3_readSigned 3 (some .boolean) 2 := ⟨gg_in 610 (by decide +kernel) (by decide +kernel), gg_in 159 (by decide +kernel) (by decide +kernel), by decide +kernel, by decide +kernel, by decide +kernel, by decide⟩
theorem li_X3_readSigned : gx_i yX3_readSigned := ⟨gg_in 609 (by decide +kernel) (by decide +kernel), gg_in 31 (by decide +kernel) (by decide +kernel)⟩
theorem lc_X4_add : gx_c yX4_add cX4_add 3 none 2 := ⟨gg_in 595 (by decide +kernel) (by decide +kernel), gg_in 160 (by decide +kernel) (by decide +kernel), by decide +kernel, by decide +kernel, by decide +kernel, by decide⟩
theorem li_X4_add : gx_i yX4_add := ⟨gg_in 594 (by decide +kernel) (by decide +kernel), gg_in 28 (by decide +kernel) (by decide +kernel)⟩
theorem lc_X4_joined : gx_c yX4_joined cX4_joined 3 (some .int) 3 := ⟨gg_in 639 (by decide +kernel) (by decide +kernel), gg_in 160 (by decide +kernel) (by decide +kernel), by decide +kernel, by decide +kernel, by decide +kernel, by decide⟩
theorem li_X4_joined : Cond.static yX4_joined ∈ gg_l := gg_in 638 (by decide +kernel) (by decide +kernel)
theorem lc_X4_name : gx_c yX4_name cX4_name 7 none 6 := ⟨gg_in 629 (by decide +kernel) (by decide +kernel), gg_in 160 (by decide +kernel) (by decide +kernel), by decide +kernel, by decide +kernel, by decide +kernel, by decide⟩
theorem li_X4_name : gx_i yX4_name := ⟨gg_in 628 (by decide +kernel) (by decide +kernel), gg_in 34 (by decide +kernel) (by decide +kernel)⟩
theorem lc_X4_skipToEnd : gx_c yX4_skipToEnd cX4_skipToEnd 2 none 1 := ⟨gg_in 617 (by decide +kernel) (by decide +kernel), gg_in 160 (by decide +kernel) (by decide +kernel), by decide +kernel, by decide +kernel, by decide +kernel, by decide⟩
theorem li_X4_skipToEnd : gx_i yX4_skipToEnd := ⟨gg_in 616 (by decide +kernel) (by decide +kernel), gg_in 32 (by decide +kernel) (by decide +kernel)⟩
theorem lc_X4_truth : gx_c yX4_truth cX4_truth 1 (some .int) 1 := ⟨gg_in 636 (by decide +kernel) (by decide +kernel), gg_in 160 (by decide +kernel) (by decide +kernel), by decide +kernel, by decide +kernel, by decide +kernel, by decide⟩
theorem li_X4_truth : Cond.static yX4_truth ∈ gg_l := gg_in 635 (by decide +kernel) (by decide +kernel)
theorem lc_X4_work : gx_c yX4_work cX4_work 5 (some .int) 0 := ⟨gg_in 633 (by decide +kernel) (by decide +kernel), gg_in 160 (by decide +kernel) (by decide +kernel), by decide +kernel, by decide +kernel, by decide +kernel, by decide⟩
theorem li_X4_work : gx_i yX4_work := ⟨gg_in 632 (by decide +kernel) (by decide +kernel), gg_in 35 (by decide +kernel) (by decide +kernel)⟩
theorem lc_X5_answerOf : gx_c yX5_answerOf cX5_answerOf 3 (some .int) 2 := ⟨gg_in 891 (by decide +kernel) (by decide +kernel), gg_in 162 (by decide +kernel) (by decide +kernel), by decide +kernel, by decide +kernel, by decide +kernel, by decide⟩
theorem li_X5_answerOf : gx_i yX5_answerOf := ⟨gg_in 890 (by decide +kernel) (by decide +kernel), gg_in 77 (by decide +kernel) (by decide +kernel)⟩
theorem lc_X5_differences : gx_c yX5_differences cX5_differences 5 (some .int) 2 := ⟨gg_in 887 (by decide +kernel) (by decide +kernel), gg_in 162 (by decide +kernel) (by decide +kernel), by decide +kernel, by decide +kernel, by decide +kernel, by decide⟩
theorem li_X5_differences : gx_i yX5_differences := ⟨gg_in 886 (by decide +kernel) (by decide +kernel), gg_in 76 (by decide +kernel) (by decide +kernel)⟩
theorem lc_X5_fillFrom : gx_c yX5_fillFrom cX5_fillFrom 5 none 2 := ⟨gg_in 865 (by decide +kernel) (by decide +kernel), gg_in 162 (by decide +kernel) (by decide +kernel), by decide +kernel, by decide +kernel, by decide +kernel, by decide⟩
theorem li_X5_fillFrom : gx_i yX5_fillFrom := ⟨gg_in 864 (by decide +kernel) (by decide +kernel), gg_in 71 (by decide +kernel) (by decide +kernel)⟩
theorem lc_X5_firstAlarm : gx_c yX5_firstAlarm cX5_firstAlarm 1 (some .boolean) 0 := ⟨gg_in 916 (by decide +kernel) (by decide +kernel), gg_in 162 (by decide +kernel) (by decide +kernel), by decide +kernel, by decide +kernel, by decide +kernel, by decide⟩
theorem li_X5_firstAlarm : gx_i yX5_firstAlarm := ⟨gg_in 915 (by decide +kernel) (by decide +kernel), gg_in 81 (by decide +kernel) (by decide +kernel)⟩
theorem lc_X5_firstRowTold : gx_c yX5_firstRowTold cX5_firstRowTold 7 (some .boolean) 2 := ⟨gg_in 904 (by decide +kernel) (by decide +kernel), gg_in 162 (by decide +kernel) (by decide +kernel), by decide +kernel, by decide +kernel, by decide +kernel, by decide⟩
theorem li_X5_firstRowTold : gx_i yX5_firstRowTold := ⟨gg_in 903 (by decide +kernel) (by decide +kernel), gg_in 79 (by decide +kernel) (by decide +kernel)⟩
theorem lc_X5_greatest : gx_c yX5_greatest cX5_greatest 2 (some .int) 1 := ⟨gg_in 908 (by decide +kernel) (by decide +kernel), gg_in 162 (by decide +kernel) (by decide +kernel), by decide +kernel, by decide +kernel, by decide +kernel, by decide⟩
theorem li_X5_greatest : gx_i yX5_greatest := ⟨gg_in 907 (by decide +kernel) (by decide +kernel), gg_in 80 (by decide +kernel) (by decide +kernel)⟩
theorem lc_X5_greedyTable : gx_c yX5_greedyTable cX5_greedyTable 3 (some .int) 0 := ⟨gg_in 900 (by decide +kernel) (by decide +kernel), gg_in 162 (by decide +kernel) (by decide +kernel), by decide +kernel, by decide +kernel, by decide +kernel, by decide⟩
theorem li_X5_greedyTable : gx_i yX5_greedyTable := ⟨gg_in 899 (by decide +kernel) (by decide +kernel), gg_in 78 (by decide +kernel) (by decide +kernel)⟩
theorem lc_X5_hoursAhead : gx_c yX5_hoursAhead cX5_hoursAhead 2 (some .int) 1 := ⟨gg_in 878 (by decide +kernel) (by decide +kernel), gg_in 162 (by decide +kernel) (by decide +kernel), by decide +kernel, by decide +kernel, by decide +kernel, by decide⟩
theorem li_X5_hoursAhead : gx_i yX5_hoursAhead := ⟨gg_in 877 (by decide +kernel) (by decide +kernel), gg_in 74 (by decide +kernel) (by decide +kernel)⟩
theorem lc_X5_isTold : gx_c yX5_isTold cX5_isTold 5 (some .boolean) 2 := ⟨gg_in 882 (by decide +kernel) (by decide +kernel), gg_in 162 (by decide +kernel) (by decide +kernel), by decide +kernel, by decide +kernel, by decide +kernel, by decide⟩
theorem li_X5_isTold : gx_i yX5_isTold := ⟨gg_in 881 (by decide +kernel) (by decide +kernel), gg_in 75 (by decide +kernel) (by decide +kernel)⟩
theorem lc_X5_leastTable : gx_c yX5_leastTable cX5_leastTable 1 (some .int) 0 := ⟨gg_in 861 (by decide +kernel) (by decide +kernel), gg_in 162 (by decide +kernel) (by decide +kernel), by decide +kernel, by decide +kernel, by decide +kernel, by decide⟩
theorem li_X5_leastTable : gx_i yX5_leastTable := ⟨gg_in 860 (by decide +kernel) (by decide +kernel), gg_in 70 (by decide +kernel) (by decide +kernel)⟩
theorem lc_X5_mayTryAllRows : gx_c yX5_mayTryAllRows cX5_mayTryAllRows 1 (some .boolean) 0 := ⟨gg_in 852 (by decide +kernel) (by decide +kernel), gg_in 162 (by decide +kernel) (by decide +kernel), by decide +kernel, by decide +kernel, by decide +kernel, by decide⟩
theorem li_X5_mayTryAllRows : gx_i yX5_mayTryAllRows := ⟨gg_in 851 (by decide +kernel) (by decide +kernel), gg_in 68 (by decide +kernel) (by decide +kernel)⟩
theorem lc_X5_mayTryAllTables : gx_c yX5_mayTryAllTables cX5_mayTryAllTables 4 (some .boolean) 0 := ⟨gg_in 848 (by decide +kernel) (by decide +kernel), gg_in 162 (by decide +kernel) (by decide +kernel), by decide +kernel, by decide +kernel, by decide +kernel, by decide⟩
theorem li_X5_mayTryAllTables : gx_i yX5_mayTryAllTables := ⟨gg_in 847 (by decide +kernel) (by decide +kernel), gg_in 67 (by decide +kernel) (by decide +kernel)⟩
theorem lc_X5_rowsThereAre : gx_c yX5_rowsThereAre cX5_rowsThereAre 3 (some .int) 0 := ⟨gg_in 856 (by decide +kernel) (by decide +kernel), gg_in 162 (by decide +kernel) (by decide +kernel), by decide +kernel, by decide +kernel, by decide +kernel, by decide⟩
theorem li_X5_rowsThereAre : gx_i yX5_rowsThereAre := ⟨gg_in 855 (by decide +kernel) (by decide +kernel), gg_in 69 (by decide +kernel) (by decide +kernel)⟩
theorem lc_X5_spell : gx_c yX5_spell cX5_spell 6 (some .int) 1 := ⟨gg_in 874 (by decide +kernel) (by decide +kernel), gg_in 162 (by decide +kernel) (by decide +kernel), by decide +kernel, by decide +kernel, by decide +kernel, by decide⟩
theorem li_X5_spell : gx_i yX5_spell := ⟨gg_in 873 (by decide +kernel) (by decide +kernel), gg_in 73 (by decide +kernel) (by decide +kernel)⟩
theorem lc_X5_tryRow : gx_c yX5_tryRow cX5_tryRow 5 none 3 := ⟨gg_in 870 (by decide +kernel) (by decide +kernel), gg_in 162 (by decide +kernel) (by decide +kernel), by decide +kernel, by decide +kernel, by decide +kernel, by decide⟩
theorem li_X5_tryRow : gx_i yX5_tryRow := ⟨gg_in 869 (by decide +kernel) (by decide +kernel), gg_in 72 (by decide +kernel) (by decide +kernel)⟩
theorem lc_X6_at : gx_c yX6_at cX6_at 3 (some .long) 2 := ⟨gg_in 524 (by decide +kernel) (by decide +kernel), gg_in 165 (by decide +kernel) (by decide +kernel), by decide +kernel, by decide +kernel, by decide +kernel, by decide⟩
theorem li_X6_at : gx_i yX6_at := ⟨gg_in 523 (by decide +kernel) (by decide +kernel), gg_in 16 (by decide +kernel) (by decide +kernel)⟩
theorem lc_X6_clear : gx_c yX6_clear cX6_clear 2 none 1 := ⟨gg_in 1029 (by decide +kernel) (by decide +kernel), gg_in 165 (by decide +kernel) (by decide +kernel), by decide +kernel, by decide +kernel, by decide +kernel, by decide⟩
theorem li_X6_clear : gx_i yX6_clear := ⟨gg_in 1028 (by decide +kernel) (by decide +kernel), gg_in 97 (by decide +kernel) (by decide +kernel)⟩
theorem lc_X6_copy : gx_c yX6_copy cX6_copy 6 none 5 := ⟨gg_in 1084 (by decide +kernel) (by decide +kernel), gg_in 165 (by decide +kernel) (by decide +kernel), by decide +kernel, by decide +kernel, by decide +kernel, by decide⟩
theorem li_X6_copy : gx_i yX6_copy := ⟨gg_in 1083 (by decide +kernel) (by decide +kernel), gg_in 105 (by decide +kernel) (by decide +kernel)⟩
theorem lc_X6_hasPart : gx_c yX6_hasPart cX6_hasPart 4 (some .boolean) 3 := ⟨gg_in 1080 (by decide +kernel) (by decide +kernel), gg_in 165 (by decide +kernel) (by decide +kernel), by decide +kernel, by decide +kernel, by decide +kernel, by decide⟩
theorem li_X6_hasPart : gx_i yX6_hasPart := ⟨gg_in 1079 (by decide +kernel) (by decide +kernel), gg_in 104 (by decide +kernel) (by decide +kernel)⟩
theorem lc_X6_hasPlace : gx_c yX6_hasPlace cX6_hasPlace 3 (some .boolean) 2 := ⟨gg_in 520 (by decide +kernel) (by decide +kernel), gg_in 165 (by decide +kernel) (by decide +kernel), by decide +kernel, by decide +kernel, by decide +kernel, by decide⟩
theorem li_X6_hasPlace : gx_i yX6_hasPlace := ⟨gg_in 519 (by decide +kernel) (by decide +kernel), gg_in 15 (by decide +kernel) (by decide +kernel)⟩
theorem lc_X6_hasShelf : gx_c yX6_hasShelf cX6_hasShelf 2 (some .boolean) 1 := ⟨gg_in 507 (by decide +kernel) (by decide +kernel), gg_in 165 (by decide +kernel) (by decide +kernel), by decide +kernel, by decide +kernel, by decide +kernel, by decide⟩
theorem li_X6_hasShelf : gx_i yX6_hasShelf := ⟨gg_in 506 (by decide +kernel) (by decide +kernel), gg_in 12 (by decide +kernel) (by decide +kernel)⟩
theorem lc_X6_holdRow : gx_c yX6_holdRow cX6_holdRow 5 none 3 := ⟨gg_in 1041 (by decide +kernel) (by decide +kernel), gg_in 165 (by decide +kernel) (by decide +kernel), by decide +kernel, by decide +kernel, by decide +kernel, by decide⟩
theorem li_X6_holdRow : gx_i yX6_holdRow := ⟨gg_in 1040 (by decide +kernel) (by decide +kernel), gg_in 99 (by decide +kernel) (by decide +kernel)⟩
theorem lc_X6_holdTable : gx_c yX6_holdTable cX6_holdTable 3 none 2 := ⟨gg_in 1033 (by decide +kernel) (by decide +kernel), gg_in 165 (by decide +kernel) (by decide +kernel), by decide +kernel, by decide +kernel, by decide +kernel, by decide⟩
theorem li_X6_holdTable : gx_i yX6_holdTable := ⟨gg_in 1032 (by decide +kernel) (by decide +kernel), gg_in 98 (by decide +kernel) (by decide +kernel)⟩
theorem lc_X6_holdsARow : gx_c yX6_holdsARow cX6_holdsARow 2 (some .boolean) 1 := ⟨gg_in 1055 (by decide +kernel) (by decide +kernel), gg_in 165 (by decide +kernel) (by decide +kernel), by decide +kernel, by decide +kernel, by decide +kernel, by decide⟩
theorem li_X6_holdsARow : gx_i yX6_holdsARow := ⟨gg_in 1054 (by decide +kernel) (by decide +kernel), gg_in 101 (by decide +kernel) (by decide +kernel)⟩
theorem lc_X6_holdsATable : gx_c yX6_holdsATable cX6_holdsATable 2 (some .boolean) 1 := ⟨gg_in 1093 (by decide +kernel) (by decide +kernel), gg_in 165 (by decide +kernel) (by decide +kernel), by decide +kernel, by decide +kernel, by decide +kernel, by decide⟩
theorem li_X6_holdsATable : gx_i yX6_holdsATable := ⟨gg_in 1092 (by decide +kernel) (by decide +kernel), gg_in 106 (by decide +kernel) (by decide +kernel)⟩
theorem lc_X6_holdsBytes : gx_c yX6_holdsBytes cX6_holdsBytes 2 (some .boolean) 1 := ⟨gg_in 516 (by decide +kernel) (by decide +kernel), gg_in 165 (by decide +kernel) (by decide +kernel), by decide +kernel, by decide +kernel, by decide +kernel, by decide⟩
theorem li_X6_holdsBytes : gx_i yX6_holdsBytes := ⟨gg_in 515 (by decide +kernel) (by decide +kernel), gg_in 14 (by decide +kernel) (by decide +kernel)⟩
theorem lc_X6_isBare : gx_c yX6_isBare cX6_isBare 2 (some .boolean) 1 := ⟨gg_in 512 (by decide +kernel) (by decide +kernel), gg_in 165 (by decide +kernel) (by decide +kernel), by decide +kernel, by decide +kernel, by decide +kernel, by decide⟩
theorem li_X6_isBare : gx_i yX6_isBare := ⟨gg_in 511 (by decide +kernel) (by decide +kernel), gg_in 13 (by decide +kernel) (by decide +kernel)⟩
theorem lc_X6_lowestBits : gx_c yX6_lowestBits cX6_lowestBits 3 (some .long) 2 := ⟨gg_in 1063 (by decide +kernel) (by decide +kernel), gg_in 165 (by decide +kernel) (by decide +kernel), by decide +kernel, by decide +kernel, by decide +kernel, by decide⟩
theorem li_X6_lowestBits : Cond.static yX6_lowestBits ∈ gg_l := gg_in 1062 (by decide +kernel) (by decide +kernel)
theorem lc_X6_refusalAt : gx_c yX6_refusalAt cX6_refusalAt 3 (some .int) 2 := ⟨gg_in 1049 (by decide +kernel) (by decide +kernel), gg_in 165 (by decide +kernel) (by decide +kernel), by decide +kernel, by decide +kernel, by decide +kernel, by decide⟩
theorem li_X6_refusalAt : gx_i yX6_refusalAt := ⟨gg_in 1048 (by decide +kernel) (by decide +kernel), gg_in 100 (by decide +kernel) (by decide +kernel)⟩
theorem lc_X6_sameSort : gx_c yX6_sameSort cX6_sameSort 3 (some .boolean) 2 := ⟨gg_in 1076 (by decide +kernel) (by decide +kernel), gg_in 165 (by decide +kernel) (by decide +kernel), by decide +kernel, by decide +kernel, by decide +kernel, by decide⟩
theorem li_X6_sameSort : gx_i yX6_sameSort := ⟨gg_in 1075 (by decide +kernel) (by decide +kernel), gg_in 103 (by decide +kernel) (by decide +kernel)⟩
theorem lc_X6_write : gx_c yX6_write cX6_write 5 none 3 := ⟨gg_in 1060 (by decide +kernel) (by decide +kernel), gg_in 165 (by decide +kernel) (by decide +kernel), by decide +kernel, by decide +kernel, by decide +kernel, by decide⟩
theorem li_X6_write : gx_i yX6_write := ⟨gg_in 1059 (by decide +kernel) (by decide +kernel), gg_in 102 (by decide +kernel) (by decide +kernel)⟩
theorem lc_X7_allDifferIn : gx_c yX7_allDifferIn cX7_allDifferIn 4 (some .boolean) 2 := ⟨gg_in 702 (by decide +kernel) (by decide +kernel), gg_in 161 (by decide +kernel) (by decide +kernel), by decide +kernel, by decide +kernel, by decide +kernel, by decide⟩
theorem li_X7_allDifferIn : gx_i yX7_allDifferIn := ⟨gg_in 701 (by decide +kernel) (by decide +kernel), gg_in 45 (by decide +kernel) (by decide +kernel)⟩
theorem lc_X7_allTold : gx_c yX7_allTold cX7_allTold 1 (some .boolean) 0 := ⟨gg_in 672 (by decide +kernel) (by decide +kernel), gg_in 161 (by decide +kernel) (by decide +kernel), by decide +kernel, by decide +kernel, by decide +kernel, by decide⟩
theorem li_X7_allTold : gx_i yX7_allTold := ⟨gg_in 671 (by decide +kernel) (by decide +kernel), gg_in 38 (by decide +kernel) (by decide +kernel)⟩
theorem lc_X7_allToldWithAStrokeLost : gx_c yX7_allToldWithAStrokeLost cX7_allToldWithAStrokeLost 3 (some .boolean) 0 := ⟨gg_in 738 (by decide +kernel) (by decide +kernel), gg_in 161 (by decide +kernel) (by decide +kernel), by decide +kernel, by decide +kernel, by decide +kernel, by decide⟩
theorem li_X7_allToldWithAStrokeLost : gx_i yX7_allToldWithAStrokeLost := ⟨gg_in 737 (by decide +kernel) (by decide +kernel), gg_in 50 (by decide +kernel) (by decide +kernel)⟩
theorem lc_X7_bellsOneMore : gx_c yX7_bellsOneMore cX7_bellsOneMore 5 (some .int) 2 := ⟨gg_in 746 (by decide +kernel) (by decide +kernel), gg_in 161 (by decide +kernel) (by decide +kernel), by decide +kernel, by decide +kernel, by decide +kernel, by decide⟩
theorem li_X7_bellsOneMore : gx_i yX7_bellsOneMore := ⟨gg_in 745 (by decide +kernel) (by decide +kernel), gg_in 52 (by decide +kernel) (by decide +kernel)⟩
theorem lc_X7_bellsThatMayRest : gx_c yX7_bellsThatMayRest cX7_bellsThatMayRest 5 (some .int) 0 := ⟨gg_in 963 (by decide +kernel) (by decide +kernel), gg_in 161 (by decide +kernel) (by decide +kernel), by decide +kernel, by decide +kernel, by decide +kernel, by decide⟩
theorem li_X7_bellsThatMayRest : gx_i yX7_bellsThatMayRest := ⟨gg_in 962 (by decide +kernel) (by decide +kernel), gg_in 88 (by decide +kernel) (by decide +kernel)⟩
theorem lc_X7_chanceHeard : gx_c yX7_chanceHeard cX7_chanceHeard 6 (some .long) 1 := ⟨gg_in 834 (by decide +kernel) (by decide +kernel), gg_in 161 (by decide +kernel) (by decide +kernel), by decide +kernel, by decide +kernel, by decide +kernel, by decide⟩
theorem li_X7_chanceHeard : gx_i yX7_chanceHeard := ⟨gg_in 833 (by decide +kernel) (by decide +kernel), gg_in 66 (by decide +kernel) (by decide +kernel)⟩
theorem lc_X7_chanceInLowestTerms : gx_c yX7_chanceInLowestTerms cX7_chanceInLowestTerms 9 (some .long) 2 := ⟨gg_in 821 (by decide +kernel) (by decide +kernel), gg_in 161 (by decide +kernel) (by decide +kernel), by decide +kernel, by decide +kernel, by decide +kernel, by decide⟩
theorem li_X7_chanceInLowestTerms : gx_i yX7_chanceInLowestTerms := ⟨gg_in 820 (by decide +kernel) (by decide +kernel), gg_in 63 (by decide +kernel) (by decide +kernel)⟩
theorem lc_X7_chanceOf : gx_c yX7_chanceOf cX7_chanceOf 5 (some .long) 1 := ⟨gg_in 826 (by decide +kernel) (by decide +kernel), gg_in 161 (by decide +kernel) (by decide +kernel), by decide +kernel, by decide +kernel, by decide +kernel, by decide⟩
theorem li_X7_chanceOf : gx_i yX7_chanceOf := ⟨gg_in 825 (by decide +kernel) (by decide +kernel), gg_in 64 (by decide +kernel) (by decide +kernel)⟩
theorem lc_X7_fewestBells : gx_c yX7_fewestBells cX7_fewestBells 3 (some .int) 0 := ⟨gg_in 812 (by decide +kernel) (by decide +kernel), gg_in 161 (by decide +kernel) (by decide +kernel), by decide +kernel, by decide +kernel, by decide +kernel, by decide⟩
theorem li_X7_fewestBells : gx_i yX7_fewestBells := ⟨gg_in 811 (by decide +kernel) (by decide +kernel), gg_in 62 (by decide +kernel) (by decide +kernel)⟩
theorem lc_X7_firstFault : gx_c yX7_firstFault cX7_firstFault 3 (some .int) 1 := ⟨gg_in 712 (by decide +kernel) (by decide +kernel), gg_in 161 (by decide +kernel) (by decide +kernel), by decide +kernel, by decide +kernel, by decide +kernel, by decide⟩
theorem li_X7_firstFault : gx_i yX7_firstFault := ⟨gg_in 711 (by decide +kernel) (by decide +kernel), gg_in 46 (by decide +kernel) (by decide +kernel)⟩
theorem lc_X7_greatestDivisor : gx_c yX7_greatestDivisor cX7_greatestDivisor 11 (some .long) 2 := ⟨gg_in 837 (by decide +kernel) (by decide +kernel), gg_in 161 (by decide +kernel) (by decide +kernel), by decide +kernel, by decide +kernel, by decide +kernel, by decide⟩
theorem li_X7_greatestDivisor : Cond.static yX7_greatestDivisor ∈ gg_l := gg_in 836 (by decide +kernel) (by decide +kernel)
theorem lc_X7_hourOfFault : gx_c yX7_hourOfFault cX7_hourOfFault 5 (some .int) 2 := ⟨gg_in 721 (by decide +kernel) (by decide +kernel), gg_in 161 (by decide +kernel) (by decide +kernel), by decide +kernel, by decide +kernel, by decide +kernel, by decide⟩
theorem li_X7_hourOfFault : gx_i yX7_hourOfFault := ⟨gg_in 720 (by decide +kernel) (by decide +kernel), gg_in 48 (by decide +kernel) (by decide +kernel)⟩
theorem lc_X7_isHeardSet : gx_c yX7_isHeardSet cX7_isHeardSet 2 (some .boolean) 1 := ⟨gg_in 716 (by decide +kernel) (by decide +kernel), gg_in 161 (by decide +kernel) (by decide +kernel), by decide +kernel, by decide +kernel, by decide +kernel, by decide⟩
theorem li_X7_isHeardSet : gx_i yX7_isHeardSet := ⟨gg_in 715 (by decide +kernel) (by decide +kernel), gg_in 47 (by decide +kernel) (by decide +kernel)⟩
theorem lc_X7_leastDifference : gx_c yX7_leastDifference cX7_leastDifference 4 (some .int) 0 := ⟨gg_in 729 (by decide +kernel) (by decide +kernel), gg_in 161 (by decide +kernel) (by decide +kernel), by decide +kernel, by decide +kernel, by decide +kernel, by decide⟩
theorem li_X7_leastDifference : gx_i yX7_leastDifference := ⟨gg_in 728 (by decide +kernel) (by decide +kernel), gg_in 49 (by decide +kernel) (by decide +kernel)⟩
theorem lc_X7_takeAllPairs : gx_c yX7_takeAllPairs cX7_takeAllPairs 3 none 0 := ⟨gg_in 676 (by decide +kernel) (by decide +kernel), gg_in 161 (by decide +kernel) (by decide +kernel), by decide +kernel, by decide +kernel, by decide +kernel, by decide⟩
theorem li_X7_takeAllPairs : gx_i yX7_takeAllPairs := ⟨gg_in 675 (by decide +kernel) (by decide +kernel), gg_in 39 (by decide +kernel) (by decide +kernel)⟩
theorem lc_X7_takePair : gx_c yX7_takePair cX7_takePair 3 none 2 := ⟨gg_in 680 (by decide +kernel) (by decide +kernel), gg_in 161 (by decide +kernel) (by decide +kernel), by decide +kernel, by decide +kernel, by decide +kernel, by decide⟩
theorem li_X7_takePair : gx_i yX7_takePair := ⟨gg_in 679 (by decide +kernel) (by decide +kernel), gg_in 40 (by decide +kernel) (by decide +kernel)⟩
theorem lc_X7_takePairsOf : gx_c yX7_takePairsOf cX7_takePairsOf 3 none 1 := ⟨gg_in 830 (by decide +kernel) (by decide +kernel), gg_in 161 (by decide +kernel) (by decide +kernel), by decide +kernel, by decide +kernel, by decide +kernel, by decide⟩
theorem li_X7_takePairsOf : gx_i yX7_takePairsOf := ⟨gg_in 829 (by decide +kernel) (by decide +kernel), gg_in 65 (by decide +kernel) (by decide +kernel)⟩
theorem lc_X7_toldWithAStrokeLost : gx_c yX7_toldWithAStrokeLost cX7_toldWithAStrokeLost 8 (some .boolean) 2 := ⟨gg_in 742 (by decide +kernel) (by decide +kernel), gg_in 161 (by decide +kernel) (by decide +kernel), by decide +kernel, by decide +kernel, by decide +kernel, by decide⟩
theorem li_X7_toldWithAStrokeLost : gx_i yX7_toldWithAStrokeLost := ⟨gg_in 741 (by decide +kernel) (by decide +kernel), gg_in 51 (by decide +kernel) (by decide +kernel)⟩
theorem lc_X8_addBell : gx_c yX8_addBell cX8_addBell 4 (some .int) 3 := ⟨gg_in 447 (by decide +kernel) (by decide +kernel), gg_in 157 (by decide +kernel) (by decide +kernel), by decide +kernel, by decide +kernel, by decide +kernel, by decide⟩
theorem li_X8_addBell : gx_i yX8_addBell := ⟨gg_in 446 (by decide +kernel) (by decide +kernel), gg_in 1 (by decide +kernel) (by decide +kernel)⟩
theorem lc_X8_allBells : gx_c yX8_allBells cX8_allBells 1 (some .int) 0 := ⟨gg_in 689 (by decide +kernel) (by decide +kernel), gg_in 157 (by decide +kernel) (by decide +kernel), by decide +kernel, by decide +kernel, by decide +kernel, by decide⟩
theorem li_X8_allBells : gx_i yX8_allBells := ⟨gg_in 688 (by decide +kernel) (by decide +kernel), gg_in 42 (by decide +kernel) (by decide +kernel)⟩
theorem lc_X8_areMixed : gx_c yX8_areMixed cX8_areMixed 3 (some .boolean) 2 := ⟨gg_in 548 (by decide +kernel) (by decide +kernel), gg_in 157 (by decide +kernel) (by decide +kernel), by decide +kernel, by decide +kernel, by decide +kernel, by decide⟩
theorem li_X8_areMixed : gx_i yX8_areMixed := ⟨gg_in 547 (by decide +kernel) (by decide +kernel), gg_in 19 (by decide +kernel) (by decide +kernel)⟩
theorem lc_X8_bellsUnlike : gx_c yX8_bellsUnlike cX8_bellsUnlike 5 (some .int) 2 := ⟨gg_in 685 (by decide +kernel) (by decide +kernel), gg_in 157 (by decide +kernel) (by decide +kernel), by decide +kernel, by decide +kernel, by decide +kernel, by decide⟩
theorem li_X8_bellsUnlike : gx_i yX8_bellsUnlike := ⟨gg_in 684 (by decide +kernel) (by decide +kernel), gg_in 41 (by decide +kernel) (by decide +kernel)⟩
theorem lc_X8_changeHours : gx_c yX8_changeHours cX8_changeHours 5 none 1 := ⟨gg_in 455 (by decide +kernel) (by decide +kernel), gg_in 157 (by decide +kernel) (by decide +kernel), by decide +kernel, by decide +kernel, by decide +kernel, by decide⟩
theorem li_X8_changeHours : gx_i yX8_changeHours := ⟨gg_in 454 (by decide +kernel) (by decide +kernel), gg_in 2 (by decide +kernel) (by decide +kernel)⟩
theorem lc_X8_costOfADay : gx_c yX8_costOfADay cX8_costOfADay 3 (some .int) 0 := ⟨gg_in 796 (by decide +kernel) (by decide +kernel), gg_in 157 (by decide +kernel) (by decide +kernel), by decide +kernel, by decide +kernel, by decide +kernel, by decide⟩
theorem li_X8_costOfADay : gx_i yX8_costOfADay := ⟨gg_in 795 (by decide +kernel) (by decide +kernel), gg_in 59 (by decide +kernel) (by decide +kernel)⟩
theorem lc_X8_costOfBell : gx_c yX8_costOfBell cX8_costOfBell 2 (some .int) 1 := ⟨gg_in 800 (by decide +kernel) (by decide +kernel), gg_in 157 (by decide +kernel) (by decide +kernel), by decide +kernel, by decide +kernel, by decide +kernel, by decide⟩
theorem li_X8_costOfBell : gx_i yX8_costOfBell := ⟨gg_in 799 (by decide +kernel) (by decide +kernel), gg_in 60 (by decide +kernel) (by decide +kernel)⟩
theorem lc_X8_dearestBell : gx_c yX8_dearestBell cX8_dearestBell 3 (some .int) 0 := ⟨gg_in 804 (by decide +kernel) (by decide +kernel), gg_in 157 (by decide +kernel) (by decide +kernel), by decide +kernel, by decide +kernel, by decide +kernel, by decide⟩
theorem li_X8_dearestBell : gx_i yX8_dearestBell := ⟨gg_in 803 (by decide +kernel) (by decide +kernel), gg_in 61 (by decide +kernel) (by decide +kernel)⟩
theorem lc_X8_differencesWanted : gx_c yX8_differencesWanted cX8_differencesWanted 1 (some .int) 0 := ⟨gg_in 693 (by decide +kernel) (by decide +kernel), gg_in 157 (by decide +kernel) (by decide +kernel), by decide +kernel, by decide +kernel, by decide +kernel, by decide⟩
theorem li_X8_differencesWanted : gx_i yX8_differencesWanted := ⟨gg_in 692 (by decide +kernel) (by decide +kernel), gg_in 43 (by decide +kernel) (by decide +kernel)⟩
theorem lc_X8_greatestOf : gx_c yX8_greatestOf cX8_greatestOf 4 (some .int) 1 := ⟨gg_in 532 (by decide +kernel) (by decide +kernel), gg_in 157 (by decide +kernel) (by decide +kernel), by decide +kernel, by decide +kernel, by decide +kernel, by decide⟩
theorem li_X8_greatestOf : gx_i yX8_greatestOf := ⟨gg_in 531 (by decide +kernel) (by decide +kernel), gg_in 17 (by decide +kernel) (by decide +kernel)⟩
theorem lc_X8_hasBell : gx_c yX8_hasBell cX8_hasBell 2 (some .boolean) 1 := ⟨gg_in 479 (by decide +kernel) (by decide +kernel), gg_in 157 (by decide +kernel) (by decide +kernel), by decide +kernel, by decide +kernel, by decide +kernel, by decide⟩
theorem li_X8_hasBell : gx_i yX8_hasBell := ⟨gg_in 478 (by decide +kernel) (by decide +kernel), gg_in 7 (by decide +kernel) (by decide +kernel)⟩
theorem lc_X8_hasCell : gx_c yX8_hasCell cX8_hasCell 2 (some .boolean) 1 := ⟨gg_in 471 (by decide +kernel) (by decide +kernel), gg_in 157 (by decide +kernel) (by decide +kernel), by decide +kernel, by decide +kernel, by decide +kernel, by decide⟩
theorem li_X8_hasCell : gx_i yX8_hasCell := ⟨gg_in 470 (by decide +kernel) (by decide +kernel), gg_in 5 (by decide +kernel) (by decide +kernel)⟩
theorem lc_X8_hasHour : gx_c yX8_hasHour cX8_hasHour 2 (some .boolean) 1 := ⟨gg_in 475 (by decide +kernel) (by decide +kernel), gg_in 157 (by decide +kernel) (by decide +kernel), by decide +kernel, by decide +kernel, by decide +kernel, by decide⟩
theorem li_X8_hasHour : gx_i yX8_hasHour := ⟨gg_in 474 (by decide +kernel) (by decide +kernel), gg_in 6 (by decide +kernel) (by decide +kernel)⟩
theorem lc_X8_hasPair : gx_c yX8_hasPair cX8_hasPair 2 (some .boolean) 1 := ⟨gg_in 544 (by decide +kernel) (by decide +kernel), gg_in 157 (by decide +kernel) (by decide +kernel), by decide +kernel, by decide +kernel, by decide +kernel, by decide⟩
theorem li_X8_hasPair : gx_i yX8_hasPair := ⟨gg_in 543 (by decide +kernel) (by decide +kernel), gg_in 18 (by decide +kernel) (by decide +kernel)⟩
theorem lc_X8_heardTogether : gx_c yX8_heardTogether cX8_heardTogether 1 (some .int) 0 := ⟨gg_in 697 (by decide +kernel) (by decide +kernel), gg_in 157 (by decide +kernel) (by decide +kernel), by decide +kernel, by decide +kernel, by decide +kernel, by decide⟩
theorem li_X8_heardTogether : gx_i yX8_heardTogether := ⟨gg_in 696 (by decide +kernel) (by decide +kernel), gg_in 44 (by decide +kernel) (by decide +kernel)⟩
theorem lc_X8_hoursStriking : gx_c yX8_hoursStriking cX8_hoursStriking 5 (some .int) 2 := ⟨gg_in 777 (by decide +kernel) (by decide +kernel), gg_in 157 (by decide +kernel) (by decide +kernel), by decide +kernel, by decide +kernel, by decide +kernel, by decide⟩
theorem li_X8_hoursStriking : gx_i yX8_hoursStriking := ⟨gg_in 776 (by decide +kernel) (by decide +kernel), gg_in 56 (by decide +kernel) (by decide +kernel)⟩
theorem lc_X8_makeMixed : gx_c yX8_makeMixed cX8_makeMixed 4 none 3 := ⟨gg_in 552 (by decide +kernel) (by decide +kernel), gg_in 157 (by decide +kernel) (by decide +kernel), by decide +kernel, by decide +kernel, by decide +kernel, by decide⟩
theorem li_X8_makeMixed : gx_i yX8_makeMixed := ⟨gg_in 551 (by decide +kernel) (by decide +kernel), gg_in 20 (by decide +kernel) (by decide +kernel)⟩
theorem lc_X8_mayStrike : gx_c yX8_mayStrike cX8_mayStrike 4 (some .boolean) 2 := ⟨gg_in 483 (by decide +kernel) (by decide +kernel), gg_in 157 (by decide +kernel) (by decide +kernel), by decide +kernel, by decide +kernel, by decide +kernel, by decide⟩
theorem li_X8_mayStrike : gx_i yX8_mayStrike := ⟨gg_in 482 (by decide +kernel) (by decide +kernel), gg_in 8 (by decide +kernel) (by decide +kernel)⟩
theorem lc_X8_struck : gx_c yX8_struck cX8_struck 3 (some .int) 2 := ⟨gg_in 487 (by decide +kernel) (by decide +kernel), gg_in 157 (by decide +kernel) (by decide +kernel), by decide +kernel, by decide +kernel, by decide +kernel, by decide⟩
theorem li_X8_struck : gx_i yX8_struck := ⟨gg_in 486 (by decide +kernel) (by decide +kernel), gg_in 9 (by decide +kernel) (by decide +kernel)⟩
theorem lc_X8_totalOfAll : gx_c yX8_totalOfAll cX8_totalOfAll 3 (some .int) 0 := ⟨gg_in 647 (by decide +kernel) (by decide +kernel), gg_in 157 (by decide +kernel) (by decide +kernel), by decide +kernel, by decide +kernel, by decide +kernel, by decide⟩
theorem li_X8_totalOfAll : gx_i yX8_totalOfAll := ⟨gg_in 646 (by decide +kernel) (by decide +kernel), gg_in 36 (by decide +kernel) (by decide +kernel)⟩
theorem lc_X8_totalOfBell : gx_c yX8_totalOfBell cX8_totalOfBell 4 (some .int) 1 := ⟨gg_in 651 (by decide +kernel) (by decide +kernel), gg_in 157 (by decide +kernel) (by decide +kernel), by decide +kernel, by decide +kernel, by decide +kernel, by decide⟩
theorem li_X8_totalOfBell : gx_i yX8_totalOfBell := ⟨gg_in 650 (by decide +kernel) (by decide +kernel), gg_in 37 (by decide +kernel) (by decide +kernel)⟩
theorem lc_X8_totalOfHour : gx_c yX8_totalOfHour cX8_totalOfHour 4 (some .int) 1 := ⟨gg_in 787 (by decide +kernel) (by decide +kernel), gg_in 157 (by decide +kernel) (by decide +kernel), by decide +kernel, by decide +kernel, by decide +kernel, by decide⟩
theorem li_X8_totalOfHour : gx_i yX8_totalOfHour := ⟨gg_in 786 (by decide +kernel) (by decide +kernel), gg_in 57 (by decide +kernel) (by decide +kernel)⟩
theorem lc_X8_worstHour : gx_c yX8_worstHour cX8_worstHour 3 (some .int) 0 := ⟨gg_in 791 (by decide +kernel) (by decide +kernel), gg_in 157 (by decide +kernel) (by decide +kernel), by decide +kernel, by decide +kernel, by decide +kernel, by decide⟩
theorem li_X8_worstHour : gx_i yX8_worstHour := ⟨gg_in 790 (by decide +kernel) (by decide +kernel), gg_in 58 (by decide +kernel) (by decide +kernel)⟩
theorem lc_X8_write : gx_c yX8_write cX8_write 4 none 3 := ⟨gg_in 459 (by decide +kernel) (by decide +kernel), gg_in 157 (by decide +kernel) (by decide +kernel), by decide +kernel, by decide +kernel, by decide +kernel, by decide⟩
theorem li_X8_write : gx_i yX8_write := ⟨gg_in 458 (by decide +kernel) (by decide +kernel), gg_in 3 (by decide +kernel) (by decide +kernel)⟩
theorem lc_X9_givenByLaw : gx_c yX9_givenByLaw cX9_givenByLaw 7 (some .int) 2 := ⟨gg_in 625 (by decide +kernel) (by decide +kernel), gg_in 156 (by decide +kernel) (by decide +kernel), by decide +kernel, by decide +kernel, by decide +kernel, by decide⟩
theorem li_X9_givenByLaw : gx_i yX9_givenByLaw := ⟨gg_in 624 (by decide +kernel) (by decide +kernel), gg_in 33 (by decide +kernel) (by decide +kernel)⟩
theorem lc_X9_putBack : gx_c yX9_putBack cX9_putBack 3 none 2 := ⟨gg_in 976 (by decide +kernel) (by decide +kernel), gg_in 156 (by decide +kernel) (by decide +kernel), by decide +kernel, by decide +kernel, by decide +kernel, by decide⟩
theorem li_X9_putBack : gx_i yX9_putBack := ⟨gg_in 975 (by decide +kernel) (by decide +kernel), gg_in 90 (by decide +kernel) (by decide +kernel)⟩
theorem lf_X0_13 : gx_f RX0 13 0 1 := ⟨RX0, TX0, 5, rfl, gg_X0, by decide, gg_in 376 (by decide +kernel) (by decide +kernel)⟩
theorem lf_X0_16 : gx_f RX0 16 0 2 := ⟨RX0, TX0, 5, rfl, gg_X0, by decide, gg_in 378 (by decide +kernel) (by decide +kernel)⟩
theorem lf_X0_20 : gx_f RX0 20 0 3 := ⟨RX0, TX0, 5, rfl, gg_X0, by decide, gg_in 380 (by decide +kernel) (by decide +kernel)⟩
theorem lf_X0_23 : gx_f RX0 23 0 4 := ⟨RX0, TX0, 5, rfl, gg_X0, by decide, gg_in 382 (by decide +kernel) (by decide +kernel)⟩
theorem lf_X0_9 : gx_f RX0 9 0 0 := ⟨RX0, TX0, 5, rfl, gg_X0, by decide, gg_in 375 (by decide +kernel) (by decide +kernel)⟩
theorem lf_X1_15 : gx_f RX1 15 1 1 := ⟨RX1, TX1, 5, rfl, gg_X1, by decide, gg_in 235 (by decide +kernel) (by decide +kernel)⟩
theorem lf_X1_18 : gx_f RX1 18 1 2 := ⟨RX1, TX1, 5, rfl, gg_X1, by decide, gg_in 237 (by decide +kernel) (by decide +kernel)⟩
theorem lf_X1_21 : gx_f RX1 21 1 3 := ⟨RX1, TX1, 5, rfl, gg_X1, by decide, gg_in 239 (by decide +kernel) (by decide +kernel)⟩
theorem lf_X1_25 : gx_f RX1 25 1 4 := ⟨RX1, TX1, 5, rfl, gg_X1, by decide, gg_in 241 (by decide +kernel) (by decide +kernel)⟩
theorem lf_X1_9 : gx_f RX1 9 1 0 := ⟨RX1, TX1, 5, rfl, gg_X1, by decide, gg_in 233 (by decide +kernel) (by decide +kernel)⟩
theorem lf_X2_15 : gx_f RX2 15 2 2 := ⟨RX2, TX2, 5, rfl, gg_X2, by decide, gg_in 353 (by decide +kernel) (by decide +kernel)⟩
theorem lf_X2_18 : gx_f RX2 18 2 3 := ⟨RX2, TX2, 5, rfl, gg_X2, by decide, gg_in 354 (by decide +kernel) (by decide +kernel)⟩
theorem lf_X2_22 : gx_f RX2 22 2 4 := ⟨RX2, TX2, 5, rfl, gg_X2, by decide, gg_in 356 (by decide +kernel) (by decide +kernel)⟩
theorem lf_X2_25 : gx_f RX2 25 2 0 := ⟨RX2, TX2, 5, rfl, gg_X2, by decide, gg_in 351 (by decide +kernel) (by decide +kernel)⟩
theorem lf_X2_32 : gx_fn RX2 32 8 0 := ⟨RX8, TX8, 8, "AnyTwoBells", rfl, gg_X8, by decide, List.mem_of_getElem? (i := 1) (by decide +kernel)⟩
theorem lf_X2_43 : gx_fn RX2 43 8 1 := ⟨RX8, TX8, 8, "AnyTwoBells", rfl, gg_X8, by decide, List.mem_of_getElem? (i := 7) (by decide +kernel)⟩
theorem lf_X2_9 : gx_f RX2 9 2 1 := ⟨RX2, TX2, 5, rfl, gg_X2, by decide, gg_in 352 (by decide +kernel) (by decide +kernel)⟩
theorem lf_X3_13 : gx_f RX3 13 3 1 := ⟨RX3, TX3, 5, rfl, gg_X3, by decide, gg_in 285 (by decide +kernel) (by decide +kernel)⟩
theorem lf_X3_17 : gx_f RX3 17 3 2 := ⟨RX3, TX3, 5, rfl, gg_X3, by decide, gg_in 287 (by decide +kernel) (by decide +kernel)⟩
theorem lf_X3_23 : gx_f RX3 23 3 3 := ⟨RX3, TX3, 5, rfl, gg_X3, by decide, gg_in 288 (by decide +kernel) (by decide +kernel)⟩
theorem lf_X3_27 : gx_f RX3 27 3 4 := ⟨RX3, TX3, 5, rfl, gg_X3, by decide, gg_in 290 (by decide +kernel) (by decide +kernel)⟩
theorem lf_X3_30 : gx_fn RX3 30 4 4 := ⟨RX4, TX4, 5, "AnyTwoBells", rfl, gg_X4, by decide, List.mem_of_getElem? (i := 22) (by decide +kernel)⟩
theorem lf_X3_9 : gx_f RX3 9 3 0 := ⟨RX3, TX3, 5, rfl, gg_X3, by decide, gg_in 284 (by decide +kernel) (by decide +kernel)⟩
theorem lf_X4_11 : gx_f RX4 11 4 0 := ⟨RX4, TX4, 5, rfl, gg_X4, by decide, gg_in 266 (by decide +kernel) (by decide +kernel)⟩
theorem lf_X4_15 : gx_f RX4 15 4 1 := ⟨RX4, TX4, 5, rfl, gg_X4, by decide, gg_in 267 (by decide +kernel) (by decide +kernel)⟩
theorem lf_X4_18 : gx_f RX4 18 4 2 := ⟨RX4, TX4, 5, rfl, gg_X4, by decide, gg_in 268 (by decide +kernel) (by decide +kernel)⟩
theorem lf_X4_21 : gx_f RX4 21 4 3 := ⟨RX4, TX4, 5, rfl, gg_X4, by decide, gg_in 269 (by decide +kernel) (by decide +kernel)⟩
theorem lf_X4_24 : gx_f RX4 24 4 4 := ⟨RX4, TX4, 5, rfl, gg_X4, by decide, gg_in 270 (by decide +kernel) (by decide +kernel)⟩
theorem lf_X5_15 : gx_f RX5 15 5 2 := ⟨RX5, TX5, 5, rfl, gg_X5, by decide, gg_in 327 (by decide +kernel) (by decide +kernel)⟩
theorem lf_X5_18 : gx_f RX5 18 5 3 := ⟨RX5, TX5, 5, rfl, gg_X5, by decide, gg_in 328 (by decide +kernel) (by decide +kernel)⟩
theorem lf_X5_21 : gx_f RX5 21 5 4 := ⟨RX5, TX5, 5, rfl, gg_X5, by decide, gg_in 329 (by decide +kernel) (by decide +kernel)⟩
theorem lf_X5_25 : gx_f RX5 25 5 0 := ⟨RX5, TX5, 5, rfl, gg_X5, by decide, gg_in 324 (by decide +kernel) (by decide +kernel)⟩
theorem lf_X5_29 : gx_fn RX5 29 8 0 := ⟨RX8, TX8, 8, "AnyTwoBells", rfl, gg_X8, by decide, List.mem_of_getElem? (i := 0) (by decide +kernel)⟩
theorem lf_X5_38 : gx_fn RX5 38 8 1 := ⟨RX8, TX8, 8, "AnyTwoBells", rfl, gg_X8, by decide, List.mem_of_getElem? (i := 4) (by decide +kernel)⟩
theorem lf_X5_47 : gx_fn RX5 47 8 3 := ⟨RX8, TX8, 8, "AnyTwoBells", rfl, gg_X8, by decide, List.mem_of_getElem? (i := 10) (by decide +kernel)⟩
theorem lf_X5_75 : gx_fn RX5 75 8 7 := ⟨RX8, TX8, 8, "AnyTwoBells", rfl, gg_X8, by decide, List.mem_of_getElem? (i := 16) (by decide +kernel)⟩
theorem lf_X5_88 : gx_fn RX5 88 8 6 := ⟨RX8, TX8, 8, "AnyTwoBells", rfl, gg_X8, by decide, List.mem_of_getElem? (i := 15) (by decide +kernel)⟩
theorem lf_X5_9 : gx_f RX5 9 5 1 := ⟨RX5, TX5, 5, rfl, gg_X5, by decide, gg_in 325 (by decide +kernel) (by decide +kernel)⟩
theorem lf_X6_11 : gx_f RX6 11 6 0 := ⟨RX6, TX6, 4, rfl, gg_X6, by decide, gg_in 400 (by decide +kernel) (by decide +kernel)⟩
theorem lf_X6_15 : gx_f RX6 15 6 1 := ⟨RX6, TX6, 4, rfl, gg_X6, by decide, gg_in 401 (by decide +kernel) (by decide +kernel)⟩
theorem lf_X6_18 : gx_f RX6 18 6 2 := ⟨RX6, TX6, 4, rfl, gg_X6, by decide, gg_in 403 (by decide +kernel) (by decide +kernel)⟩
theorem lf_X6_21 : gx_f RX6 21 6 3 := ⟨RX6, TX6, 4, rfl, gg_X6, by decide, gg_in 404 (by decide +kernel) (by decide +kernel)⟩
theorem lf_X7_11 : gx_f RX7 11 7 1 := ⟨RX7, TX7, 3, rfl, gg_X7, by decide, gg_in 309 (by decide +kernel) (by decide +kernel)⟩
theorem lf_X7_111 : gx_fn RX7 111 8 5 := ⟨RX8, TX8, 8, "AnyTwoBells", rfl, gg_X8, by decide, List.mem_of_getElem? (i := 14) (by decide +kernel)⟩
theorem lf_X7_15 : gx_f RX7 15 7 2 := ⟨RX7, TX7, 3, rfl, gg_X7, by decide, gg_in 310 (by decide +kernel) (by decide +kernel)⟩
theorem lf_X7_19 : gx_f RX7 19 7 0 := ⟨RX7, TX7, 3, rfl, gg_X7, by decide, gg_in 308 (by decide +kernel) (by decide +kernel)⟩
theorem lf_X7_33 : gx_fn RX7 33 8 1 := ⟨RX8, TX8, 8, "AnyTwoBells", rfl, gg_X8, by decide, List.mem_of_getElem? (i := 5) (by decide +kernel)⟩
theorem lf_X7_80 : gx_fn RX7 80 8 0 := ⟨RX8, TX8, 8, "AnyTwoBells", rfl, gg_X8, by decide, List.mem_of_getElem? (i := 3) (by decide +kernel)⟩
theorem lf_X7_86 : gx_fn RX7 86 8 2 := ⟨RX8, TX8, 8, "AnyTwoBells", rfl, gg_X8, by decide, List.mem_of_getElem? (i := 9) (by decide +kernel)⟩
theorem lf_X8_15 : gx_f RX8 15 8 1 := ⟨RX8, TX8, 8, rfl, gg_X8, by decide, gg_in 189 (by decide +kernel) (by decide +kernel)⟩
theorem lf_X8_18 : gx_f RX8 18 8 2 := ⟨RX8, TX8, 8, rfl, gg_X8, by decide, gg_in 194 (by decide +kernel) (by decide +kernel)⟩
theorem lf_X8_21 : gx_f RX8 21 8 3 := ⟨RX8, TX8, 8, rfl, gg_X8, by decide, gg_in 197 (by decide +kernel) (by decide +kernel)⟩
theorem lf_X8_25 : gx_f RX8 25 8 4 := ⟨RX8, TX8, 8, rfl, gg_X8, by decide, gg_in 200 (by decide +kernel) (by decide +kernel)⟩
theorem lf_X8_28 : gx_f RX8 28 8 5 := ⟨RX8, TX8, 8, rfl, gg_X8, by decide, gg_in 202 (by decide +kernel) (by decide +kernel)⟩
theorem lf_X8_31 : gx_f RX8 31 8 6 := ⟨RX8, TX8, 8, rfl, gg_X8, by decide, gg_in 205 (by decide +kernel) (by decide +kernel)⟩
theorem lf_X8_34 : gx_f RX8 34 8 7 := ⟨RX8, TX8, 8, rfl, gg_X8, by decide, gg_in 207 (by decide +kernel) (by decide +kernel)⟩
theorem lf_X8_9 : gx_f RX8 9 8 0 := ⟨RX8, TX8, 8, rfl, gg_X8, by decide, gg_in 184 (by decide +kernel) (by decide +kernel)⟩
theorem lf_X9_10 : gx_f RX9 10 9 0 := ⟨RX9, TX9, 8, rfl, gg_X9, by decide, gg_in 415 (by decide +kernel) (by decide +kernel)⟩
theorem lf_X9_131 : gx_fn RX9 131 8 3 := ⟨RX8, TX8, 8, "AnyTwoBells", rfl, gg_X8, by decide, List.mem_of_getElem? (i := 11) (by decide +kernel)⟩
theorem lf_X9_148 : gx_fn RX9 148 3 1 := ⟨RX3, TX3, 5, "AnyTwoBells", rfl, gg_X3, by decide, List.mem_of_getElem? (i := 24) (by decide +kernel)⟩
theorem lf_X9_172 : gx_fn RX9 172 8 4 := ⟨RX8, TX8, 8, "AnyTwoBells", rfl, gg_X8, by decide, List.mem_of_getElem? (i := 12) (by decide +kernel)⟩
theorem lf_X9_175 : gx_fn RX9 175 8 5 := ⟨RX8, TX8, 8, "AnyTwoBells", rfl, gg_X8, by decide, List.mem_of_getElem? (i := 13) (by decide +kernel)⟩
theorem lf_X9_19 : gx_f RX9 19 9 1 := ⟨RX9, TX9, 8, rfl, gg_X9, by decide, gg_in 416 (by decide +kernel) (by decide +kernel)⟩
theorem lf_X9_192 : gx_fn RX9 192 2 3 := ⟨RX2, TX2, 5, "AnyTwoBells", rfl, gg_X2, by decide, List.mem_of_getElem? (i := 27) (by decide +kernel)⟩
theorem lf_X9_252 : gx_fn RX9 252 5 1 := ⟨RX5, TX5, 5, "AnyTwoBells", rfl, gg_X5, by decide, List.mem_of_getElem? (i := 26) (by decide +kernel)⟩
theorem lf_X9_255 : gx_fn RX9 255 2 4 := ⟨RX2, TX2, 5, "AnyTwoBells", rfl, gg_X2, by decide, List.mem_of_getElem? (i := 28) (by decide +kernel)⟩
theorem lf_X9_26 : gx_f RX9 26 9 2 := ⟨RX9, TX9, 8, rfl, gg_X9, by decide, gg_in 417 (by decide +kernel) (by decide +kernel)⟩
theorem lf_X9_270 : gx_fn RX9 270 1 3 := ⟨RX1, TX1, 5, "AnyTwoBells", rfl, gg_X1, by decide, List.mem_of_getElem? (i := 20) (by decide +kernel)⟩
theorem lf_X9_276 : gx_fn RX9 276 1 0 := ⟨RX1, TX1, 5, "AnyTwoBells", rfl, gg_X1, by decide, List.mem_of_getElem? (i := 17) (by decide +kernel)⟩
theorem lf_X9_279 : gx_fn RX9 279 1 1 := ⟨RX1, TX1, 5, "AnyTwoBells", rfl, gg_X1, by decide, List.mem_of_getElem? (i := 18) (by decide +kernel)⟩
theorem lf_X9_286 : gx_fn RX9 286 1 4 := ⟨RX1, TX1, 5, "AnyTwoBells", rfl, gg_X1, by decide, List.mem_of_getElem? (i := 21) (by decide +kernel)⟩
theorem lf_X9_292 : gx_fn RX9 292 1 2 := ⟨RX1, TX1, 5, "AnyTwoBells", rfl, gg_X1, by decide, List.mem_of_getElem? (i := 19) (by decide +kernel)⟩
theorem lf_X9_296 : gx_fn RX9 296 0 2 := ⟨RX0, TX0, 5, "AnyTwoBells", rfl, gg_X0, by decide, List.mem_of_getElem? (i := 30) (by decide +kernel)⟩
theorem lf_X9_305 : gx_fn RX9 305 0 1 := ⟨RX0, TX0, 5, "AnyTwoBells", rfl, gg_X0, by decide, List.mem_of_getElem? (i := 29) (by decide +kernel)⟩
theorem lf_X9_340 : gx_fn RX9 340 6 1 := ⟨RX6, TX6, 4, "AnyTwoBells", rfl, gg_X6, by decide, List.mem_of_getElem? (i := 32) (by decide +kernel)⟩
theorem lf_X9_349 : gx_fn RX9 349 0 3 := ⟨RX0, TX0, 5, "AnyTwoBells", rfl, gg_X0, by decide, List.mem_of_getElem? (i := 31) (by decide +kernel)⟩
theorem lf_X9_35 : gx_f RX9 35 9 3 := ⟨RX9, TX9, 8, rfl, gg_X9, by decide, gg_in 418 (by decide +kernel) (by decide +kernel)⟩
theorem lf_X9_352 : gx_fn RX9 352 3 3 := ⟨RX3, TX3, 5, "AnyTwoBells", rfl, gg_X3, by decide, List.mem_of_getElem? (i := 25) (by decide +kernel)⟩
theorem lf_X9_356 : gx_fn RX9 356 4 4 := ⟨RX4, TX4, 5, "AnyTwoBells", rfl, gg_X4, by decide, List.mem_of_getElem? (i := 23) (by decide +kernel)⟩
theorem lf_X9_42 : gx_f RX9 42 9 4 := ⟨RX9, TX9, 8, rfl, gg_X9, by decide, gg_in 419 (by decide +kernel) (by decide +kernel)⟩
theorem lf_X9_49 : gx_f RX9 49 9 5 := ⟨RX9, TX9, 8, rfl, gg_X9, by decide, gg_in 420 (by decide +kernel) (by decide +kernel)⟩
theorem lf_X9_56 : gx_f RX9 56 9 6 := ⟨RX9, TX9, 8, rfl, gg_X9, by decide, gg_in 421 (by decide +kernel) (by decide +kernel)⟩
theorem lf_X9_63 : gx_f RX9 63 9 7 := ⟨RX9, TX9, 8, rfl, gg_X9, by decide, gg_in 422 (by decide +kernel) (by decide +kernel)⟩
theorem lf_X9_67 : gx_fn RX9 67 8 0 := ⟨RX8, TX8, 8, "AnyTwoBells", rfl, gg_X8, by decide, List.mem_of_getElem? (i := 2) (by decide +kernel)⟩
theorem lf_X9_75 : gx_fn RX9 75 8 1 := ⟨RX8, TX8, 8, "AnyTwoBells", rfl, gg_X8, by decide, List.mem_of_getElem? (i := 6) (by decide +kernel)⟩
theorem lf_X9_85 : gx_fn RX9 85 8 2 := ⟨RX8, TX8, 8, "AnyTwoBells", rfl, gg_X8, by decide, List.mem_of_getElem? (i := 8) (by decide +kernel)⟩
theorem lf_X10_114 : gx_f RX10 114 10 13 := ⟨RX10, TX10, 50, rfl, gg_X10, by decide, gg_in 1124 (by decide +kernel) (by decide +kernel)⟩
theorem lf_X10_117 : gx_f RX10 117 10 12 := ⟨RX10, TX10, 50, rfl, gg_X10, by decide, gg_in 1123 (by decide +kernel) (by decide +kernel)⟩
theorem lf_X10_136 : gx_f RX10 136 10 15 := ⟨RX10, TX10, 50, rfl, gg_X10, by decide, gg_in 1126 (by decide +kernel) (by decide +kernel)⟩
theorem lf_X10_139 : gx_f RX10 139 10 20 := ⟨RX10, TX10, 50, rfl, gg_X10, by decide, gg_in 1131 (by decide +kernel) (by decide +kernel)⟩
theorem lf_X10_142 : gx_f RX10 142 10 19 := ⟨RX10, TX10, 50, rfl, gg_X10, by decide, gg_in 1130 (by decide +kernel) (by decide +kernel)⟩
theorem lf_X10_146 : gx_f RX10 146 10 17 := ⟨RX10, TX10, 50, rfl, gg_X10, by decide, gg_in 1128 (by decide +kernel) (by decide +kernel)⟩
theorem lf_X10_15 : gx_f RX10 15 10 2 := ⟨RX10, TX10, 50, rfl, gg_X10, by decide, gg_in 1113 (by decide +kernel) (by decide +kernel)⟩
theorem lf_X10_157 : gx_f RX10 157 10 23 := ⟨RX10, TX10, 50, rfl, gg_X10, by decide, gg_in 1134 (by decide +kernel) (by decide +kernel)⟩
theorem lf_X10_160 : gx_f RX10 160 10 24 := ⟨RX10, TX10, 50, rfl, gg_X10, by decide, gg_in 1135 (by decide +kernel) (by decide +kernel)⟩
theorem lf_X10_163 : gx_f RX10 163 10 25 := ⟨RX10, TX10, 50, rfl, gg_X10, by decide, gg_in 1136 (by decide +kernel) (by decide +kernel)⟩
theorem lf_X10_166 : gx_f RX10 166 10 26 := ⟨RX10, TX10, 50, rfl, gg_X10, by decide, gg_in 1137 (by decide +kernel) (by decide +kernel)⟩
theorem lf_X10_169 : gx_f RX10 169 10 27 := ⟨RX10, TX10, 50, rfl, gg_X10, by decide, gg_in 1138 (by decide +kernel) (by decide +kernel)⟩
theorem lf_X10_172 : gx_f RX10 172 10 28 := ⟨RX10, TX10, 50, rfl, gg_X10, by decide, gg_in 1139 (by decide +kernel) (by decide +kernel)⟩
theorem lf_X10_175 : gx_f RX10 175 10 21 := ⟨RX10, TX10, 50, rfl, gg_X10, by decide, gg_in 1132 (by decide +kernel) (by decide +kernel)⟩
theorem lf_X10_178 : gx_f RX10 178 10 22 := ⟨RX10, TX10, 50, rfl, gg_X10, by decide, gg_in 1133 (by decide +kernel) (by decide +kernel)⟩
theorem lf_X10_18 : gx_f RX10 18 10 3 := ⟨RX10, TX10, 50, rfl, gg_X10, by decide, gg_in 1114 (by decide +kernel) (by decide +kernel)⟩
theorem lf_X10_21 : gx_f RX10 21 10 5 := ⟨RX10, TX10, 50, rfl, gg_X10, by decide, gg_in 1116 (by decide +kernel) (by decide +kernel)⟩
theorem lf_X10_212 : gx_f RX10 212 10 18 := ⟨RX10, TX10, 50, rfl, gg_X10, by decide, gg_in 1129 (by decide +kernel) (by decide +kernel)⟩
theorem lf_X10_240 : gx_f RX10 240 10 29 := ⟨RX10, TX10, 50, rfl, gg_X10, by decide, gg_in 1140 (by decide +kernel) (by decide +kernel)⟩
theorem lf_X10_243 : gx_f RX10 243 10 30 := ⟨RX10, TX10, 50, rfl, gg_X10, by decide, gg_in 1141 (by decide +kernel) (by decide +kernel)⟩
theorem lf_X10_246 : gx_f RX10 246 10 31 := ⟨RX10, TX10, 50, rfl, gg_X10, by decide, gg_in 1142 (by decide +kernel) (by decide +kernel)⟩
theorem lf_X10_25 : gx_f RX10 25 10 6 := ⟨RX10, TX10, 50, rfl, gg_X10, by decide, gg_in 1117 (by decide +kernel) (by decide +kernel)⟩
theorem lf_X10_266 : gx_f RX10 266 10 33 := ⟨RX10, TX10, 50, rfl, gg_X10, by decide, gg_in 1144 (by decide +kernel) (by decide +kernel)⟩
theorem lf_X10_28 : gx_f RX10 28 10 7 := ⟨RX10, TX10, 50, rfl, gg_X10, by decide, gg_in 1118 (by decide +kernel) (by decide +kernel)⟩
theorem lf_X10_31 : gx_f RX10 31 10 8 := ⟨RX10, TX10, 50, rfl, gg_X10, by decide, gg_in 1119 (by decide +kernel) (by decide +kernel)⟩
theorem lf_X10_323 : gx_f RX10 323 10 38 := ⟨RX10, TX10, 50, rfl, gg_X10, by decide, gg_in 1149 (by decide +kernel) (by decide +kernel)⟩
theorem lf_X10_334 : gx_f RX10 334 10 40 := ⟨RX10, TX10, 50, rfl, gg_X10, by decide, gg_in 1151 (by decide +kernel) (by decide +kernel)⟩
theorem lf_X10_337 : gx_f RX10 337 10 42 := ⟨RX10, TX10, 50, rfl, gg_X10, by decide, gg_in 1153 (by decide +kernel) (by decide +kernel)⟩
theorem lf_X10_34 : gx_f RX10 34 10 9 := ⟨RX10, TX10, 50, rfl, gg_X10, by decide, gg_in 1120 (by decide +kernel) (by decide +kernel)⟩
theorem lf_X10_350 : gx_f RX10 350 10 44 := ⟨RX10, TX10, 50, rfl, gg_X10, by decide, gg_in 1155 (by decide +kernel) (by decide +kernel)⟩
theorem lf_X10_356 : gx_f RX10 356 10 43 := ⟨RX10, TX10, 50, rfl, gg_X10, by decide, gg_in 1154 (by decide +kernel) (by decide +kernel)⟩
theorem lf_X10_37 : gx_f RX10 37 10 10 := ⟨RX10, TX10, 50, rfl, gg_X10, by decide, gg_in 1121 (by decide +kernel) (by decide +kernel)⟩
theorem lf_X10_40 : gx_f RX10 40 10 11 := ⟨RX10, TX10, 50, rfl, gg_X10, by decide, gg_in 1122 (by decide +kernel) (by decide +kernel)⟩
theorem lf_X10_43 : gx_f RX10 43 10 14 := ⟨RX10, TX10, 50, rfl, gg_X10, by decide, gg_in 1125 (by decide +kernel) (by decide +kernel)⟩
theorem lf_X10_46 : gx_f RX10 46 10 16 := ⟨RX10, TX10, 50, rfl, gg_X10, by decide, gg_in 1127 (by decide +kernel) (by decide +kernel)⟩
theorem lf_X10_49 : gx_f RX10 49 10 32 := ⟨RX10, TX10, 50, rfl, gg_X10, by decide, gg_in 1143 (by decide +kernel) (by decide +kernel)⟩
theorem lf_X10_52 : gx_f RX10 52 10 34 := ⟨RX10, TX10, 50, rfl, gg_X10, by decide, gg_in 1145 (by decide +kernel) (by decide +kernel)⟩
theorem lf_X10_55 : gx_f RX10 55 10 35 := ⟨RX10, TX10, 50, rfl, gg_X10, by decide, gg_in 1146 (by decide +kernel) (by decide +kernel)⟩
theorem lf_X10_58 : gx_f RX10 58 10 36 := ⟨RX10, TX10, 50, rfl, gg_X10, by decide, gg_in 1147 (by decide +kernel) (by decide +kernel)⟩
theorem lf_X10_61 : gx_f RX10 61 10 37 := ⟨RX10, TX10, 50, rfl, gg_X10, by decide, gg_in 1148 (by decide +kernel) (by decide +kernel)⟩
theorem lf_X10_64 : gx_f RX10 64 10 39 := ⟨RX10, TX10, 50, rfl, gg_X10, by decide, gg_in 1150 (by decide +kernel) (by decide +kernel)⟩
theorem lf_X10_67 : gx_f RX10 67 10 41 := ⟨RX10, TX10, 50, rfl, gg_X10, by decide, gg_in 1152 (by decide +kernel) (by decide +kernel)⟩
theorem lf_X10_70 : gx_f RX10 70 10 45 := ⟨RX10, TX10, 50, rfl, gg_X10, by decide, gg_in 1156 (by decide +kernel) (by decide +kernel)⟩
theorem lf_X10_73 : gx_f RX10 73 10 46 := ⟨RX10, TX10, 50, rfl, gg_X10, by decide, gg_in 1157 (by decide +kernel) (by decide +kernel)⟩
theorem lf_X10_76 : gx_f RX10 76 10 47 := ⟨RX10, TX10, 50, rfl, gg_X10, by decide, gg_in 1158 (by decide +kernel) (by decide +kernel)⟩
theorem lf_X10_79 : gx_f RX10 79 10 48 := ⟨RX10, TX10, 50, rfl, gg_X10, by decide, gg_in 1159 (by decide +kernel) (by decide +kernel)⟩
theorem lf_X10_82 : gx_f RX10 82 10 49 := ⟨RX10, TX10, 50, rfl, gg_X10, by decide, gg_in 1160 (by decide +kernel) (by decide +kernel)⟩
theorem lf_X10_89 : gx_f RX10 89 10 4 := ⟨RX10, TX10, 50, rfl, gg_X10, by decide, gg_in 1115 (by decide +kernel) (by decide +kernel)⟩
theorem lf_X10_9 : gx_f RX10 9 10 1 := ⟨RX10, TX10, 50, rfl, gg_X10, by decide, gg_in 1112 (by decide +kernel) (by decide +kernel)⟩
theorem lk_X5_45 : Cond.constantLong RX5 45 (65536) ∈ gg_l := gg_in 857 (by decide +kernel) (by decide +kernel)
theorem lk_X7_92 : Cond.constantLong RX7 92 (100) ∈ gg_l := gg_in 822 (by decide +kernel) (by decide +kernel)
theorem lk_X9_229 : Cond.constantLong RX9 229 (-9223372036854775808) ∈ gg_l := gg_in 817 (by decide +kernel) (by decide +kernel)
theorem lk_X10_103 : Cond.constantLong RX10 103 (15) ∈ gg_l := gg_in 1266 (by decide +kernel) (by decide +kernel)
theorem lk_X10_105 : Cond.constantLong RX10 105 (2) ∈ gg_l := gg_in 1274 (by decide +kernel) (by decide +kernel)
theorem lk_X10_107 : Cond.constantLong RX10 107 (24) ∈ gg_l := gg_in 1275 (by decide +kernel) (by decide +kernel)
theorem lk_X10_109 : Cond.constantLong RX10 109 (6) ∈ gg_l := gg_in 1276 (by decide +kernel) (by decide +kernel)
theorem lk_X10_134 : Cond.constantLong RX10 134 (255) ∈ gg_l := gg_in 1333 (by decide +kernel) (by decide +kernel)
theorem lk_X10_153 : Cond.constantLong RX10 153 (48) ∈ gg_l := gg_in 1370 (by decide +kernel) (by decide +kernel)
theorem lk_X10_155 : Cond.constantLong RX10 155 (57) ∈ gg_l := gg_in 1371 (by decide +kernel) (by decide +kernel)
theorem lk_X10_222 : Cond.constantLong RX10 222 (999999) ∈ gg_l := gg_in 1398 (by decide +kernel) (by decide +kernel)
theorem lk_X10_224 : Cond.constantLong RX10 224 (16) ∈ gg_l := gg_in 1399 (by decide +kernel) (by decide +kernel)
theorem lk_X10_249 : Cond.constantLong RX10 249 (3) ∈ gg_l := gg_in 1412 (by decide +kernel) (by decide +kernel)
theorem lk_X10_264 : Cond.constantLong RX10 264 (-1) ∈ gg_l := gg_in 1452 (by decide +kernel) (by decide +kernel)
theorem lk_X10_275 : Cond.constantLong RX10 275 (100) ∈ gg_l := gg_in 1473 (by decide +kernel) (by decide +kernel)
theorem lk_X10_277 : Cond.constantLong RX10 277 (104) ∈ gg_l := gg_in 1474 (by decide +kernel) (by decide +kernel)
theorem lk_X10_285 : Cond.constantLong RX10 285 (-9223372036854775808) ∈ gg_l := gg_in 1491 (by decide +kernel) (by decide +kernel)
theorem lk_X10_295 : Cond.constantLong RX10 295 (65536) ∈ gg_l := gg_in 1507 (by decide +kernel) (by decide +kernel)
theorem lk_X10_332 : Cond.constantLong RX10 332 (7) ∈ gg_l := gg_in 1568 (by decide +kernel) (by decide +kernel)
theorem lk_X10_365 : Cond.constantLong RX10 365 (5) ∈ gg_l := gg_in 1607 (by decide +kernel) (by decide +kernel)
theorem lk_X10_370 : Cond.constantLong RX10 370 (4) ∈ gg_l := gg_in 1612 (by decide +kernel) (by decide +kernel)
theorem lk_J6_265 : Cond.constant RJ6 265 (1431655765) ∈ gg_l := gg_in 706 (by decide +kernel) (by decide +kernel)
theorem lk_J6_266 : Cond.constant RJ6 266 (858993459) ∈ gg_l := gg_in 707 (by decide +kernel) (by decide +kernel)
theorem lk_J6_267 : Cond.constant RJ6 267 (252645135) ∈ gg_l := gg_in 708 (by decide +kernel) (by decide +kernel)
theorem lm_X0_29 : Cond.methodLink RX0 29 yJ9_min_7cf53 ∈ gg_l := gg_in 1021 (by decide +kernel) (by decide +kernel)
theorem lm_X0_35 : Cond.methodLink RX0 35 yX0_asKind ∈ gg_l := gg_in 1001 (by decide +kernel) (by decide +kernel)
theorem lm_X0_42 : Cond.methodLink RX0 42 yX0_runBody ∈ gg_l := gg_in 1009 (by decide +kernel) (by decide +kernel)
theorem lm_X1_28 : Cond.methodLink RX1 28 yX1_dropOldest ∈ gg_l := gg_in 493 (by decide +kernel) (by decide +kernel)
theorem lm_X1_31 : Cond.methodLink RX1 31 arraycopyName ∈ gg_l := gg_in 497 (by decide +kernel) (by decide +kernel)
theorem lm_X2_29 : Cond.methodLink RX2 29 yX2_forgetTold ∈ gg_l := gg_in 347 (by decide +kernel) (by decide +kernel)
theorem lm_X2_37 : Cond.methodLink RX2 37 arraycopyName ∈ gg_l := gg_in 925 (by decide +kernel) (by decide +kernel)
theorem lm_X2_46 : Cond.methodLink RX2 46 yX2_mayBe ∈ gg_l := gg_in 764 (by decide +kernel) (by decide +kernel)
theorem lm_X2_50 : (RX2, 50, yX8_struck, "AnyTwoBells") ∈ nw_m := List.mem_of_getElem? (i := 47) (by decide +kernel)
theorem lm_X2_54 : Cond.methodLink RX2 54 yX2_mayHaveBegun ∈ gg_l := gg_in 934 (by decide +kernel) (by decide +kernel)
theorem lm_X2_58 : Cond.methodLink RX2 58 yX2_hourBehind ∈ gg_l := gg_in 938 (by decide +kernel) (by decide +kernel)
theorem lm_X2_61 : Cond.methodLink RX2 61 yJ9_floorMod_7cf53 ∈ gg_l := gg_in 942 (by decide +kernel) (by decide +kernel)
theorem lm_X2_66 : (RX2, 66, yX8_areMixed, "AnyTwoBells") ∈ nw_m := List.mem_of_getElem? (i := 67) (by decide +kernel)
theorem lm_X2_70 : Cond.methodLink RX2 70 yX2_rowsMoreForPair ∈ gg_l := gg_in 950 (by decide +kernel) (by decide +kernel)
theorem lm_X2_73 : Cond.methodLink RX2 73 yJ9_max_7cf53 ∈ gg_l := gg_in 955 (by decide +kernel) (by decide +kernel)
theorem lm_X2_76 : (RX2, 76, yX8_bellsUnlike, "AnyTwoBells") ∈ nw_m := List.mem_of_getElem? (i := 68) (by decide +kernel)
theorem lm_X3_31 : Cond.methodLink RX3 31 yX3_readLine ∈ gg_l := gg_in 569 (by decide +kernel) (by decide +kernel)
theorem lm_X3_35 : Cond.methodLink RX3 35 yX3_readJoined ∈ gg_l := gg_in 573 (by decide +kernel) (by decide +kernel)
theorem lm_X3_39 : Cond.methodLink RX3 39 yX3_isNext ∈ gg_l := gg_in 603 (by decide +kernel) (by decide +kernel)
theorem lm_X3_43 : (RX3, 43, yX4_add, "AnyTwoBells") ∈ nw_m := List.mem_of_getElem? (i := 29) (by decide +kernel)
theorem lm_X3_47 : (RX3, 47, yX4_skipToEnd, "AnyTwoBells") ∈ nw_m := List.mem_of_getElem? (i := 30) (by decide +kernel)
theorem lm_X3_51 : Cond.methodLink RX3 51 yX3_readOperand ∈ gg_l := gg_in 581 (by decide +kernel) (by decide +kernel)
theorem lm_X3_54 : Cond.methodLink RX3 54 yX3_readPart ∈ gg_l := gg_in 577 (by decide +kernel) (by decide +kernel)
theorem lm_X3_57 : Cond.methodLink RX3 57 yX3_levelOf ∈ gg_l := gg_in 611 (by decide +kernel) (by decide +kernel)
theorem lm_X3_61 : Cond.methodLink RX3 61 yX3_isDigit ∈ gg_l := gg_in 585 (by decide +kernel) (by decide +kernel)
theorem lm_X3_64 : Cond.methodLink RX3 64 yX3_readNumber ∈ gg_l := gg_in 588 (by decide +kernel) (by decide +kernel)
theorem lm_X3_68 : Cond.methodLink RX3 68 yX3_nameOf ∈ gg_l := gg_in 596 (by decide +kernel) (by decide +kernel)
theorem lm_X3_71 : Cond.methodLink RX3 71 yX3_readBraced ∈ gg_l := gg_in 599 (by decide +kernel) (by decide +kernel)
theorem lm_X3_74 : Cond.methodLink RX3 74 yX3_readSigned ∈ gg_l := gg_in 607 (by decide +kernel) (by decide +kernel)
theorem lm_X4_28 : Cond.methodLink RX4 28 yX4_truth ∈ gg_l := gg_in 634 (by decide +kernel) (by decide +kernel)
theorem lm_X4_32 : Cond.methodLink RX4 32 yX4_joined ∈ gg_l := gg_in 637 (by decide +kernel) (by decide +kernel)
theorem lm_X5_34 : Cond.methodLink RX5 34 yX5_mayTryAllRows ∈ gg_l := gg_in 849 (by decide +kernel) (by decide +kernel)
theorem lm_X5_41 : Cond.methodLink RX5 41 yX5_rowsThereAre ∈ gg_l := gg_in 853 (by decide +kernel) (by decide +kernel)
theorem lm_X5_50 : Cond.methodLink RX5 50 yX5_fillFrom ∈ gg_l := gg_in 862 (by decide +kernel) (by decide +kernel)
theorem lm_X5_54 : Cond.methodLink RX5 54 arraycopyName ∈ gg_l := gg_in 866 (by decide +kernel) (by decide +kernel)
theorem lm_X5_60 : Cond.methodLink RX5 60 yX5_tryRow ∈ gg_l := gg_in 867 (by decide +kernel) (by decide +kernel)
theorem lm_X5_64 : Cond.methodLink RX5 64 yX5_spell ∈ gg_l := gg_in 871 (by decide +kernel) (by decide +kernel)
theorem lm_X5_68 : Cond.methodLink RX5 68 yX5_hoursAhead ∈ gg_l := gg_in 875 (by decide +kernel) (by decide +kernel)
theorem lm_X5_71 : Cond.methodLink RX5 71 yX5_isTold ∈ gg_l := gg_in 879 (by decide +kernel) (by decide +kernel)
theorem lm_X5_78 : (RX5, 78, yX8_differencesWanted, "AnyTwoBells") ∈ nw_m := List.mem_of_getElem? (i := 59) (by decide +kernel)
theorem lm_X5_81 : Cond.methodLink RX5 81 yX5_differences ∈ gg_l := gg_in 884 (by decide +kernel) (by decide +kernel)
theorem lm_X5_85 : Cond.methodLink RX5 85 yX5_firstRowTold ∈ gg_l := gg_in 901 (by decide +kernel) (by decide +kernel)
theorem lm_X5_91 : Cond.methodLink RX5 91 yX5_greatest ∈ gg_l := gg_in 905 (by decide +kernel) (by decide +kernel)
theorem lm_X6_25 : Cond.methodLink RX6 25 yX6_hasShelf ∈ gg_l := gg_in 1050 (by decide +kernel) (by decide +kernel)
theorem lm_X6_29 : Cond.methodLink RX6 29 yX6_isBare ∈ gg_l := gg_in 1051 (by decide +kernel) (by decide +kernel)
theorem lm_X6_32 : Cond.methodLink RX6 32 yX6_holdsARow ∈ gg_l := gg_in 1052 (by decide +kernel) (by decide +kernel)
theorem lm_X6_35 : Cond.methodLink RX6 35 yX6_hasPlace ∈ gg_l := gg_in 1056 (by decide +kernel) (by decide +kernel)
theorem lm_X6_39 : Cond.methodLink RX6 39 yX6_lowestBits ∈ gg_l := gg_in 1061 (by decide +kernel) (by decide +kernel)
theorem lm_X6_43 : Cond.methodLink RX6 43 arraycopyName ∈ gg_l := gg_in 1085 (by decide +kernel) (by decide +kernel)
theorem lm_X7_102 : Cond.methodLink RX7 102 yJ9_max_f86c9 ∈ gg_l := gg_in 838 (by decide +kernel) (by decide +kernel)
theorem lm_X7_104 : Cond.methodLink RX7 104 yX7_takePairsOf ∈ gg_l := gg_in 827 (by decide +kernel) (by decide +kernel)
theorem lm_X7_108 : Cond.methodLink RX7 108 yX7_chanceHeard ∈ gg_l := gg_in 831 (by decide +kernel) (by decide +kernel)
theorem lm_X7_23 : (RX7, 23, yX8_areMixed, "AnyTwoBells") ∈ nw_m := List.mem_of_getElem? (i := 36) (by decide +kernel)
theorem lm_X7_29 : (RX7, 29, yX8_bellsUnlike, "AnyTwoBells") ∈ nw_m := List.mem_of_getElem? (i := 37) (by decide +kernel)
theorem lm_X7_36 : Cond.methodLink RX7 36 yX7_takePair ∈ gg_l := gg_in 677 (by decide +kernel) (by decide +kernel)
theorem lm_X7_40 : Cond.methodLink RX7 40 yJ6_bitCount_0f7a4 ∈ gg_l := gg_in 703 (by decide +kernel) (by decide +kernel)
theorem lm_X7_46 : Cond.methodLink RX7 46 yX7_takeAllPairs ∈ gg_l := gg_in 673 (by decide +kernel) (by decide +kernel)
theorem lm_X7_49 : (RX7, 49, yX8_allBells, "AnyTwoBells") ∈ nw_m := List.mem_of_getElem? (i := 38) (by decide +kernel)
theorem lm_X7_53 : (RX7, 53, yX8_differencesWanted, "AnyTwoBells") ∈ nw_m := List.mem_of_getElem? (i := 39) (by decide +kernel)
theorem lm_X7_56 : Cond.methodLink RX7 56 yX7_allDifferIn ∈ gg_l := gg_in 699 (by decide +kernel) (by decide +kernel)
theorem lm_X7_59 : (RX7, 59, yX8_heardTogether, "AnyTwoBells") ∈ nw_m := List.mem_of_getElem? (i := 41) (by decide +kernel)
theorem lm_X7_62 : Cond.methodLink RX7 62 yX7_isHeardSet ∈ gg_l := gg_in 713 (by decide +kernel) (by decide +kernel)
theorem lm_X7_66 : Cond.methodLink RX7 66 yX7_hourOfFault ∈ gg_l := gg_in 718 (by decide +kernel) (by decide +kernel)
theorem lm_X7_69 : Cond.methodLink RX7 69 yJ9_min_7cf53 ∈ gg_l := gg_in 730 (by decide +kernel) (by decide +kernel)
theorem lm_X7_74 : Cond.methodLink RX7 74 yX7_toldWithAStrokeLost ∈ gg_l := gg_in 739 (by decide +kernel) (by decide +kernel)
theorem lm_X7_77 : Cond.methodLink RX7 77 yX7_bellsOneMore ∈ gg_l := gg_in 743 (by decide +kernel) (by decide +kernel)
theorem lm_X7_83 : (RX7, 83, yX8_struck, "AnyTwoBells") ∈ nw_m := List.mem_of_getElem? (i := 44) (by decide +kernel)
theorem lm_X7_89 : Cond.methodLink RX7 89 yJ9_max_7cf53 ∈ gg_l := gg_in 964 (by decide +kernel) (by decide +kernel)
theorem lm_X7_94 : Cond.methodLink RX7 94 yX7_chanceOf ∈ gg_l := gg_in 823 (by decide +kernel) (by decide +kernel)
theorem lm_X7_98 : Cond.methodLink RX7 98 yX7_greatestDivisor ∈ gg_l := gg_in 835 (by decide +kernel) (by decide +kernel)
theorem lm_X8_37 : Cond.methodLink RX8 37 yX8_hasHour ∈ gg_l := gg_in 472 (by decide +kernel) (by decide +kernel)
theorem lm_X8_41 : Cond.methodLink RX8 41 yX8_hasBell ∈ gg_l := gg_in 476 (by decide +kernel) (by decide +kernel)
theorem lm_X8_44 : Cond.methodLink RX8 44 yX8_write ∈ gg_l := gg_in 456 (by decide +kernel) (by decide +kernel)
theorem lm_X8_48 : Cond.methodLink RX8 48 yJ9_min_7cf53 ∈ gg_l := gg_in 698 (by decide +kernel) (by decide +kernel)
theorem lm_X8_54 : Cond.methodLink RX8 54 yX8_heardTogether ∈ gg_l := gg_in 694 (by decide +kernel) (by decide +kernel)
theorem lm_X8_58 : Cond.methodLink RX8 58 yX8_struck ∈ gg_l := gg_in 533 (by decide +kernel) (by decide +kernel)
theorem lm_X8_61 : Cond.methodLink RX8 61 yJ9_max_7cf53 ∈ gg_l := gg_in 534 (by decide +kernel) (by decide +kernel)
theorem lm_X8_64 : Cond.methodLink RX8 64 yX8_totalOfBell ∈ gg_l := gg_in 648 (by decide +kernel) (by decide +kernel)
theorem lm_X8_68 : Cond.methodLink RX8 68 yX8_totalOfHour ∈ gg_l := gg_in 792 (by decide +kernel) (by decide +kernel)
theorem lm_X8_71 : Cond.methodLink RX8 71 yX8_costOfBell ∈ gg_l := gg_in 797 (by decide +kernel) (by decide +kernel)
theorem lm_X9_100 : (RX9, 100, yX8_write, "AnyTwoBells") ∈ nw_m := List.mem_of_getElem? (i := 15) (by decide +kernel)
theorem lm_X9_104 : (RX9, 104, yX1_note, "AnyTwoBells") ∈ nw_m := List.mem_of_getElem? (i := 16) (by decide +kernel)
theorem lm_X9_107 : (RX9, 107, yX6_hasShelf, "AnyTwoBells") ∈ nw_m := List.mem_of_getElem? (i := 17) (by decide +kernel)
theorem lm_X9_110 : (RX9, 110, yX8_hasBell, "AnyTwoBells") ∈ nw_m := List.mem_of_getElem? (i := 18) (by decide +kernel)
theorem lm_X9_113 : (RX9, 113, yX6_isBare, "AnyTwoBells") ∈ nw_m := List.mem_of_getElem? (i := 19) (by decide +kernel)
theorem lm_X9_116 : (RX9, 116, yX6_holdsBytes, "AnyTwoBells") ∈ nw_m := List.mem_of_getElem? (i := 20) (by decide +kernel)
theorem lm_X9_119 : (RX9, 119, yX6_hasPlace, "AnyTwoBells") ∈ nw_m := List.mem_of_getElem? (i := 21) (by decide +kernel)
theorem lm_X9_123 : (RX9, 123, yX6_at, "AnyTwoBells") ∈ nw_m := List.mem_of_getElem? (i := 22) (by decide +kernel)
theorem lm_X9_127 : (RX9, 127, yX8_greatestOf, "AnyTwoBells") ∈ nw_m := List.mem_of_getElem? (i := 23) (by decide +kernel)
theorem lm_X9_135 : (RX9, 135, yX8_hasPair, "AnyTwoBells") ∈ nw_m := List.mem_of_getElem? (i := 24) (by decide +kernel)
theorem lm_X9_138 : (RX9, 138, yX8_areMixed, "AnyTwoBells") ∈ nw_m := List.mem_of_getElem? (i := 25) (by decide +kernel)
theorem lm_X9_141 : (RX9, 141, yX8_makeMixed, "AnyTwoBells") ∈ nw_m := List.mem_of_getElem? (i := 26) (by decide +kernel)
theorem lm_X9_145 : (RX9, 145, yX3_add, "AnyTwoBells") ∈ nw_m := List.mem_of_getElem? (i := 27) (by decide +kernel)
theorem lm_X9_151 : (RX9, 151, yX3_readAll, "AnyTwoBells") ∈ nw_m := List.mem_of_getElem? (i := 28) (by decide +kernel)
theorem lm_X9_155 : Cond.methodLink RX9 155 yX9_givenByLaw ∈ gg_l := gg_in 622 (by decide +kernel) (by decide +kernel)
theorem lm_X9_158 : Cond.methodLink RX9 158 yJ9_min_7cf53 ∈ gg_l := gg_in 640 (by decide +kernel) (by decide +kernel)
theorem lm_X9_163 : Cond.methodLink RX9 163 yJ9_max_7cf53 ∈ gg_l := gg_in 643 (by decide +kernel) (by decide +kernel)
theorem lm_X9_166 : (RX9, 166, yX8_totalOfAll, "AnyTwoBells") ∈ nw_m := List.mem_of_getElem? (i := 33) (by decide +kernel)
theorem lm_X9_169 : (RX9, 169, yX8_totalOfBell, "AnyTwoBells") ∈ nw_m := List.mem_of_getElem? (i := 34) (by decide +kernel)
theorem lm_X9_178 : (RX9, 178, yX7_allTold, "AnyTwoBells") ∈ nw_m := List.mem_of_getElem? (i := 35) (by decide +kernel)
theorem lm_X9_182 : (RX9, 182, yX7_firstFault, "AnyTwoBells") ∈ nw_m := List.mem_of_getElem? (i := 40) (by decide +kernel)
theorem lm_X9_185 : (RX9, 185, yX7_leastDifference, "AnyTwoBells") ∈ nw_m := List.mem_of_getElem? (i := 42) (by decide +kernel)
theorem lm_X9_188 : (RX9, 188, yX7_allToldWithAStrokeLost, "AnyTwoBells") ∈ nw_m := List.mem_of_getElem? (i := 43) (by decide +kernel)
theorem lm_X9_191 : (RX9, 191, yX2_add, "AnyTwoBells") ∈ nw_m := List.mem_of_getElem? (i := 45) (by decide +kernel)
theorem lm_X9_195 : (RX9, 195, yX2_hoursHeard, "AnyTwoBells") ∈ nw_m := List.mem_of_getElem? (i := 46) (by decide +kernel)
theorem lm_X9_198 : (RX9, 198, yX2_forgetTold, "AnyTwoBells") ∈ nw_m := List.mem_of_getElem? (i := 48) (by decide +kernel)
theorem lm_X9_201 : (RX9, 201, yX8_hoursStriking, "AnyTwoBells") ∈ nw_m := List.mem_of_getElem? (i := 49) (by decide +kernel)
theorem lm_X9_204 : Cond.methodLink RX9 204 yJ6_bitCount_0f7a4 ∈ gg_l := gg_in 778 (by decide +kernel) (by decide +kernel)
theorem lm_X9_209 : (RX9, 209, yX8_hasHour, "AnyTwoBells") ∈ nw_m := List.mem_of_getElem? (i := 50) (by decide +kernel)
theorem lm_X9_212 : (RX9, 212, yX8_totalOfHour, "AnyTwoBells") ∈ nw_m := List.mem_of_getElem? (i := 51) (by decide +kernel)
theorem lm_X9_215 : (RX9, 215, yX8_worstHour, "AnyTwoBells") ∈ nw_m := List.mem_of_getElem? (i := 52) (by decide +kernel)
theorem lm_X9_218 : (RX9, 218, yX8_costOfADay, "AnyTwoBells") ∈ nw_m := List.mem_of_getElem? (i := 53) (by decide +kernel)
theorem lm_X9_221 : (RX9, 221, yX8_dearestBell, "AnyTwoBells") ∈ nw_m := List.mem_of_getElem? (i := 54) (by decide +kernel)
theorem lm_X9_224 : (RX9, 224, yX7_fewestBells, "AnyTwoBells") ∈ nw_m := List.mem_of_getElem? (i := 55) (by decide +kernel)
theorem lm_X9_231 : (RX9, 231, yX7_chanceInLowestTerms, "AnyTwoBells") ∈ nw_m := List.mem_of_getElem? (i := 56) (by decide +kernel)
theorem lm_X9_234 : (RX9, 234, yX5_mayTryAllTables, "AnyTwoBells") ∈ nw_m := List.mem_of_getElem? (i := 57) (by decide +kernel)
theorem lm_X9_237 : (RX9, 237, yX5_leastTable, "AnyTwoBells") ∈ nw_m := List.mem_of_getElem? (i := 58) (by decide +kernel)
theorem lm_X9_240 : (RX9, 240, yX5_answerOf, "AnyTwoBells") ∈ nw_m := List.mem_of_getElem? (i := 60) (by decide +kernel)
theorem lm_X9_243 : (RX9, 243, yX5_mayTryAllRows, "AnyTwoBells") ∈ nw_m := List.mem_of_getElem? (i := 61) (by decide +kernel)
theorem lm_X9_246 : (RX9, 246, yX5_greedyTable, "AnyTwoBells") ∈ nw_m := List.mem_of_getElem? (i := 62) (by decide +kernel)
theorem lm_X9_249 : (RX9, 249, yX5_firstAlarm, "AnyTwoBells") ∈ nw_m := List.mem_of_getElem? (i := 63) (by decide +kernel)
theorem lm_X9_258 : (RX9, 258, yX2_keepTold, "AnyTwoBells") ∈ nw_m := List.mem_of_getElem? (i := 64) (by decide +kernel)
theorem lm_X9_261 : (RX9, 261, yX2_hoursBegun, "AnyTwoBells") ∈ nw_m := List.mem_of_getElem? (i := 65) (by decide +kernel)
theorem lm_X9_264 : (RX9, 264, yX2_rowsMore, "AnyTwoBells") ∈ nw_m := List.mem_of_getElem? (i := 66) (by decide +kernel)
theorem lm_X9_267 : (RX9, 267, yX7_bellsThatMayRest, "AnyTwoBells") ∈ nw_m := List.mem_of_getElem? (i := 69) (by decide +kernel)
theorem lm_X9_273 : (RX9, 273, yX1_stepBack, "AnyTwoBells") ∈ nw_m := List.mem_of_getElem? (i := 70) (by decide +kernel)
theorem lm_X9_282 : Cond.methodLink RX9 282 yX9_putBack ∈ gg_l := gg_in 973 (by decide +kernel) (by decide +kernel)
theorem lm_X9_289 : (RX9, 289, yX1_stepOn, "AnyTwoBells") ∈ nw_m := List.mem_of_getElem? (i := 71) (by decide +kernel)
theorem lm_X9_295 : (RX9, 295, yX0_add, "AnyTwoBells") ∈ nw_m := List.mem_of_getElem? (i := 72) (by decide +kernel)
theorem lm_X9_299 : (RX9, 299, yX0_perform, "AnyTwoBells") ∈ nw_m := List.mem_of_getElem? (i := 73) (by decide +kernel)
theorem lm_X9_302 : (RX9, 302, yX0_tracesKept, "AnyTwoBells") ∈ nw_m := List.mem_of_getElem? (i := 74) (by decide +kernel)
theorem lm_X9_308 : (RX9, 308, yX6_clear, "AnyTwoBells") ∈ nw_m := List.mem_of_getElem? (i := 75) (by decide +kernel)
theorem lm_X9_311 : (RX9, 311, yX6_holdTable, "AnyTwoBells") ∈ nw_m := List.mem_of_getElem? (i := 76) (by decide +kernel)
theorem lm_X9_314 : (RX9, 314, yX6_holdRow, "AnyTwoBells") ∈ nw_m := List.mem_of_getElem? (i := 77) (by decide +kernel)
theorem lm_X9_317 : (RX9, 317, yX6_refusalAt, "AnyTwoBells") ∈ nw_m := List.mem_of_getElem? (i := 78) (by decide +kernel)
theorem lm_X9_320 : (RX9, 320, yX6_write, "AnyTwoBells") ∈ nw_m := List.mem_of_getElem? (i := 79) (by decide +kernel)
theorem lm_X9_323 : (RX9, 323, yX6_holdsARow, "AnyTwoBells") ∈ nw_m := List.mem_of_getElem? (i := 80) (by decide +kernel)
theorem lm_X9_326 : (RX9, 326, yX6_sameSort, "AnyTwoBells") ∈ nw_m := List.mem_of_getElem? (i := 81) (by decide +kernel)
theorem lm_X9_329 : (RX9, 329, yX6_hasPart, "AnyTwoBells") ∈ nw_m := List.mem_of_getElem? (i := 82) (by decide +kernel)
theorem lm_X9_333 : (RX9, 333, yX6_copy, "AnyTwoBells") ∈ nw_m := List.mem_of_getElem? (i := 83) (by decide +kernel)
theorem lm_X9_337 : (RX9, 337, yX6_holdsATable, "AnyTwoBells") ∈ nw_m := List.mem_of_getElem? (i := 84) (by decide +kernel)
theorem lm_X9_343 : (RX9, 343, yX0_kindOf, "AnyTwoBells") ∈ nw_m := List.mem_of_getElem? (i := 85) (by decide +kernel)
theorem lm_X9_346 : (RX9, 346, yX0_isUnder, "AnyTwoBells") ∈ nw_m := List.mem_of_getElem? (i := 86) (by decide +kernel)
theorem lm_X9_359 : (RX9, 359, yX4_name, "AnyTwoBells") ∈ nw_m := List.mem_of_getElem? (i := 31) (by decide +kernel)
theorem lm_X9_363 : (RX9, 363, yX4_work, "AnyTwoBells") ∈ nw_m := List.mem_of_getElem? (i := 32) (by decide +kernel)
theorem lm_X9_71 : (RX9, 71, yX8_addBell, "AnyTwoBells") ∈ nw_m := List.mem_of_getElem? (i := 9) (by decide +kernel)
theorem lm_X9_78 : (RX9, 78, yX8_changeHours, "AnyTwoBells") ∈ nw_m := List.mem_of_getElem? (i := 10) (by decide +kernel)
theorem lm_X9_82 : (RX9, 82, yX1_forgetAll, "AnyTwoBells") ∈ nw_m := List.mem_of_getElem? (i := 11) (by decide +kernel)
theorem lm_X9_88 : (RX9, 88, yX8_hasCell, "AnyTwoBells") ∈ nw_m := List.mem_of_getElem? (i := 12) (by decide +kernel)
theorem lm_X9_92 : (RX9, 92, yX8_mayStrike, "AnyTwoBells") ∈ nw_m := List.mem_of_getElem? (i := 13) (by decide +kernel)
theorem lm_X9_96 : (RX9, 96, yX8_struck, "AnyTwoBells") ∈ nw_m := List.mem_of_getElem? (i := 14) (by decide +kernel)
theorem lm_X10_100 : Cond.methodLink RX10 100 yX10_isBell ∈ gg_l := gg_in 1305 (by decide +kernel) (by decide +kernel)
theorem lm_X10_111 : Cond.methodLink RX10 111 yX10_forgets ∈ gg_l := gg_in 1277 (by decide +kernel) (by decide +kernel)
theorem lm_X10_120 : Cond.methodLink RX10 120 yX10_puts ∈ gg_l := gg_in 1285 (by decide +kernel) (by decide +kernel)
theorem lm_X10_124 : Cond.methodLink RX10 124 yX10_isCell ∈ gg_l := gg_in 1301 (by decide +kernel) (by decide +kernel)
theorem lm_X10_127 : Cond.methodLink RX10 127 yX10_keeps ∈ gg_l := gg_in 1309 (by decide +kernel) (by decide +kernel)
theorem lm_X10_131 : Cond.methodLink RX10 131 yX10_isPair ∈ gg_l := gg_in 1321 (by decide +kernel) (by decide +kernel)
theorem lm_X10_149 : Cond.methodLink RX10 149 yX10_at ∈ gg_l := gg_in 1366 (by decide +kernel) (by decide +kernel)
theorem lm_X10_181 : Cond.methodLink RX10 181 yX10_either ∈ gg_l := gg_in 1342 (by decide +kernel) (by decide +kernel)
theorem lm_X10_184 : Cond.methodLink RX10 184 yX10_atom ∈ gg_l := gg_in 1362 (by decide +kernel) (by decide +kernel)
theorem lm_X10_187 : Cond.methodLink RX10 187 yX10_number ∈ gg_l := gg_in 1372 (by decide +kernel) (by decide +kernel)
theorem lm_X10_190 : Cond.methodLink RX10 190 yX10_isName ∈ gg_l := gg_in 1376 (by decide +kernel) (by decide +kernel)
theorem lm_X10_193 : Cond.methodLink RX10 193 yX10_named ∈ gg_l := gg_in 1379 (by decide +kernel) (by decide +kernel)
theorem lm_X10_197 : Cond.methodLink RX10 197 yX10_product ∈ gg_l := gg_in 1358 (by decide +kernel) (by decide +kernel)
theorem lm_X10_200 : Cond.methodLink RX10 200 yX10_added ∈ gg_l := gg_in 1354 (by decide +kernel) (by decide +kernel)
theorem lm_X10_203 : Cond.methodLink RX10 203 yX10_compared ∈ gg_l := gg_in 1350 (by decide +kernel) (by decide +kernel)
theorem lm_X10_206 : Cond.methodLink RX10 206 yX10_both ∈ gg_l := gg_in 1346 (by decide +kernel) (by decide +kernel)
theorem lm_X10_209 : Cond.methodLink RX10 209 yX10_walks ∈ gg_l := gg_in 1338 (by decide +kernel) (by decide +kernel)
theorem lm_X10_215 : Cond.methodLink RX10 215 yX10_within ∈ gg_l := gg_in 1387 (by decide +kernel) (by decide +kernel)
theorem lm_X10_219 : Cond.methodLink RX10 219 yX10_sumAll ∈ gg_l := gg_in 1390 (by decide +kernel) (by decide +kernel)
theorem lm_X10_226 : Cond.methodLink RX10 226 yX10_sumOf ∈ gg_l := gg_in 1400 (by decide +kernel) (by decide +kernel)
theorem lm_X10_229 : Cond.methodLink RX10 229 yX10_bitsOf ∈ gg_l := gg_in 1421 (by decide +kernel) (by decide +kernel)
theorem lm_X10_232 : Cond.methodLink RX10 232 yX10_areMixed ∈ gg_l := gg_in 1424 (by decide +kernel) (by decide +kernel)
theorem lm_X10_236 : Cond.methodLink RX10 236 yX10_differ ∈ gg_l := gg_in 1428 (by decide +kernel) (by decide +kernel)
theorem lm_X10_251 : Cond.methodLink RX10 251 yX10_heardNow ∈ gg_l := gg_in 1413 (by decide +kernel) (by decide +kernel)
theorem lm_X10_254 : Cond.methodLink RX10 254 yX10_tellsBy ∈ gg_l := gg_in 1417 (by decide +kernel) (by decide +kernel)
theorem lm_X10_257 : Cond.methodLink RX10 257 yX10_lessOne ∈ gg_l := gg_in 1444 (by decide +kernel) (by decide +kernel)
theorem lm_X10_260 : Cond.methodLink RX10 260 yX10_couldBeAlike ∈ gg_l := gg_in 1440 (by decide +kernel) (by decide +kernel)
theorem lm_X10_269 : Cond.methodLink RX10 269 yX10_striking ∈ gg_l := gg_in 1461 (by decide +kernel) (by decide +kernel)
theorem lm_X10_272 : Cond.methodLink RX10 272 yX10_strokesOf ∈ gg_l := gg_in 1469 (by decide +kernel) (by decide +kernel)
theorem lm_X10_279 : Cond.methodLink RX10 279 yX10_worst ∈ gg_l := gg_in 1475 (by decide +kernel) (by decide +kernel)
theorem lm_X10_282 : Cond.methodLink RX10 282 yX10_costOf ∈ gg_l := gg_in 1479 (by decide +kernel) (by decide +kernel)
theorem lm_X10_287 : Cond.methodLink RX10 287 yX10_tellsAbove ∈ gg_l := gg_in 1492 (by decide +kernel) (by decide +kernel)
theorem lm_X10_291 : Cond.methodLink RX10 291 yX10_lowest ∈ gg_l := gg_in 1496 (by decide +kernel) (by decide +kernel)
theorem lm_X10_297 : Cond.methodLink RX10 297 yX10_isFewTables ∈ gg_l := gg_in 1503 (by decide +kernel) (by decide +kernel)
theorem lm_X10_301 : Cond.methodLink RX10 301 yX10_laysAside ∈ gg_l := gg_in 1508 (by decide +kernel) (by decide +kernel)
theorem lm_X10_304 : Cond.methodLink RX10 304 yX10_keepsBest ∈ gg_l := gg_in 1512 (by decide +kernel) (by decide +kernel)
theorem lm_X10_307 : Cond.methodLink RX10 307 yX10_counts ∈ gg_l := gg_in 1516 (by decide +kernel) (by decide +kernel)
theorem lm_X10_310 : Cond.methodLink RX10 310 yX10_laysBack ∈ gg_l := gg_in 1520 (by decide +kernel) (by decide +kernel)
theorem lm_X10_313 : Cond.methodLink RX10 313 yX10_mostStrokes ∈ gg_l := gg_in 1528 (by decide +kernel) (by decide +kernel)
theorem lm_X10_316 : Cond.methodLink RX10 316 yX10_finds ∈ gg_l := gg_in 1532 (by decide +kernel) (by decide +kernel)
theorem lm_X10_320 : Cond.methodLink RX10 320 yX10_isAlarm ∈ gg_l := gg_in 1540 (by decide +kernel) (by decide +kernel)
theorem lm_X10_326 : Cond.methodLink RX10 326 yX10_mayBegin ∈ gg_l := gg_in 1552 (by decide +kernel) (by decide +kernel)
theorem lm_X10_329 : Cond.methodLink RX10 329 yX10_isSure ∈ gg_l := gg_in 1556 (by decide +kernel) (by decide +kernel)
theorem lm_X10_340 : Cond.methodLink RX10 340 yX10_runs ∈ gg_l := gg_in 1577 (by decide +kernel) (by decide +kernel)
theorem lm_X10_344 : Cond.methodLink RX10 344 yX10_strikesBy ∈ gg_l := gg_in 1573 (by decide +kernel) (by decide +kernel)
theorem lm_X10_347 : Cond.methodLink RX10 347 yX10_above ∈ gg_l := gg_in 1581 (by decide +kernel) (by decide +kernel)
theorem lm_X10_353 : Cond.methodLink RX10 353 yX10_soundsBy ∈ gg_l := gg_in 1584 (by decide +kernel) (by decide +kernel)
theorem lm_X10_359 : Cond.methodLink RX10 359 yX10_restsBy ∈ gg_l := gg_in 1588 (by decide +kernel) (by decide +kernel)
theorem lm_X10_362 : Cond.methodLink RX10 362 yX10_tellsOf ∈ gg_l := gg_in 1592 (by decide +kernel) (by decide +kernel)
theorem lm_X10_367 : Cond.methodLink RX10 367 yX10_isShelf ∈ gg_l := gg_in 1604 (by decide +kernel) (by decide +kernel)
theorem lm_X10_372 : Cond.methodLink RX10 372 yX10_look ∈ gg_l := gg_in 1617 (by decide +kernel) (by decide +kernel)
theorem lm_X10_92 : Cond.methodLink RX10 92 yX10_in ∈ gg_l := gg_in 1267 (by decide +kernel) (by decide +kernel)
theorem lm_X10_96 : Cond.methodLink RX10 96 yX10_isHour ∈ gg_l := gg_in 1289 (by decide +kernel) (by decide +kernel)
theorem lp_X0_2 : gx_p 0 2 .int := ⟨RX0, TX0, 5, tyX0, rfl, tyX0_ok, nmX0, by decide +kernel, by decide +kernel⟩
theorem lp_X0_3 : gx_p 0 3 .int := ⟨RX0, TX0, 5, tyX0, rfl, tyX0_ok, nmX0, by decide +kernel, by decide +kernel⟩
theorem lp_X0_4 : gx_p 0 4 .int := ⟨RX0, TX0, 5, tyX0, rfl, tyX0_ok, nmX0, by decide +kernel, by decide +kernel⟩
theorem lp_X1_3 : gx_p 1 3 .int := ⟨RX1, TX1, 5, tyX1, rfl, tyX1_ok, nmX1, by decide +kernel, by decide +kernel⟩
theorem lp_X1_4 : gx_p 1 4 .int := ⟨RX1, TX1, 5, tyX1, rfl, tyX1_ok, nmX1, by decide +kernel, by decide +kernel⟩
theorem lp_X10_12 : gx_p 10 12 .int := ⟨RX10, TX10, 50, tyX10, rfl, tyX10_ok, nmX10, by decide +kernel, by decide +kernel⟩
theorem lp_X10_13 : gx_p 10 13 .int := ⟨RX10, TX10, 50, tyX10, rfl, tyX10_ok, nmX10, by decide +kernel, by decide +kernel⟩
theorem lp_X10_15 : gx_p 10 15 .int := ⟨RX10, TX10, 50, tyX10, rfl, tyX10_ok, nmX10, by decide +kernel, by decide +kernel⟩
theorem lp_X10_17 : gx_p 10 17 .int := ⟨RX10, TX10, 50, tyX10, rfl, tyX10_ok, nmX10, by decide +kernel, by decide +kernel⟩
theorem lp_X10_18 : gx_p 10 18 .boolean := ⟨RX10, TX10, 50, tyX10, rfl, tyX10_ok, nmX10, by decide +kernel, by decide +kernel⟩
theorem lp_X10_19 : gx_p 10 19 .boolean := ⟨RX10, TX10, 50, tyX10, rfl, tyX10_ok, nmX10, by decide +kernel, by decide +kernel⟩
theorem lp_X10_20 : gx_p 10 20 .int := ⟨RX10, TX10, 50, tyX10, rfl, tyX10_ok, nmX10, by decide +kernel, by decide +kernel⟩
theorem lp_X10_21 : gx_p 10 21 .boolean := ⟨RX10, TX10, 50, tyX10, rfl, tyX10_ok, nmX10, by decide +kernel, by decide +kernel⟩
theorem lp_X10_22 : gx_p 10 22 .int := ⟨RX10, TX10, 50, tyX10, rfl, tyX10_ok, nmX10, by decide +kernel, by decide +kernel⟩
theorem lp_X10_23 : gx_p 10 23 .int := ⟨RX10, TX10, 50, tyX10, rfl, tyX10_ok, nmX10, by decide +kernel, by decide +kernel⟩
theorem lp_X10_24 : gx_p 10 24 .int := ⟨RX10, TX10, 50, tyX10, rfl, tyX10_ok, nmX10, by decide +kernel, by decide +kernel⟩
theorem lp_X10_25 : gx_p 10 25 .int := ⟨RX10, TX10, 50, tyX10, rfl, tyX10_ok, nmX10, by decide +kernel, by decide +kernel⟩
theorem lp_X10_26 : gx_p 10 26 .int := ⟨RX10, TX10, 50, tyX10, rfl, tyX10_ok, nmX10, by decide +kernel, by decide +kernel⟩
theorem lp_X10_27 : gx_p 10 27 .int := ⟨RX10, TX10, 50, tyX10, rfl, tyX10_ok, nmX10, by decide +kernel, by decide +kernel⟩
theorem lp_X10_28 : gx_p 10 28 .int := ⟨RX10, TX10, 50, tyX10, rfl, tyX10_ok, nmX10, by decide +kernel, by decide +kernel⟩
theorem lp_X10_29 : gx_p 10 29 .int := ⟨RX10, TX10, 50, tyX10, rfl, tyX10_ok, nmX10, by decide +kernel, by decide +kernel⟩
theorem lp_X10_30 : gx_p 10 30 .int := ⟨RX10, TX10, 50, tyX10, rfl, tyX10_ok, nmX10, by decide +kernel, by decide +kernel⟩
theorem lp_X10_31 : gx_p 10 31 .int := ⟨RX10, TX10, 50, tyX10, rfl, tyX10_ok, nmX10, by decide +kernel, by decide +kernel⟩
theorem lp_X10_33 : gx_p 10 33 .int := ⟨RX10, TX10, 50, tyX10, rfl, tyX10_ok, nmX10, by decide +kernel, by decide +kernel⟩
theorem lp_X10_38 : gx_p 10 38 .int := ⟨RX10, TX10, 50, tyX10, rfl, tyX10_ok, nmX10, by decide +kernel, by decide +kernel⟩
theorem lp_X10_4 : gx_p 10 4 .int := ⟨RX10, TX10, 50, tyX10, rfl, tyX10_ok, nmX10, by decide +kernel, by decide +kernel⟩
theorem lp_X10_40 : gx_p 10 40 .int := ⟨RX10, TX10, 50, tyX10, rfl, tyX10_ok, nmX10, by decide +kernel, by decide +kernel⟩
theorem lp_X10_42 : gx_p 10 42 .int := ⟨RX10, TX10, 50, tyX10, rfl, tyX10_ok, nmX10, by decide +kernel, by decide +kernel⟩
theorem lp_X10_43 : gx_p 10 43 .int := ⟨RX10, TX10, 50, tyX10, rfl, tyX10_ok, nmX10, by decide +kernel, by decide +kernel⟩
theorem lp_X10_44 : gx_p 10 44 .int := ⟨RX10, TX10, 50, tyX10, rfl, tyX10_ok, nmX10, by decide +kernel, by decide +kernel⟩
theorem lp_X10_5 : gx_p 10 5 .int := ⟨RX10, TX10, 50, tyX10, rfl, tyX10_ok, nmX10, by decide +kernel, by decide +kernel⟩
theorem lp_X10_6 : gx_p 10 6 .int := ⟨RX10, TX10, 50, tyX10, rfl, tyX10_ok, nmX10, by decide +kernel, by decide +kernel⟩
theorem lp_X2_3 : gx_p 2 3 .int := ⟨RX2, TX2, 5, tyX2, rfl, tyX2_ok, nmX2, by decide +kernel, by decide +kernel⟩
theorem lp_X2_4 : gx_p 2 4 .int := ⟨RX2, TX2, 5, tyX2, rfl, tyX2_ok, nmX2, by decide +kernel, by decide +kernel⟩
theorem lp_X3_1 : gx_p 3 1 .int := ⟨RX3, TX3, 5, tyX3, rfl, tyX3_ok, nmX3, by decide +kernel, by decide +kernel⟩
theorem lp_X3_2 : gx_p 3 2 .int := ⟨RX3, TX3, 5, tyX3, rfl, tyX3_ok, nmX3, by decide +kernel, by decide +kernel⟩
theorem lp_X3_3 : gx_p 3 3 (.object "AnyTwoBells$Program") := ⟨RX3, TX3, 5, tyX3, rfl, tyX3_ok, nmX3, by decide +kernel, by decide +kernel⟩
theorem lp_X3_4 : gx_p 3 4 (.object "AnyTwoBells$Program") := ⟨RX3, TX3, 5, tyX3, rfl, tyX3_ok, nmX3, by decide +kernel, by decide +kernel⟩
theorem lp_X4_4 : gx_p 4 4 .int := ⟨RX4, TX4, 5, tyX4, rfl, tyX4_ok, nmX4, by decide +kernel, by decide +kernel⟩
theorem lp_X5_4 : gx_p 5 4 .int := ⟨RX5, TX5, 5, tyX5, rfl, tyX5_ok, nmX5, by decide +kernel, by decide +kernel⟩
theorem lp_X7_2 : gx_p 7 2 .int := ⟨RX7, TX7, 3, tyX7, rfl, tyX7_ok, nmX7, by decide +kernel, by decide +kernel⟩
theorem lp_X8_0 : gx_p 8 0 .int := ⟨RX8, TX8, 8, tyX8, rfl, tyX8_ok, nmX8, by decide +kernel, by decide +kernel⟩
theorem lp_X8_1 : gx_p 8 1 .int := ⟨RX8, TX8, 8, tyX8, rfl, tyX8_ok, nmX8, by decide +kernel, by decide +kernel⟩
theorem lp_X8_2 : gx_p 8 2 .int := ⟨RX8, TX8, 8, tyX8, rfl, tyX8_ok, nmX8, by decide +kernel, by decide +kernel⟩
theorem lst_X0_26 : Cond.fieldLink RX0 26 "AnyTwoBells$Acts" "ABOVE" "[I" ∈ gg_l := gg_in 1007 (by decide +kernel) (by decide +kernel)
theorem lst_X0_39 : Cond.fieldLink RX0 39 "AnyTwoBells$Acts" "OWN" "[I" ∈ gg_l := gg_in 1005 (by decide +kernel) (by decide +kernel)
