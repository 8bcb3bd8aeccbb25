theorem kclL_13 : Cond.classLink RL 13 "java/lang/IndexOutOfBoundsException" ∈ WT := wtT 262 (by decide +kernel) rfl
theorem kclL_15 : Cond.classLink RL 15 "java/lang/IllegalArgumentException" ∈ WT := wtT 339 (by decide +kernel) rfl
theorem kmL_7 : Cond.methodLink RL 7 yX9_set ∈ WT := wtT 340 (by decide +kernel) rfl
theorem kca_1 : Cond.castable "java/lang/IndexOutOfBoundsException" "java/lang/IndexOutOfBoundsException" ∈ NT := ntT 349 (by decide +kernel) rfl
theorem kca_2 : Cond.castable "java/lang/IllegalArgumentException" "java/lang/IllegalArgumentException" ∈ NT := ntT 365 (by decide +kernel) rfl
theorem mwL_set : MWordsW yL_set cL_set 6 (some .int) [(0, 7, 10, 13), (0, 7, 14, 15)] 4 := ⟨wtT 0 (by decide +kernel) rfl, wtT 261 (by decide +kernel) rfl, by decide +kernel⟩
theorem msL_set : Cond.static yL_set ∈ WT := wtT 260 (by decide +kernel) rfl
theorem kmL_17 : Cond.methodLink RL 17 yX9_pattern ∈ WT := wtT 387 (by decide +kernel) rfl
theorem mwL_pattern : MWordsW yL_pattern cL_pattern 4 (some .int) [(0, 8, 11, 13)] 3 := ⟨wtT 0 (by decide +kernel) rfl, wtT 386 (by decide +kernel) rfl, by decide +kernel⟩
theorem msL_pattern : Cond.static yL_pattern ∈ WT := wtT 385 (by decide +kernel) rfl
theorem kmL_21 : Cond.methodLink RL 21 yX9_told ∈ WT := wtT 394 (by decide +kernel) rfl
theorem mwL_told : MWordsW yL_told cL_told 5 (some .int) [(0, 10, 13, 13), (0, 10, 17, 15)] 4 := ⟨wtT 0 (by decide +kernel) rfl, wtT 393 (by decide +kernel) rfl, by decide +kernel⟩
theorem msL_told : Cond.static yL_told ∈ WT := wtT 392 (by decide +kernel) rfl
theorem kmL_25 : Cond.methodLink RL 25 yX9_whole ∈ WT := wtT 427 (by decide +kernel) rfl
theorem mwL_whole : MWordsW yL_whole cL_whole 4 (some .int) [(0, 8, 11, 13)] 3 := ⟨wtT 0 (by decide +kernel) rfl, wtT 426 (by decide +kernel) rfl, by decide +kernel⟩
theorem msL_whole : Cond.static yL_whole ∈ WT := wtT 425 (by decide +kernel) rfl
theorem kmL_28 : Cond.methodLink RL 28 yX9_convert ∈ WT := wtT 434 (by decide +kernel) rfl
theorem mwL_convert : MWordsW yL_convert cL_convert 6 (some .int) [(0, 9, 12, 13), (0, 9, 16, 15)] 5 := ⟨wtT 0 (by decide +kernel) rfl, wtT 433 (by decide +kernel) rfl, by decide +kernel⟩
theorem msL_convert : Cond.static yL_convert ∈ WT := wtT 432 (by decide +kernel) rfl
theorem kmL_32 : Cond.methodLink RL 32 yX9_from ∈ WT := wtT 523 (by decide +kernel) rfl
theorem mwL_from : MWordsW yL_from cL_from 7 (some .int) [(0, 9, 12, 13), (0, 9, 16, 15)] 5 := ⟨wtT 0 (by decide +kernel) rfl, wtT 522 (by decide +kernel) rfl, by decide +kernel⟩
theorem msL_from : Cond.static yL_from ∈ WT := wtT 521 (by decide +kernel) rfl
theorem kclL_40 : Cond.classLink RL 40 "java/lang/ArithmeticException" ∈ WT := wtT 534 (by decide +kernel) rfl
theorem kmL_36 : Cond.methodLink RL 36 yX9_to ∈ WT := wtT 548 (by decide +kernel) rfl
theorem kca_3 : Cond.castable "java/lang/ArithmeticException" "java/lang/ArithmeticException" ∈ NT := ntT 546 (by decide +kernel) rfl
theorem mwL_to : MWordsW yL_to cL_to 5 (some .int) [(0, 9, 12, 13), (0, 9, 16, 15), (0, 9, 20, 40)] 4 := ⟨wtT 0 (by decide +kernel) rfl, wtT 533 (by decide +kernel) rfl, by decide +kernel⟩
theorem msL_to : Cond.static yL_to ∈ WT := wtT 532 (by decide +kernel) rfl
theorem kmL_42 : Cond.methodLink RL 42 yX9_order ∈ WT := wtT 585 (by decide +kernel) rfl
theorem mwL_order : MWordsW yL_order cL_order 5 (some .int) [(0, 10, 13, 13)] 4 := ⟨wtT 0 (by decide +kernel) rfl, wtT 584 (by decide +kernel) rfl, by decide +kernel⟩
theorem msL_order : Cond.static yL_order ∈ WT := wtT 583 (by decide +kernel) rfl
theorem kmL_45 : Cond.methodLink RL 45 yX9_step ∈ WT := wtT 608 (by decide +kernel) rfl
theorem mwL_step : MWordsW yL_step cL_step 4 (some .int) [(0, 6, 9, 13)] 3 := ⟨wtT 0 (by decide +kernel) rfl, wtT 607 (by decide +kernel) rfl, by decide +kernel⟩
theorem msL_step : Cond.static yL_step ∈ WT := wtT 606 (by decide +kernel) rfl
theorem kmL_49 : Cond.methodLink RL 49 yX9_add ∈ WT := wtT 619 (by decide +kernel) rfl
theorem mwL_add : MWordsW yL_add cL_add 6 (some .int) [(0, 9, 12, 13), (0, 9, 16, 15)] 5 := ⟨wtT 0 (by decide +kernel) rfl, wtT 618 (by decide +kernel) rfl, by decide +kernel⟩
theorem msL_add : Cond.static yL_add ∈ WT := wtT 617 (by decide +kernel) rfl
theorem kmL_52 : Cond.methodLink RL 52 yX9_less ∈ WT := wtT 656 (by decide +kernel) rfl
theorem mwL_less : MWordsW yL_less cL_less 6 (some .int) [(0, 9, 12, 13), (0, 9, 16, 15)] 5 := ⟨wtT 0 (by decide +kernel) rfl, wtT 655 (by decide +kernel) rfl, by decide +kernel⟩
theorem msL_less : Cond.static yL_less ∈ WT := wtT 654 (by decide +kernel) rfl
theorem kmL_55 : Cond.methodLink RL 55 yX9_times ∈ WT := wtT 663 (by decide +kernel) rfl
theorem mwL_times : MWordsW yL_times cL_times 6 (some .int) [(0, 9, 12, 13), (0, 9, 16, 15)] 5 := ⟨wtT 0 (by decide +kernel) rfl, wtT 662 (by decide +kernel) rfl, by decide +kernel⟩
theorem msL_times : Cond.static yL_times ∈ WT := wtT 661 (by decide +kernel) rfl
theorem kmL_58 : Cond.methodLink RL 58 yX9_over ∈ WT := wtT 686 (by decide +kernel) rfl
theorem mwL_over : MWordsW yL_over cL_over 6 (some .int) [(0, 9, 12, 13), (0, 9, 16, 15)] 5 := ⟨wtT 0 (by decide +kernel) rfl, wtT 685 (by decide +kernel) rfl, by decide +kernel⟩
theorem msL_over : Cond.static yL_over ∈ WT := wtT 684 (by decide +kernel) rfl
theorem kmL_61 : Cond.methodLink RL 61 yX9_fused ∈ WT := wtT 701 (by decide +kernel) rfl
theorem mwL_fused : MWordsW yL_fused cL_fused 6 (some .int) [(0, 9, 12, 13), (0, 9, 16, 15)] 5 := ⟨wtT 0 (by decide +kernel) rfl, wtT 700 (by decide +kernel) rfl, by decide +kernel⟩
theorem msL_fused : Cond.static yL_fused ∈ WT := wtT 699 (by decide +kernel) rfl
theorem kmL_64 : Cond.methodLink RL 64 yX9_root ∈ WT := wtT 712 (by decide +kernel) rfl
theorem mwL_root : MWordsW yL_root cL_root 5 (some .int) [(0, 7, 10, 13), (0, 7, 14, 15)] 4 := ⟨wtT 0 (by decide +kernel) rfl, wtT 711 (by decide +kernel) rfl, by decide +kernel⟩
theorem msL_root : Cond.static yL_root ∈ WT := wtT 710 (by decide +kernel) rfl
theorem kmL_68 : Cond.methodLink RL 68 yX9_feed ∈ WT := wtT 728 (by decide +kernel) rfl
theorem mwL_feed : MWordsW yL_feed cL_feed 6 (some .int) [(0, 11, 14, 15)] 4 := ⟨wtT 0 (by decide +kernel) rfl, wtT 727 (by decide +kernel) rfl, by decide +kernel⟩
theorem msL_feed : Cond.static yL_feed ∈ WT := wtT 726 (by decide +kernel) rfl
theorem kmL_72 : Cond.methodLink RL 72 yX9_read ∈ WT := wtT 744 (by decide +kernel) rfl
theorem mwL_read : MWordsW yL_read cL_read 6 (some .int) [(0, 12, 15, 13), (0, 12, 19, 15)] 5 := ⟨wtT 0 (by decide +kernel) rfl, wtT 743 (by decide +kernel) rfl, by decide +kernel⟩
theorem msL_read : Cond.static yL_read ∈ WT := wtT 742 (by decide +kernel) rfl
theorem kmL_76 : Cond.methodLink RL 76 yX9_write ∈ WT := wtT 854 (by decide +kernel) rfl
theorem mwL_write : MWordsW yL_write cL_write 7 (some .int) [(0, 14, 17, 13), (0, 14, 21, 15)] 6 := ⟨wtT 0 (by decide +kernel) rfl, wtT 853 (by decide +kernel) rfl, by decide +kernel⟩
theorem msL_write : Cond.static yL_write ∈ WT := wtT 852 (by decide +kernel) rfl
theorem mwX9_set : MWords yX9_set cX9_set 5 none 3 := ⟨wtT 1 (by decide +kernel) rfl, wtT 343 (by decide +kernel) rfl, by decide +kernel⟩
theorem miX9_set : Cond.instanceMethod yX9_set ∈ WT ∧ Cond.selects yX9_set.cls yX9_set yX9_set ∈ WT := ⟨wtT 341 (by decide +kernel) rfl, wtT 342 (by decide +kernel) rfl⟩
theorem mwX11_set : MWords yX11_set cX11_set 5 none 3 := ⟨wtT 10 (by decide +kernel) rfl, wtT 1156 (by decide +kernel) rfl, by decide +kernel⟩
theorem miX11_set : Cond.instanceMethod yX11_set ∈ WT ∧ Cond.selects yX11_set.cls yX11_set yX11_set ∈ WT := ⟨wtT 1154 (by decide +kernel) rfl, wtT 1155 (by decide +kernel) rfl⟩
theorem mwX11_thrown : MWords yX11_thrown cX11_thrown 1 (some .int) 0 := ⟨wtT 10 (by decide +kernel) rfl, wtT 1152 (by decide +kernel) rfl, by decide +kernel⟩
theorem miX11_thrown : Cond.instanceMethod yX11_thrown ∈ WT ∧ Cond.selects yX11_thrown.cls yX11_thrown yX11_thrown ∈ WT := ⟨wtT 1150 (by decide +kernel) rfl, wtT 1151 (by decide +kernel) rfl⟩
theorem kcL_84 : Cond.constantLong RL 84 (4294967295) ∈ WT := wtT 1510 (by decide +kernel) rfl
theorem kmL_86 : Cond.methodLink RL 86 yL_set ∈ WT := wtT 259 (by decide +kernel) rfl
theorem kmL_91 : Cond.methodLink RL 91 yX11_set ∈ WT := wtT 1153 (by decide +kernel) rfl
theorem kmL_92 : Cond.methodLink RL 92 yX11_thrown ∈ WT := wtT 1149 (by decide +kernel) rfl
theorem mwX9_pattern : MWords yX9_pattern cX9_pattern 2 (some .long) 1 := ⟨wtT 1 (by decide +kernel) rfl, wtT 390 (by decide +kernel) rfl, by decide +kernel⟩
theorem miX9_pattern : Cond.instanceMethod yX9_pattern ∈ WT ∧ Cond.selects yX9_pattern.cls yX9_pattern yX9_pattern ∈ WT := ⟨wtT 388 (by decide +kernel) rfl, wtT 389 (by decide +kernel) rfl⟩
theorem mwX11_pattern : MWords yX11_pattern cX11_pattern 2 (some .long) 1 := ⟨wtT 10 (by decide +kernel) rfl, wtT 1171 (by decide +kernel) rfl, by decide +kernel⟩
theorem miX11_pattern : Cond.instanceMethod yX11_pattern ∈ WT ∧ Cond.selects yX11_pattern.cls yX11_pattern yX11_pattern ∈ WT := ⟨wtT 1169 (by decide +kernel) rfl, wtT 1170 (by decide +kernel) rfl⟩
theorem kmL_96 : Cond.methodLink RL 96 yL_pattern ∈ WT := wtT 384 (by decide +kernel) rfl
theorem kmL_99 : Cond.methodLink RL 99 yX11_pattern ∈ WT := wtT 1168 (by decide +kernel) rfl
theorem mwX9_told : MWords yX9_told cX9_told 3 (some .int) 2 := ⟨wtT 1 (by decide +kernel) rfl, wtT 397 (by decide +kernel) rfl, by decide +kernel⟩
theorem miX9_told : Cond.instanceMethod yX9_told ∈ WT ∧ Cond.selects yX9_told.cls yX9_told yX9_told ∈ WT := ⟨wtT 395 (by decide +kernel) rfl, wtT 396 (by decide +kernel) rfl⟩
theorem mwX11_told : MWords yX11_told cX11_told 3 (some .int) 2 := ⟨wtT 10 (by decide +kernel) rfl, wtT 1175 (by decide +kernel) rfl, by decide +kernel⟩
theorem miX11_told : Cond.instanceMethod yX11_told ∈ WT ∧ Cond.selects yX11_told.cls yX11_told yX11_told ∈ WT := ⟨wtT 1173 (by decide +kernel) rfl, wtT 1174 (by decide +kernel) rfl⟩
theorem kmL_100 : Cond.methodLink RL 100 yL_told ∈ WT := wtT 391 (by decide +kernel) rfl
theorem kmL_103 : Cond.methodLink RL 103 yX11_told ∈ WT := wtT 1172 (by decide +kernel) rfl
theorem mwX9_whole : MWords yX9_whole cX9_whole 2 (some .long) 1 := ⟨wtT 1 (by decide +kernel) rfl, wtT 430 (by decide +kernel) rfl, by decide +kernel⟩
theorem miX9_whole : Cond.instanceMethod yX9_whole ∈ WT ∧ Cond.selects yX9_whole.cls yX9_whole yX9_whole ∈ WT := ⟨wtT 428 (by decide +kernel) rfl, wtT 429 (by decide +kernel) rfl⟩
theorem mwX11_whole : MWords yX11_whole cX11_whole 2 (some .long) 1 := ⟨wtT 10 (by decide +kernel) rfl, wtT 1193 (by decide +kernel) rfl, by decide +kernel⟩
theorem miX11_whole : Cond.instanceMethod yX11_whole ∈ WT ∧ Cond.selects yX11_whole.cls yX11_whole yX11_whole ∈ WT := ⟨wtT 1191 (by decide +kernel) rfl, wtT 1192 (by decide +kernel) rfl⟩
theorem kmL_104 : Cond.methodLink RL 104 yL_whole ∈ WT := wtT 424 (by decide +kernel) rfl
theorem kmL_106 : Cond.methodLink RL 106 yX11_whole ∈ WT := wtT 1190 (by decide +kernel) rfl
theorem mwX9_convert : MWords yX9_convert cX9_convert 5 none 4 := ⟨wtT 1 (by decide +kernel) rfl, wtT 437 (by decide +kernel) rfl, by decide +kernel⟩
theorem miX9_convert : Cond.instanceMethod yX9_convert ∈ WT ∧ Cond.selects yX9_convert.cls yX9_convert yX9_convert ∈ WT := ⟨wtT 435 (by decide +kernel) rfl, wtT 436 (by decide +kernel) rfl⟩
theorem mwX11_convert : MWords yX11_convert cX11_convert 5 none 4 := ⟨wtT 10 (by decide +kernel) rfl, wtT 1197 (by decide +kernel) rfl, by decide +kernel⟩
theorem miX11_convert : Cond.instanceMethod yX11_convert ∈ WT ∧ Cond.selects yX11_convert.cls yX11_convert yX11_convert ∈ WT := ⟨wtT 1195 (by decide +kernel) rfl, wtT 1196 (by decide +kernel) rfl⟩
theorem kmL_107 : Cond.methodLink RL 107 yL_convert ∈ WT := wtT 431 (by decide +kernel) rfl
theorem kmL_110 : Cond.methodLink RL 110 yX11_convert ∈ WT := wtT 1194 (by decide +kernel) rfl
theorem mwX9_from : MWords yX9_from cX9_from 6 none 4 := ⟨wtT 1 (by decide +kernel) rfl, wtT 526 (by decide +kernel) rfl, by decide +kernel⟩
theorem miX9_from : Cond.instanceMethod yX9_from ∈ WT ∧ Cond.selects yX9_from.cls yX9_from yX9_from ∈ WT := ⟨wtT 524 (by decide +kernel) rfl, wtT 525 (by decide +kernel) rfl⟩
theorem mwX11_from : MWords yX11_from cX11_from 6 none 4 := ⟨wtT 10 (by decide +kernel) rfl, wtT 1302 (by decide +kernel) rfl, by decide +kernel⟩
theorem miX11_from : Cond.instanceMethod yX11_from ∈ WT ∧ Cond.selects yX11_from.cls yX11_from yX11_from ∈ WT := ⟨wtT 1300 (by decide +kernel) rfl, wtT 1301 (by decide +kernel) rfl⟩
theorem kmL_111 : Cond.methodLink RL 111 yL_from ∈ WT := wtT 520 (by decide +kernel) rfl
theorem kmL_114 : Cond.methodLink RL 114 yX11_from ∈ WT := wtT 1299 (by decide +kernel) rfl
theorem mwX9_to : MWords yX9_to cX9_to 3 (some .long) 2 := ⟨wtT 1 (by decide +kernel) rfl, wtT 551 (by decide +kernel) rfl, by decide +kernel⟩
theorem miX9_to : Cond.instanceMethod yX9_to ∈ WT ∧ Cond.selects yX9_to.cls yX9_to yX9_to ∈ WT := ⟨wtT 549 (by decide +kernel) rfl, wtT 550 (by decide +kernel) rfl⟩
theorem mwX11_to : MWords yX11_to cX11_to 7 (some .long) 2 := ⟨wtT 10 (by decide +kernel) rfl, wtT 1306 (by decide +kernel) rfl, by decide +kernel⟩
theorem miX11_to : Cond.instanceMethod yX11_to ∈ WT ∧ Cond.selects yX11_to.cls yX11_to yX11_to ∈ WT := ⟨wtT 1304 (by decide +kernel) rfl, wtT 1305 (by decide +kernel) rfl⟩
theorem kmL_115 : Cond.methodLink RL 115 yL_to ∈ WT := wtT 531 (by decide +kernel) rfl
theorem kmL_117 : Cond.methodLink RL 117 yX11_to ∈ WT := wtT 1303 (by decide +kernel) rfl
theorem mwX9_order : MWords yX9_order cX9_order 3 (some .int) 2 := ⟨wtT 1 (by decide +kernel) rfl, wtT 588 (by decide +kernel) rfl, by decide +kernel⟩
theorem miX9_order : Cond.instanceMethod yX9_order ∈ WT ∧ Cond.selects yX9_order.cls yX9_order yX9_order ∈ WT := ⟨wtT 586 (by decide +kernel) rfl, wtT 587 (by decide +kernel) rfl⟩
theorem mwX11_order : MWords yX11_order cX11_order 6 (some .int) 2 := ⟨wtT 10 (by decide +kernel) rfl, wtT 1376 (by decide +kernel) rfl, by decide +kernel⟩
theorem miX11_order : Cond.instanceMethod yX11_order ∈ WT ∧ Cond.selects yX11_order.cls yX11_order yX11_order ∈ WT := ⟨wtT 1374 (by decide +kernel) rfl, wtT 1375 (by decide +kernel) rfl⟩
theorem kmL_118 : Cond.methodLink RL 118 yL_order ∈ WT := wtT 582 (by decide +kernel) rfl
theorem kmL_120 : Cond.methodLink RL 120 yX11_order ∈ WT := wtT 1373 (by decide +kernel) rfl
theorem mwX9_step : MWords yX9_step cX9_step 3 none 2 := ⟨wtT 1 (by decide +kernel) rfl, wtT 611 (by decide +kernel) rfl, by decide +kernel⟩
theorem miX9_step : Cond.instanceMethod yX9_step ∈ WT ∧ Cond.selects yX9_step.cls yX9_step yX9_step ∈ WT := ⟨wtT 609 (by decide +kernel) rfl, wtT 610 (by decide +kernel) rfl⟩
theorem mwX11_step : MWords yX11_step cX11_step 6 none 2 := ⟨wtT 10 (by decide +kernel) rfl, wtT 1381 (by decide +kernel) rfl, by decide +kernel⟩
theorem miX11_step : Cond.instanceMethod yX11_step ∈ WT ∧ Cond.selects yX11_step.cls yX11_step yX11_step ∈ WT := ⟨wtT 1379 (by decide +kernel) rfl, wtT 1380 (by decide +kernel) rfl⟩
theorem kmL_121 : Cond.methodLink RL 121 yL_step ∈ WT := wtT 605 (by decide +kernel) rfl
theorem kmL_124 : Cond.methodLink RL 124 yX11_step ∈ WT := wtT 1378 (by decide +kernel) rfl
theorem mwX9_add : MWords yX9_add cX9_add 5 none 4 := ⟨wtT 1 (by decide +kernel) rfl, wtT 622 (by decide +kernel) rfl, by decide +kernel⟩
theorem miX9_add : Cond.instanceMethod yX9_add ∈ WT ∧ Cond.selects yX9_add.cls yX9_add yX9_add ∈ WT := ⟨wtT 620 (by decide +kernel) rfl, wtT 621 (by decide +kernel) rfl⟩
theorem mwX11_add : MWords yX11_add cX11_add 5 none 4 := ⟨wtT 10 (by decide +kernel) rfl, wtT 1327 (by decide +kernel) rfl, by decide +kernel⟩
theorem miX11_add : Cond.instanceMethod yX11_add ∈ WT ∧ Cond.selects yX11_add.cls yX11_add yX11_add ∈ WT := ⟨wtT 1325 (by decide +kernel) rfl, wtT 1326 (by decide +kernel) rfl⟩
theorem kmL_125 : Cond.methodLink RL 125 yL_add ∈ WT := wtT 616 (by decide +kernel) rfl
theorem kmL_127 : Cond.methodLink RL 127 yX11_add ∈ WT := wtT 1324 (by decide +kernel) rfl
theorem mwX9_less : MWords yX9_less cX9_less 5 none 4 := ⟨wtT 1 (by decide +kernel) rfl, wtT 659 (by decide +kernel) rfl, by decide +kernel⟩
theorem miX9_less : Cond.instanceMethod yX9_less ∈ WT ∧ Cond.selects yX9_less.cls yX9_less yX9_less ∈ WT := ⟨wtT 657 (by decide +kernel) rfl, wtT 658 (by decide +kernel) rfl⟩
theorem mwX11_less : MWords yX11_less cX11_less 5 none 4 := ⟨wtT 10 (by decide +kernel) rfl, wtT 1352 (by decide +kernel) rfl, by decide +kernel⟩
theorem miX11_less : Cond.instanceMethod yX11_less ∈ WT ∧ Cond.selects yX11_less.cls yX11_less yX11_less ∈ WT := ⟨wtT 1350 (by decide +kernel) rfl, wtT 1351 (by decide +kernel) rfl⟩
theorem kmL_128 : Cond.methodLink RL 128 yL_less ∈ WT := wtT 653 (by decide +kernel) rfl
theorem kmL_130 : Cond.methodLink RL 130 yX11_less ∈ WT := wtT 1349 (by decide +kernel) rfl
theorem mwX9_times : MWords yX9_times cX9_times 5 none 4 := ⟨wtT 1 (by decide +kernel) rfl, wtT 666 (by decide +kernel) rfl, by decide +kernel⟩
theorem miX9_times : Cond.instanceMethod yX9_times ∈ WT ∧ Cond.selects yX9_times.cls yX9_times yX9_times ∈ WT := ⟨wtT 664 (by decide +kernel) rfl, wtT 665 (by decide +kernel) rfl⟩
theorem mwX11_times : MWords yX11_times cX11_times 6 none 4 := ⟨wtT 10 (by decide +kernel) rfl, wtT 1356 (by decide +kernel) rfl, by decide +kernel⟩
theorem miX11_times : Cond.instanceMethod yX11_times ∈ WT ∧ Cond.selects yX11_times.cls yX11_times yX11_times ∈ WT := ⟨wtT 1354 (by decide +kernel) rfl, wtT 1355 (by decide +kernel) rfl⟩
theorem kmL_131 : Cond.methodLink RL 131 yL_times ∈ WT := wtT 660 (by decide +kernel) rfl
theorem kmL_133 : Cond.methodLink RL 133 yX11_times ∈ WT := wtT 1353 (by decide +kernel) rfl
theorem mwX9_over : MWords yX9_over cX9_over 5 none 4 := ⟨wtT 1 (by decide +kernel) rfl, wtT 689 (by decide +kernel) rfl, by decide +kernel⟩
theorem miX9_over : Cond.instanceMethod yX9_over ∈ WT ∧ Cond.selects yX9_over.cls yX9_over yX9_over ∈ WT := ⟨wtT 687 (by decide +kernel) rfl, wtT 688 (by decide +kernel) rfl⟩
theorem mwX11_over : MWords yX11_over cX11_over 7 none 4 := ⟨wtT 10 (by decide +kernel) rfl, wtT 1364 (by decide +kernel) rfl, by decide +kernel⟩
theorem miX11_over : Cond.instanceMethod yX11_over ∈ WT ∧ Cond.selects yX11_over.cls yX11_over yX11_over ∈ WT := ⟨wtT 1362 (by decide +kernel) rfl, wtT 1363 (by decide +kernel) rfl⟩
theorem kmL_134 : Cond.methodLink RL 134 yL_over ∈ WT := wtT 683 (by decide +kernel) rfl
theorem kmL_136 : Cond.methodLink RL 136 yX11_over ∈ WT := wtT 1361 (by decide +kernel) rfl
theorem mwX9_fused : MWords yX9_fused cX9_fused 5 none 4 := ⟨wtT 1 (by decide +kernel) rfl, wtT 704 (by decide +kernel) rfl, by decide +kernel⟩
theorem miX9_fused : Cond.instanceMethod yX9_fused ∈ WT ∧ Cond.selects yX9_fused.cls yX9_fused yX9_fused ∈ WT := ⟨wtT 702 (by decide +kernel) rfl, wtT 703 (by decide +kernel) rfl⟩
theorem mwX11_fused : MWords yX11_fused cX11_fused 6 none 4 := ⟨wtT 10 (by decide +kernel) rfl, wtT 1368 (by decide +kernel) rfl, by decide +kernel⟩
theorem miX11_fused : Cond.instanceMethod yX11_fused ∈ WT ∧ Cond.selects yX11_fused.cls yX11_fused yX11_fused ∈ WT := ⟨wtT 1366 (by decide +kernel) rfl, wtT 1367 (by decide +kernel) rfl⟩
theorem kmL_137 : Cond.methodLink RL 137 yL_fused ∈ WT := wtT 698 (by decide +kernel) rfl
theorem kmL_139 : Cond.methodLink RL 139 yX11_fused ∈ WT := wtT 1365 (by decide +kernel) rfl
theorem mwX9_root : MWords yX9_root cX9_root 4 none 3 := ⟨wtT 1 (by decide +kernel) rfl, wtT 715 (by decide +kernel) rfl, by decide +kernel⟩
theorem miX9_root : Cond.instanceMethod yX9_root ∈ WT ∧ Cond.selects yX9_root.cls yX9_root yX9_root ∈ WT := ⟨wtT 713 (by decide +kernel) rfl, wtT 714 (by decide +kernel) rfl⟩
theorem mwX11_root : MWords yX11_root cX11_root 5 none 3 := ⟨wtT 10 (by decide +kernel) rfl, wtT 1372 (by decide +kernel) rfl, by decide +kernel⟩
theorem miX11_root : Cond.instanceMethod yX11_root ∈ WT ∧ Cond.selects yX11_root.cls yX11_root yX11_root ∈ WT := ⟨wtT 1370 (by decide +kernel) rfl, wtT 1371 (by decide +kernel) rfl⟩
theorem kmL_140 : Cond.methodLink RL 140 yL_root ∈ WT := wtT 709 (by decide +kernel) rfl
theorem kmL_143 : Cond.methodLink RL 143 yX11_root ∈ WT := wtT 1369 (by decide +kernel) rfl
theorem mwX9_feed : MWords yX9_feed cX9_feed 5 (some .int) 2 := ⟨wtT 1 (by decide +kernel) rfl, wtT 731 (by decide +kernel) rfl, by decide +kernel⟩
theorem miX9_feed : Cond.instanceMethod yX9_feed ∈ WT ∧ Cond.selects yX9_feed.cls yX9_feed yX9_feed ∈ WT := ⟨wtT 729 (by decide +kernel) rfl, wtT 730 (by decide +kernel) rfl⟩
theorem mwX11_feed : MWords yX11_feed cX11_feed 5 (some .int) 2 := ⟨wtT 10 (by decide +kernel) rfl, wtT 1385 (by decide +kernel) rfl, by decide +kernel⟩
theorem miX11_feed : Cond.instanceMethod yX11_feed ∈ WT ∧ Cond.selects yX11_feed.cls yX11_feed yX11_feed ∈ WT := ⟨wtT 1383 (by decide +kernel) rfl, wtT 1384 (by decide +kernel) rfl⟩
theorem kmL_144 : Cond.methodLink RL 144 yL_feed ∈ WT := wtT 725 (by decide +kernel) rfl
theorem kmL_147 : Cond.methodLink RL 147 yX11_feed ∈ WT := wtT 1382 (by decide +kernel) rfl
theorem mwX9_read : MWords yX9_read cX9_read 5 (some .int) 3 := ⟨wtT 1 (by decide +kernel) rfl, wtT 747 (by decide +kernel) rfl, by decide +kernel⟩
theorem miX9_read : Cond.instanceMethod yX9_read ∈ WT ∧ Cond.selects yX9_read.cls yX9_read yX9_read ∈ WT := ⟨wtT 745 (by decide +kernel) rfl, wtT 746 (by decide +kernel) rfl⟩
theorem mwX11_read : MWords yX11_read cX11_read 6 (some .int) 3 := ⟨wtT 10 (by decide +kernel) rfl, wtT 1389 (by decide +kernel) rfl, by decide +kernel⟩
theorem miX11_read : Cond.instanceMethod yX11_read ∈ WT ∧ Cond.selects yX11_read.cls yX11_read yX11_read ∈ WT := ⟨wtT 1387 (by decide +kernel) rfl, wtT 1388 (by decide +kernel) rfl⟩
theorem kmL_148 : Cond.methodLink RL 148 yL_read ∈ WT := wtT 741 (by decide +kernel) rfl
theorem kmL_151 : Cond.methodLink RL 151 yX11_read ∈ WT := wtT 1386 (by decide +kernel) rfl
theorem mwX9_write : MWords yX9_write cX9_write 5 (some .int) 4 := ⟨wtT 1 (by decide +kernel) rfl, wtT 857 (by decide +kernel) rfl, by decide +kernel⟩
theorem miX9_write : Cond.instanceMethod yX9_write ∈ WT ∧ Cond.selects yX9_write.cls yX9_write yX9_write ∈ WT := ⟨wtT 855 (by decide +kernel) rfl, wtT 856 (by decide +kernel) rfl⟩
theorem mwX11_write : MWords yX11_write cX11_write 6 (some .int) 4 := ⟨wtT 10 (by decide +kernel) rfl, wtT 1430 (by decide +kernel) rfl, by decide +kernel⟩
theorem miX11_write : Cond.instanceMethod yX11_write ∈ WT ∧ Cond.selects yX11_write.cls yX11_write yX11_write ∈ WT := ⟨wtT 1428 (by decide +kernel) rfl, wtT 1429 (by decide +kernel) rfl⟩
theorem kmL_152 : Cond.methodLink RL 152 yL_write ∈ WT := wtT 851 (by decide +kernel) rfl
theorem kmL_155 : Cond.methodLink RL 155 yX11_write ∈ WT := wtT 1427 (by decide +kernel) rfl
theorem mwX9_letter : MWords yX9_letter cX9_letter 2 (some .int) 1 := ⟨wtT 1 (by decide +kernel) rfl, wtT 254 (by decide +kernel) rfl, by decide +kernel⟩
theorem miX9_letter : Cond.instanceMethod yX9_letter ∈ WT ∧ Cond.selects yX9_letter.cls yX9_letter yX9_letter ∈ WT := ⟨wtT 252 (by decide +kernel) rfl, wtT 253 (by decide +kernel) rfl⟩
theorem mwX11_letter : MWords yX11_letter cX11_letter 2 (some .int) 1 := ⟨wtT 10 (by decide +kernel) rfl, wtT 1509 (by decide +kernel) rfl, by decide +kernel⟩
theorem miX11_letter : Cond.instanceMethod yX11_letter ∈ WT ∧ Cond.selects yX11_letter.cls yX11_letter yX11_letter ∈ WT := ⟨wtT 1507 (by decide +kernel) rfl, wtT 1508 (by decide +kernel) rfl⟩
theorem kmL_156 : Cond.methodLink RL 156 yX9_letter ∈ WT := wtT 251 (by decide +kernel) rfl
theorem kmL_160 : Cond.methodLink RL 160 yX11_letter ∈ WT := wtT 1506 (by decide +kernel) rfl
theorem dL_set_0 : decode cL_set 0 = .ok (.aload_n 0, 1) := by decide +kernel
theorem dL_set_1 : decode cL_set 1 = .ok (.iload_n 1, 1) := by decide +kernel
theorem dL_set_2 : decode cL_set 2 = .ok (.iload_n 2, 1) := by decide +kernel
theorem dL_set_3 : decode cL_set 3 = .ok (.lload_n 3, 1) := by decide +kernel
theorem dL_set_4 : decode cL_set 4 = .ok (.invokevirtual 7, 3) := by decide +kernel
theorem dL_set_7 : decode cL_set 7 = .ok (.goto 11, 3) := by decide +kernel
theorem dL_set_10 : decode cL_set 10 = .ok (.astore 5, 2) := by decide +kernel
theorem dL_set_12 : decode cL_set 12 = .ok (.iconst 1, 1) := by decide +kernel
theorem dL_set_13 : decode cL_set 13 = .ok (.ireturn, 1) := by decide +kernel
theorem dL_set_14 : decode cL_set 14 = .ok (.astore 5, 2) := by decide +kernel
theorem dL_set_16 : decode cL_set 16 = .ok (.iconst 2, 1) := by decide +kernel
theorem dL_set_17 : decode cL_set 17 = .ok (.ireturn, 1) := by decide +kernel
theorem dL_set_18 : decode cL_set 18 = .ok (.iconst 0, 1) := by decide +kernel
theorem dL_set_19 : decode cL_set 19 = .ok (.ireturn, 1) := by decide +kernel
theorem dL_pattern_0 : decode cL_pattern 0 = .ok (.aload_n 2, 1) := by decide +kernel
theorem dL_pattern_1 : decode cL_pattern 1 = .ok (.iconst 0, 1) := by decide +kernel
theorem dL_pattern_2 : decode cL_pattern 2 = .ok (.aload_n 0, 1) := by decide +kernel
theorem dL_pattern_3 : decode cL_pattern 3 = .ok (.iload_n 1, 1) := by decide +kernel
theorem dL_pattern_4 : decode cL_pattern 4 = .ok (.invokevirtual 17, 3) := by decide +kernel
theorem dL_pattern_7 : decode cL_pattern 7 = .ok (.lastore, 1) := by decide +kernel
theorem dL_pattern_8 : decode cL_pattern 8 = .ok (.goto 6, 3) := by decide +kernel
theorem dL_pattern_11 : decode cL_pattern 11 = .ok (.astore_n 3, 1) := by decide +kernel
theorem dL_pattern_12 : decode cL_pattern 12 = .ok (.iconst 1, 1) := by decide +kernel
theorem dL_pattern_13 : decode cL_pattern 13 = .ok (.ireturn, 1) := by decide +kernel
theorem dL_pattern_14 : decode cL_pattern 14 = .ok (.iconst 0, 1) := by decide +kernel
theorem dL_pattern_15 : decode cL_pattern 15 = .ok (.ireturn, 1) := by decide +kernel
theorem dL_told_0 : decode cL_told 0 = .ok (.aload_n 3, 1) := by decide +kernel
theorem dL_told_1 : decode cL_told 1 = .ok (.iconst 0, 1) := by decide +kernel
theorem dL_told_2 : decode cL_told 2 = .ok (.aload_n 0, 1) := by decide +kernel
theorem dL_told_3 : decode cL_told 3 = .ok (.iload_n 1, 1) := by decide +kernel
theorem dL_told_4 : decode cL_told 4 = .ok (.iload_n 2, 1) := by decide +kernel
theorem dL_told_5 : decode cL_told 5 = .ok (.invokevirtual 21, 3) := by decide +kernel
theorem dL_told_8 : decode cL_told 8 = .ok (.i2l, 1) := by decide +kernel
theorem dL_told_9 : decode cL_told 9 = .ok (.lastore, 1) := by decide +kernel
theorem dL_told_10 : decode cL_told 10 = .ok (.goto 11, 3) := by decide +kernel
theorem dL_told_13 : decode cL_told 13 = .ok (.astore 4, 2) := by decide +kernel
theorem dL_told_15 : decode cL_told 15 = .ok (.iconst 1, 1) := by decide +kernel
theorem dL_told_16 : decode cL_told 16 = .ok (.ireturn, 1) := by decide +kernel
theorem dL_told_17 : decode cL_told 17 = .ok (.astore 4, 2) := by decide +kernel
theorem dL_told_19 : decode cL_told 19 = .ok (.iconst 2, 1) := by decide +kernel
theorem dL_told_20 : decode cL_told 20 = .ok (.ireturn, 1) := by decide +kernel
theorem dL_told_21 : decode cL_told 21 = .ok (.iconst 0, 1) := by decide +kernel
theorem dL_told_22 : decode cL_told 22 = .ok (.ireturn, 1) := by decide +kernel
theorem dL_whole_0 : decode cL_whole 0 = .ok (.aload_n 2, 1) := by decide +kernel
theorem dL_whole_1 : decode cL_whole 1 = .ok (.iconst 0, 1) := by decide +kernel
theorem dL_whole_2 : decode cL_whole 2 = .ok (.aload_n 0, 1) := by decide +kernel
theorem dL_whole_3 : decode cL_whole 3 = .ok (.iload_n 1, 1) := by decide +kernel
theorem dL_whole_4 : decode cL_whole 4 = .ok (.invokevirtual 25, 3) := by decide +kernel
theorem dL_whole_7 : decode cL_whole 7 = .ok (.lastore, 1) := by decide +kernel
theorem dL_whole_8 : decode cL_whole 8 = .ok (.goto 6, 3) := by decide +kernel
theorem dL_whole_11 : decode cL_whole 11 = .ok (.astore_n 3, 1) := by decide +kernel
theorem dL_whole_12 : decode cL_whole 12 = .ok (.iconst 1, 1) := by decide +kernel
theorem dL_whole_13 : decode cL_whole 13 = .ok (.ireturn, 1) := by decide +kernel
theorem dL_whole_14 : decode cL_whole 14 = .ok (.iconst 0, 1) := by decide +kernel
theorem dL_whole_15 : decode cL_whole 15 = .ok (.ireturn, 1) := by decide +kernel
theorem dL_convert_0 : decode cL_convert 0 = .ok (.aload_n 0, 1) := by decide +kernel
theorem dL_convert_1 : decode cL_convert 1 = .ok (.iload_n 1, 1) := by decide +kernel
theorem dL_convert_2 : decode cL_convert 2 = .ok (.iload_n 2, 1) := by decide +kernel
theorem dL_convert_3 : decode cL_convert 3 = .ok (.iload_n 3, 1) := by decide +kernel
theorem dL_convert_4 : decode cL_convert 4 = .ok (.iload 4, 2) := by decide +kernel
theorem dL_convert_6 : decode cL_convert 6 = .ok (.invokevirtual 28, 3) := by decide +kernel
theorem dL_convert_9 : decode cL_convert 9 = .ok (.goto 11, 3) := by decide +kernel
theorem dL_convert_12 : decode cL_convert 12 = .ok (.astore 5, 2) := by decide +kernel
theorem dL_convert_14 : decode cL_convert 14 = .ok (.iconst 1, 1) := by decide +kernel
theorem dL_convert_15 : decode cL_convert 15 = .ok (.ireturn, 1) := by decide +kernel
theorem dL_convert_16 : decode cL_convert 16 = .ok (.astore 5, 2) := by decide +kernel
theorem dL_convert_18 : decode cL_convert 18 = .ok (.iconst 2, 1) := by decide +kernel
theorem dL_convert_19 : decode cL_convert 19 = .ok (.ireturn, 1) := by decide +kernel
theorem dL_convert_20 : decode cL_convert 20 = .ok (.iconst 0, 1) := by decide +kernel
theorem dL_convert_21 : decode cL_convert 21 = .ok (.ireturn, 1) := by decide +kernel
theorem dL_from_0 : decode cL_from 0 = .ok (.aload_n 0, 1) := by decide +kernel
theorem dL_from_1 : decode cL_from 1 = .ok (.iload_n 1, 1) := by decide +kernel
theorem dL_from_2 : decode cL_from 2 = .ok (.iload_n 2, 1) := by decide +kernel
theorem dL_from_3 : decode cL_from 3 = .ok (.lload_n 3, 1) := by decide +kernel
theorem dL_from_4 : decode cL_from 4 = .ok (.iload 5, 2) := by decide +kernel
theorem dL_from_6 : decode cL_from 6 = .ok (.invokevirtual 32, 3) := by decide +kernel
theorem dL_from_9 : decode cL_from 9 = .ok (.goto 11, 3) := by decide +kernel
theorem dL_from_12 : decode cL_from 12 = .ok (.astore 6, 2) := by decide +kernel
theorem dL_from_14 : decode cL_from 14 = .ok (.iconst 1, 1) := by decide +kernel
theorem dL_from_15 : decode cL_from 15 = .ok (.ireturn, 1) := by decide +kernel
theorem dL_from_16 : decode cL_from 16 = .ok (.astore 6, 2) := by decide +kernel
theorem dL_from_18 : decode cL_from 18 = .ok (.iconst 2, 1) := by decide +kernel
theorem dL_from_19 : decode cL_from 19 = .ok (.ireturn, 1) := by decide +kernel
theorem dL_from_20 : decode cL_from 20 = .ok (.iconst 0, 1) := by decide +kernel
theorem dL_from_21 : decode cL_from 21 = .ok (.ireturn, 1) := by decide +kernel
theorem dL_to_0 : decode cL_to 0 = .ok (.aload_n 3, 1) := by decide +kernel
theorem dL_to_1 : decode cL_to 1 = .ok (.iconst 0, 1) := by decide +kernel
theorem dL_to_2 : decode cL_to 2 = .ok (.aload_n 0, 1) := by decide +kernel
theorem dL_to_3 : decode cL_to 3 = .ok (.iload_n 1, 1) := by decide +kernel
theorem dL_to_4 : decode cL_to 4 = .ok (.iload_n 2, 1) := by decide +kernel
theorem dL_to_5 : decode cL_to 5 = .ok (.invokevirtual 36, 3) := by decide +kernel
theorem dL_to_8 : decode cL_to 8 = .ok (.lastore, 1) := by decide +kernel
theorem dL_to_9 : decode cL_to 9 = .ok (.goto 15, 3) := by decide +kernel
theorem dL_to_12 : decode cL_to 12 = .ok (.astore 4, 2) := by decide +kernel
theorem dL_to_14 : decode cL_to 14 = .ok (.iconst 1, 1) := by decide +kernel
theorem dL_to_15 : decode cL_to 15 = .ok (.ireturn, 1) := by decide +kernel
theorem dL_to_16 : decode cL_to 16 = .ok (.astore 4, 2) := by decide +kernel
theorem dL_to_18 : decode cL_to 18 = .ok (.iconst 2, 1) := by decide +kernel
theorem dL_to_19 : decode cL_to 19 = .ok (.ireturn, 1) := by decide +kernel
theorem dL_to_20 : decode cL_to 20 = .ok (.astore 4, 2) := by decide +kernel
theorem dL_to_22 : decode cL_to 22 = .ok (.iconst 3, 1) := by decide +kernel
theorem dL_to_23 : decode cL_to 23 = .ok (.ireturn, 1) := by decide +kernel
theorem dL_to_24 : decode cL_to 24 = .ok (.iconst 0, 1) := by decide +kernel
theorem dL_to_25 : decode cL_to 25 = .ok (.ireturn, 1) := by decide +kernel
theorem dL_order_0 : decode cL_order 0 = .ok (.aload_n 3, 1) := by decide +kernel
theorem dL_order_1 : decode cL_order 1 = .ok (.iconst 0, 1) := by decide +kernel
theorem dL_order_2 : decode cL_order 2 = .ok (.aload_n 0, 1) := by decide +kernel
theorem dL_order_3 : decode cL_order 3 = .ok (.iload_n 1, 1) := by decide +kernel
theorem dL_order_4 : decode cL_order 4 = .ok (.iload_n 2, 1) := by decide +kernel
theorem dL_order_5 : decode cL_order 5 = .ok (.invokevirtual 42, 3) := by decide +kernel
theorem dL_order_8 : decode cL_order 8 = .ok (.i2l, 1) := by decide +kernel
theorem dL_order_9 : decode cL_order 9 = .ok (.lastore, 1) := by decide +kernel
theorem dL_order_10 : decode cL_order 10 = .ok (.goto 7, 3) := by decide +kernel
theorem dL_order_13 : decode cL_order 13 = .ok (.astore 4, 2) := by decide +kernel
theorem dL_order_15 : decode cL_order 15 = .ok (.iconst 1, 1) := by decide +kernel
theorem dL_order_16 : decode cL_order 16 = .ok (.ireturn, 1) := by decide +kernel
theorem dL_order_17 : decode cL_order 17 = .ok (.iconst 0, 1) := by decide +kernel
theorem dL_order_18 : decode cL_order 18 = .ok (.ireturn, 1) := by decide +kernel
theorem dL_step_0 : decode cL_step 0 = .ok (.aload_n 0, 1) := by decide +kernel
theorem dL_step_1 : decode cL_step 1 = .ok (.iload_n 1, 1) := by decide +kernel
theorem dL_step_2 : decode cL_step 2 = .ok (.iload_n 2, 1) := by decide +kernel
theorem dL_step_3 : decode cL_step 3 = .ok (.invokevirtual 45, 3) := by decide +kernel
theorem dL_step_6 : decode cL_step 6 = .ok (.goto 6, 3) := by decide +kernel
theorem dL_step_9 : decode cL_step 9 = .ok (.astore_n 3, 1) := by decide +kernel
theorem dL_step_10 : decode cL_step 10 = .ok (.iconst 1, 1) := by decide +kernel
theorem dL_step_11 : decode cL_step 11 = .ok (.ireturn, 1) := by decide +kernel
theorem dL_step_12 : decode cL_step 12 = .ok (.iconst 0, 1) := by decide +kernel
theorem dL_step_13 : decode cL_step 13 = .ok (.ireturn, 1) := by decide +kernel
theorem dL_add_0 : decode cL_add 0 = .ok (.aload_n 0, 1) := by decide +kernel
theorem dL_add_1 : decode cL_add 1 = .ok (.iload_n 1, 1) := by decide +kernel
theorem dL_add_2 : decode cL_add 2 = .ok (.iload_n 2, 1) := by decide +kernel
theorem dL_add_3 : decode cL_add 3 = .ok (.iload_n 3, 1) := by decide +kernel
theorem dL_add_4 : decode cL_add 4 = .ok (.iload 4, 2) := by decide +kernel
theorem dL_add_6 : decode cL_add 6 = .ok (.invokevirtual 49, 3) := by decide +kernel
theorem dL_add_9 : decode cL_add 9 = .ok (.goto 11, 3) := by decide +kernel
theorem dL_add_12 : decode cL_add 12 = .ok (.astore 5, 2) := by decide +kernel
theorem dL_add_14 : decode cL_add 14 = .ok (.iconst 1, 1) := by decide +kernel
theorem dL_add_15 : decode cL_add 15 = .ok (.ireturn, 1) := by decide +kernel
theorem dL_add_16 : decode cL_add 16 = .ok (.astore 5, 2) := by decide +kernel
theorem dL_add_18 : decode cL_add 18 = .ok (.iconst 2, 1) := by decide +kernel
theorem dL_add_19 : decode cL_add 19 = .ok (.ireturn, 1) := by decide +kernel
theorem dL_add_20 : decode cL_add 20 = .ok (.iconst 0, 1) := by decide +kernel
theorem dL_add_21 : decode cL_add 21 = .ok (.ireturn, 1) := by decide +kernel
theorem dL_less_0 : decode cL_less 0 = .ok (.aload_n 0, 1) := by decide +kernel
theorem dL_less_1 : decode cL_less 1 = .ok (.iload_n 1, 1) := by decide +kernel
theorem dL_less_2 : decode cL_less 2 = .ok (.iload_n 2, 1) := by decide +kernel
theorem dL_less_3 : decode cL_less 3 = .ok (.iload_n 3, 1) := by decide +kernel
theorem dL_less_4 : decode cL_less 4 = .ok (.iload 4, 2) := by decide +kernel
theorem dL_less_6 : decode cL_less 6 = .ok (.invokevirtual 52, 3) := by decide +kernel
theorem dL_less_9 : decode cL_less 9 = .ok (.goto 11, 3) := by decide +kernel
theorem dL_less_12 : decode cL_less 12 = .ok (.astore 5, 2) := by decide +kernel
theorem dL_less_14 : decode cL_less 14 = .ok (.iconst 1, 1) := by decide +kernel
theorem dL_less_15 : decode cL_less 15 = .ok (.ireturn, 1) := by decide +kernel
theorem dL_less_16 : decode cL_less 16 = .ok (.astore 5, 2) := by decide +kernel
theorem dL_less_18 : decode cL_less 18 = .ok (.iconst 2, 1) := by decide +kernel
theorem dL_less_19 : decode cL_less 19 = .ok (.ireturn, 1) := by decide +kernel
theorem dL_less_20 : decode cL_less 20 = .ok (.iconst 0, 1) := by decide +kernel
theorem dL_less_21 : decode cL_less 21 = .ok (.ireturn, 1) := by decide +kernel
theorem dL_times_0 : decode cL_times 0 = .ok (.aload_n 0, 1) := by decide +kernel
theorem dL_times_1 : decode cL_times 1 = .ok (.iload_n 1, 1) := by decide +kernel
theorem dL_times_2 : decode cL_times 2 = .ok (.iload_n 2, 1) := by decide +kernel
theorem dL_times_3 : decode cL_times 3 = .ok (.iload_n 3, 1) := by decide +kernel
theorem dL_times_4 : decode cL_times 4 = .ok (.iload 4, 2) := by decide +kernel
theorem dL_times_6 : decode cL_times 6 = .ok (.invokevirtual 55, 3) := by decide +kernel
theorem dL_times_9 : decode cL_times 9 = .ok (.goto 11, 3) := by decide +kernel
theorem dL_times_12 : decode cL_times 12 = .ok (.astore 5, 2) := by decide +kernel
theorem dL_times_14 : decode cL_times 14 = .ok (.iconst 1, 1) := by decide +kernel
theorem dL_times_15 : decode cL_times 15 = .ok (.ireturn, 1) := by decide +kernel
theorem dL_times_16 : decode cL_times 16 = .ok (.astore 5, 2) := by decide +kernel
theorem dL_times_18 : decode cL_times 18 = .ok (.iconst 2, 1) := by decide +kernel
theorem dL_times_19 : decode cL_times 19 = .ok (.ireturn, 1) := by decide +kernel
theorem dL_times_20 : decode cL_times 20 = .ok (.iconst 0, 1) := by decide +kernel
theorem dL_times_21 : decode cL_times 21 = .ok (.ireturn, 1) := by decide +kernel
theorem dL_over_0 : decode cL_over 0 = .ok (.aload_n 0, 1) := by decide +kernel
theorem dL_over_1 : decode cL_over 1 = .ok (.iload_n 1, 1) := by decide +kernel
theorem dL_over_2 : decode cL_over 2 = .ok (.iload_n 2, 1) := by decide +kernel
theorem dL_over_3 : decode cL_over 3 = .ok (.iload_n 3, 1) := by decide +kernel
theorem dL_over_4 : decode cL_over 4 = .ok (.iload 4, 2) := by decide +kernel
theorem dL_over_6 : decode cL_over 6 = .ok (.invokevirtual 58, 3) := by decide +kernel
theorem dL_over_9 : decode cL_over 9 = .ok (.goto 11, 3) := by decide +kernel
theorem dL_over_12 : decode cL_over 12 = .ok (.astore 5, 2) := by decide +kernel
theorem dL_over_14 : decode cL_over 14 = .ok (.iconst 1, 1) := by decide +kernel
theorem dL_over_15 : decode cL_over 15 = .ok (.ireturn, 1) := by decide +kernel
theorem dL_over_16 : decode cL_over 16 = .ok (.astore 5, 2) := by decide +kernel
theorem dL_over_18 : decode cL_over 18 = .ok (.iconst 2, 1) := by decide +kernel
theorem dL_over_19 : decode cL_over 19 = .ok (.ireturn, 1) := by decide +kernel
theorem dL_over_20 : decode cL_over 20 = .ok (.iconst 0, 1) := by decide +kernel
theorem dL_over_21 : decode cL_over 21 = .ok (.ireturn, 1) := by decide +kernel
theorem dL_fused_0 : decode cL_fused 0 = .ok (.aload_n 0, 1) := by decide +kernel
theorem dL_fused_1 : decode cL_fused 1 = .ok (.iload_n 1, 1) := by decide +kernel
theorem dL_fused_2 : decode cL_fused 2 = .ok (.iload_n 2, 1) := by decide +kernel
theorem dL_fused_3 : decode cL_fused 3 = .ok (.iload_n 3, 1) := by decide +kernel
theorem dL_fused_4 : decode cL_fused 4 = .ok (.iload 4, 2) := by decide +kernel
theorem dL_fused_6 : decode cL_fused 6 = .ok (.invokevirtual 61, 3) := by decide +kernel
theorem dL_fused_9 : decode cL_fused 9 = .ok (.goto 11, 3) := by decide +kernel
theorem dL_fused_12 : decode cL_fused 12 = .ok (.astore 5, 2) := by decide +kernel
theorem dL_fused_14 : decode cL_fused 14 = .ok (.iconst 1, 1) := by decide +kernel
theorem dL_fused_15 : decode cL_fused 15 = .ok (.ireturn, 1) := by decide +kernel
theorem dL_fused_16 : decode cL_fused 16 = .ok (.astore 5, 2) := by decide +kernel
theorem dL_fused_18 : decode cL_fused 18 = .ok (.iconst 2, 1) := by decide +kernel
theorem dL_fused_19 : decode cL_fused 19 = .ok (.ireturn, 1) := by decide +kernel
theorem dL_fused_20 : decode cL_fused 20 = .ok (.iconst 0, 1) := by decide +kernel
theorem dL_fused_21 : decode cL_fused 21 = .ok (.ireturn, 1) := by decide +kernel
theorem dL_root_0 : decode cL_root 0 = .ok (.aload_n 0, 1) := by decide +kernel
theorem dL_root_1 : decode cL_root 1 = .ok (.iload_n 1, 1) := by decide +kernel
theorem dL_root_2 : decode cL_root 2 = .ok (.iload_n 2, 1) := by decide +kernel
theorem dL_root_3 : decode cL_root 3 = .ok (.iload_n 3, 1) := by decide +kernel
theorem dL_root_4 : decode cL_root 4 = .ok (.invokevirtual 64, 3) := by decide +kernel
theorem dL_root_7 : decode cL_root 7 = .ok (.goto 11, 3) := by decide +kernel
theorem dL_root_10 : decode cL_root 10 = .ok (.astore 4, 2) := by decide +kernel
theorem dL_root_12 : decode cL_root 12 = .ok (.iconst 1, 1) := by decide +kernel
theorem dL_root_13 : decode cL_root 13 = .ok (.ireturn, 1) := by decide +kernel
theorem dL_root_14 : decode cL_root 14 = .ok (.astore 4, 2) := by decide +kernel
theorem dL_root_16 : decode cL_root 16 = .ok (.iconst 2, 1) := by decide +kernel
theorem dL_root_17 : decode cL_root 17 = .ok (.ireturn, 1) := by decide +kernel
theorem dL_root_18 : decode cL_root 18 = .ok (.iconst 0, 1) := by decide +kernel
theorem dL_root_19 : decode cL_root 19 = .ok (.ireturn, 1) := by decide +kernel
theorem dL_feed_0 : decode cL_feed 0 = .ok (.aload 4, 2) := by decide +kernel
theorem dL_feed_2 : decode cL_feed 2 = .ok (.iconst 0, 1) := by decide +kernel
theorem dL_feed_3 : decode cL_feed 3 = .ok (.aload_n 0, 1) := by decide +kernel
theorem dL_feed_4 : decode cL_feed 4 = .ok (.lload_n 1, 1) := by decide +kernel
theorem dL_feed_5 : decode cL_feed 5 = .ok (.iload_n 3, 1) := by decide +kernel
theorem dL_feed_6 : decode cL_feed 6 = .ok (.invokevirtual 68, 3) := by decide +kernel
theorem dL_feed_9 : decode cL_feed 9 = .ok (.i2l, 1) := by decide +kernel
theorem dL_feed_10 : decode cL_feed 10 = .ok (.lastore, 1) := by decide +kernel
theorem dL_feed_11 : decode cL_feed 11 = .ok (.goto 7, 3) := by decide +kernel
theorem dL_feed_14 : decode cL_feed 14 = .ok (.astore 5, 2) := by decide +kernel
theorem dL_feed_16 : decode cL_feed 16 = .ok (.iconst 1, 1) := by decide +kernel
theorem dL_feed_17 : decode cL_feed 17 = .ok (.ireturn, 1) := by decide +kernel
theorem dL_feed_18 : decode cL_feed 18 = .ok (.iconst 0, 1) := by decide +kernel
theorem dL_feed_19 : decode cL_feed 19 = .ok (.ireturn, 1) := by decide +kernel
theorem dL_read_0 : decode cL_read 0 = .ok (.aload 4, 2) := by decide +kernel
theorem dL_read_2 : decode cL_read 2 = .ok (.iconst 0, 1) := by decide +kernel
theorem dL_read_3 : decode cL_read 3 = .ok (.aload_n 0, 1) := by decide +kernel
theorem dL_read_4 : decode cL_read 4 = .ok (.iload_n 1, 1) := by decide +kernel
theorem dL_read_5 : decode cL_read 5 = .ok (.iload_n 2, 1) := by decide +kernel
theorem dL_read_6 : decode cL_read 6 = .ok (.iload_n 3, 1) := by decide +kernel
theorem dL_read_7 : decode cL_read 7 = .ok (.invokevirtual 72, 3) := by decide +kernel
theorem dL_read_10 : decode cL_read 10 = .ok (.i2l, 1) := by decide +kernel
theorem dL_read_11 : decode cL_read 11 = .ok (.lastore, 1) := by decide +kernel
theorem dL_read_12 : decode cL_read 12 = .ok (.goto 11, 3) := by decide +kernel
theorem dL_read_15 : decode cL_read 15 = .ok (.astore 5, 2) := by decide +kernel
theorem dL_read_17 : decode cL_read 17 = .ok (.iconst 1, 1) := by decide +kernel
theorem dL_read_18 : decode cL_read 18 = .ok (.ireturn, 1) := by decide +kernel
theorem dL_read_19 : decode cL_read 19 = .ok (.astore 5, 2) := by decide +kernel
theorem dL_read_21 : decode cL_read 21 = .ok (.iconst 2, 1) := by decide +kernel
theorem dL_read_22 : decode cL_read 22 = .ok (.ireturn, 1) := by decide +kernel
theorem dL_read_23 : decode cL_read 23 = .ok (.iconst 0, 1) := by decide +kernel
theorem dL_read_24 : decode cL_read 24 = .ok (.ireturn, 1) := by decide +kernel
theorem dL_write_0 : decode cL_write 0 = .ok (.aload 5, 2) := by decide +kernel
theorem dL_write_2 : decode cL_write 2 = .ok (.iconst 0, 1) := by decide +kernel
theorem dL_write_3 : decode cL_write 3 = .ok (.aload_n 0, 1) := by decide +kernel
theorem dL_write_4 : decode cL_write 4 = .ok (.iload_n 1, 1) := by decide +kernel
theorem dL_write_5 : decode cL_write 5 = .ok (.iload_n 2, 1) := by decide +kernel
theorem dL_write_6 : decode cL_write 6 = .ok (.iload_n 3, 1) := by decide +kernel
theorem dL_write_7 : decode cL_write 7 = .ok (.iload 4, 2) := by decide +kernel
theorem dL_write_9 : decode cL_write 9 = .ok (.invokevirtual 76, 3) := by decide +kernel
theorem dL_write_12 : decode cL_write 12 = .ok (.i2l, 1) := by decide +kernel
theorem dL_write_13 : decode cL_write 13 = .ok (.lastore, 1) := by decide +kernel
theorem dL_write_14 : decode cL_write 14 = .ok (.goto 11, 3) := by decide +kernel
theorem dL_write_17 : decode cL_write 17 = .ok (.astore 6, 2) := by decide +kernel
theorem dL_write_19 : decode cL_write 19 = .ok (.iconst 1, 1) := by decide +kernel
theorem dL_write_20 : decode cL_write 20 = .ok (.ireturn, 1) := by decide +kernel
theorem dL_write_21 : decode cL_write 21 = .ok (.astore 6, 2) := by decide +kernel
theorem dL_write_23 : decode cL_write 23 = .ok (.iconst 2, 1) := by decide +kernel
theorem dL_write_24 : decode cL_write 24 = .ok (.ireturn, 1) := by decide +kernel
theorem dL_write_25 : decode cL_write 25 = .ok (.iconst 0, 1) := by decide +kernel
theorem dL_write_26 : decode cL_write 26 = .ok (.ireturn, 1) := by decide +kernel
