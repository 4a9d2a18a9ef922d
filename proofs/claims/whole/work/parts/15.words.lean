theorem tw_116 : Cond.fieldLink RX7 20 RX7 "sizes" "[I" ∈ gT := gT_mem 116 (by decide +kernel) (by decide +kernel)
theorem tw_362 : Cond.fieldLink RX9 363 RX9 "latestFound" "I" ∈ gT := gT_mem 362 (by decide +kernel) (by decide +kernel)
theorem tw_361 : Cond.fieldLink RX9 81 RX9 "found" "[I" ∈ gT := gT_mem 361 (by decide +kernel) (by decide +kernel)
theorem tw_419 : Cond.methodLink RX7 30 yX7_knows ∈ gT := gT_mem 419 (by decide +kernel) (by decide +kernel)
theorem tw_113 : Cond.fieldLink RX7 9 RX7 "room" "I" ∈ gT := gT_mem 113 (by decide +kernel) (by decide +kernel)
theorem tw_115 : Cond.fieldLink RX7 17 RX7 "places" "[[I" ∈ gT := gT_mem 115 (by decide +kernel) (by decide +kernel)
theorem tw_110 : Cond.methodLink RX7 24 yJ7_fill_53178 ∈ gT := gT_mem 110 (by decide +kernel) (by decide +kernel)
theorem tw_407 : Cond.methodLink RX9 118 yX7_knows ∈ gT := gT_mem 407 (by decide +kernel) (by decide +kernel)
theorem tw_114 : Cond.fieldLink RX9 377 RX7 "room" "I" ∈ gT := gT_mem 114 (by decide +kernel) (by decide +kernel)
theorem tw_415 : Cond.methodLink RX9 313 yX7_make ∈ gT := gT_mem 415 (by decide +kernel) (by decide +kernel)
theorem tw_411 : Cond.methodLink RX9 122 yX9_answerFinding ∈ gT := gT_mem 411 (by decide +kernel) (by decide +kernel)
theorem tw_350 : Cond.fieldLink RX9 14 RX9 "rows" "LRiverBureau$Shelf;" ∈ gT := gT_mem 350 (by decide +kernel) (by decide +kernel)
theorem tw_403 : Cond.methodLink RX9 90 yX9_makeIn ∈ gT := gT_mem 403 (by decide +kernel) (by decide +kernel)
theorem tw_432 : Cond.methodLink RX9 126 yX7_isThere ∈ gT := gT_mem 432 (by decide +kernel) (by decide +kernel)
theorem tw_428 : Cond.methodLink RX9 110 yX9_shelfRefusal ∈ gT := gT_mem 428 (by decide +kernel) (by decide +kernel)
theorem tw_436 : Cond.methodLink RX9 129 yX7_hasStretch ∈ gT := gT_mem 436 (by decide +kernel) (by decide +kernel)
theorem tw_444 : Cond.methodLink RX7 34 yX7_hasStretch ∈ gT := gT_mem 444 (by decide +kernel) (by decide +kernel)
theorem tw_424 : Cond.methodLink RX9 94 yX9_placeRefusal ∈ gT := gT_mem 424 (by decide +kernel) (by decide +kernel)
theorem tw_440 : Cond.methodLink RX9 98 yX7_valueAt ∈ gT := gT_mem 440 (by decide +kernel) (by decide +kernel)
theorem tw_363 : Cond.fieldLink RX9 102 RX9 "told" "I" ∈ gT := gT_mem 363 (by decide +kernel) (by decide +kernel)
theorem tw_445 : Cond.methodLink RX9 106 yX7_setValue ∈ gT := gT_mem 445 (by decide +kernel) (by decide +kernel)
theorem tw_457 : Cond.methodLink RX9 114 yX7_drop ∈ gT := gT_mem 457 (by decide +kernel) (by decide +kernel)
theorem tw_469 : Cond.methodLink RX7 38 arraycopyName ∈ gT := gT_mem 469 (by decide +kernel) (by decide +kernel)
theorem tw_465 : Cond.methodLink RX9 133 yX7_move ∈ gT := gT_mem 465 (by decide +kernel) (by decide +kernel)
theorem tw_484 : Cond.methodLink RX7 44 yX7_sizeOf ∈ gT := gT_mem 484 (by decide +kernel) (by decide +kernel)
theorem tw_476 : Cond.methodLink RX9 137 yX7_sizeOf ∈ gT := gT_mem 476 (by decide +kernel) (by decide +kernel)
theorem tw_480 : Cond.methodLink RX9 140 yX7_sumOf ∈ gT := gT_mem 480 (by decide +kernel) (by decide +kernel)
theorem tw_351 : Cond.fieldLink RX9 18 RX9 "texts" "LRiverBureau$Shelf;" ∈ gT := gT_mem 351 (by decide +kernel) (by decide +kernel)
theorem tw_505 : Cond.methodLink RX7 48 Lib.Math.max.name ∈ gT := gT_mem 505 (by decide +kernel) (by decide +kernel)
theorem tw_508 : Cond.methodLink RX7 54 Lib.Math.min.name ∈ gT := gT_mem 508 (by decide +kernel) (by decide +kernel)
theorem tw_152 : Cond.fieldLink RX0 30 RX0 "served" "[I" ∈ gT := gT_mem 152 (by decide +kernel) (by decide +kernel)
theorem tw_515 : Cond.methodLink RX0 40 yJ7_fill_53178 ∈ gT := gT_mem 515 (by decide +kernel) (by decide +kernel)
theorem tw_153 : Cond.fieldLink RX0 33 RX0 "arms" "I" ∈ gT := gT_mem 153 (by decide +kernel) (by decide +kernel)
theorem tw_159 : Cond.fieldLink RX0 37 RX0 "river" "I" ∈ gT := gT_mem 159 (by decide +kernel) (by decide +kernel)
theorem tw_147 : Cond.fieldLink RX0 27 RX0 "waits" "[I" ∈ gT := gT_mem 147 (by decide +kernel) (by decide +kernel)
theorem tw_516 : Cond.methodLink RX0 46 yX0_forgetServed ∈ gT := gT_mem 516 (by decide +kernel) (by decide +kernel)
theorem tw_190 : Cond.fieldLink RX6 29 RX6 "place" "I" ∈ gT := gT_mem 190 (by decide +kernel) (by decide +kernel)
theorem tw_189 : Cond.fieldLink RX6 25 RX6 "size" "I" ∈ gT := gT_mem 189 (by decide +kernel) (by decide +kernel)
theorem tw_188 : Cond.fieldLink RX6 9 RX6 "signs" "[I" ∈ gT := gT_mem 188 (by decide +kernel) (by decide +kernel)
theorem tw_528 : Cond.methodLink RX6 55 yX6_nextSign ∈ gT := gT_mem 528 (by decide +kernel) (by decide +kernel)
theorem tw_192 : Cond.fieldLink RX6 35 RX6 "fault" "I" ∈ gT := gT_mem 192 (by decide +kernel) (by decide +kernel)
theorem tw_524 : Cond.methodLink RX6 46 yX6_skipBlanks ∈ gT := gT_mem 524 (by decide +kernel) (by decide +kernel)
theorem tw_187 : Cond.fieldLink RX6 15 RX6 "chart" "LRiverBureau$Chart;" ∈ gT := gT_mem 187 (by decide +kernel) (by decide +kernel)
theorem tw_532 : Cond.methodLink RX6 59 yX6_readFigure ∈ gT := gT_mem 532 (by decide +kernel) (by decide +kernel)
theorem tw_160 : Cond.fieldLink RX6 63 RX0 "river" "I" ∈ gT := gT_mem 160 (by decide +kernel) (by decide +kernel)
theorem tw_155 : Cond.fieldLink RX6 52 RX0 "arms" "I" ∈ gT := gT_mem 155 (by decide +kernel) (by decide +kernel)
theorem tw_191 : Cond.fieldLink RX6 32 RX6 "waitsRead" "I" ∈ gT := gT_mem 191 (by decide +kernel) (by decide +kernel)
theorem tw_150 : Cond.fieldLink RX6 92 RX0 "waits" "[I" ∈ gT := gT_mem 150 (by decide +kernel) (by decide +kernel)
theorem tw_550 : Cond.fieldLink RX0 49 "RiverBureau$Chart" "LETTERS" "[I" ∈ gT := gT_mem 550 (by decide +kernel) (by decide +kernel)
theorem tw_132 : Cond.fieldLink RX6 77 RX0 "kind" "[I" ∈ gT := gT_mem 132 (by decide +kernel) (by decide +kernel)
theorem tw_136 : Cond.fieldLink RX6 80 RX0 "width" "[I" ∈ gT := gT_mem 136 (by decide +kernel) (by decide +kernel)
theorem tw_139 : Cond.fieldLink RX6 83 RX0 "need" "[I" ∈ gT := gT_mem 139 (by decide +kernel) (by decide +kernel)
theorem tw_142 : Cond.fieldLink RX6 86 RX0 "year" "[I" ∈ gT := gT_mem 142 (by decide +kernel) (by decide +kernel)
theorem tw_145 : Cond.fieldLink RX6 89 RX0 "day" "[I" ∈ gT := gT_mem 145 (by decide +kernel) (by decide +kernel)
theorem tw_547 : Cond.methodLink RX6 69 yX0_kindOfLetter ∈ gT := gT_mem 547 (by decide +kernel) (by decide +kernel)
theorem tw_552 : Cond.methodLink RX6 73 yX6_readArm ∈ gT := gT_mem 552 (by decide +kernel) (by decide +kernel)
theorem tw_540 : Cond.methodLink RX6 66 yX6_readWait ∈ gT := gT_mem 540 (by decide +kernel) (by decide +kernel)
theorem tw_501 : Cond.methodLink RX6 19 yX7_copyOut ∈ gT := gT_mem 501 (by decide +kernel) (by decide +kernel)
theorem tw_511 : Cond.methodLink RX6 38 yX0_clear ∈ gT := gT_mem 511 (by decide +kernel) (by decide +kernel)
theorem tw_520 : Cond.methodLink RX6 43 yX6_readRiver ∈ gT := gT_mem 520 (by decide +kernel) (by decide +kernel)
theorem tw_536 : Cond.methodLink RX6 49 yX6_readItem ∈ gT := gT_mem 536 (by decide +kernel) (by decide +kernel)
theorem tw_354 : Cond.fieldLink RX9 37 RX9 "tester" "LRiverBureau$Reader;" ∈ gT := gT_mem 354 (by decide +kernel) (by decide +kernel)
theorem tw_497 : Cond.methodLink RX9 144 yX6_read ∈ gT := gT_mem 497 (by decide +kernel) (by decide +kernel)
theorem tw_131 : Cond.fieldLink RX0 9 RX0 "kind" "[I" ∈ gT := gT_mem 131 (by decide +kernel) (by decide +kernel)
theorem tw_572 : Cond.fieldLink RX0 52 "RiverBureau$Chart" "PARENTS" "[I" ∈ gT := gT_mem 572 (by decide +kernel) (by decide +kernel)
theorem tw_218 : Cond.fieldLink RX2 9 RX2 "season" "I" ∈ gT := gT_mem 218 (by decide +kernel) (by decide +kernel)
theorem tw_222 : Cond.fieldLink RX2 15 RX2 "barges" "I" ∈ gT := gT_mem 222 (by decide +kernel) (by decide +kernel)
theorem tw_154 : Cond.fieldLink RX2 18 RX0 "arms" "I" ∈ gT := gT_mem 154 (by decide +kernel) (by decide +kernel)
theorem tw_568 : Cond.methodLink RX2 23 yX0_isOf ∈ gT := gT_mem 568 (by decide +kernel) (by decide +kernel)
theorem tw_220 : Cond.fieldLink RX2 27 RX2 "open" "I" ∈ gT := gT_mem 220 (by decide +kernel) (by decide +kernel)
theorem tw_224 : Cond.fieldLink RX2 30 RX2 "dead" "I" ∈ gT := gT_mem 224 (by decide +kernel) (by decide +kernel)
theorem tw_227 : Cond.fieldLink RX2 33 RX2 "salts" "I" ∈ gT := gT_mem 227 (by decide +kernel) (by decide +kernel)
theorem tw_228 : Cond.fieldLink RX2 36 RX2 "silts" "I" ∈ gT := gT_mem 228 (by decide +kernel) (by decide +kernel)
theorem tw_229 : Cond.fieldLink RX2 39 RX2 "harvests" "J" ∈ gT := gT_mem 229 (by decide +kernel) (by decide +kernel)
theorem tw_246 : Cond.fieldLink RX8 12 RX8 "present" "LRiverBureau$Flow;" ∈ gT := gT_mem 246 (by decide +kernel) (by decide +kernel)
theorem tw_564 : Cond.methodLink RX8 22 yX2_begin ∈ gT := gT_mem 564 (by decide +kernel) (by decide +kernel)
theorem tw_249 : Cond.fieldLink RX8 26 RX8 "deeds" "I" ∈ gT := gT_mem 249 (by decide +kernel) (by decide +kernel)
theorem tw_353 : Cond.fieldLink RX9 33 RX9 "reader" "LRiverBureau$Reader;" ∈ gT := gT_mem 353 (by decide +kernel) (by decide +kernel)
theorem tw_355 : Cond.fieldLink RX9 43 RX9 "story" "LRiverBureau$Story;" ∈ gT := gT_mem 355 (by decide +kernel) (by decide +kernel)
theorem tw_352 : Cond.fieldLink RX9 24 RX9 "chart" "LRiverBureau$Chart;" ∈ gT := gT_mem 352 (by decide +kernel) (by decide +kernel)
theorem tw_560 : Cond.methodLink RX9 147 yX8_begin ∈ gT := gT_mem 560 (by decide +kernel) (by decide +kernel)
theorem tw_158 : Cond.fieldLink RX9 154 RX0 "arms" "I" ∈ gT := gT_mem 158 (by decide +kernel) (by decide +kernel)
theorem tw_356 : Cond.fieldLink RX9 49 RX9 "kept" "[LRiverBureau$Kept;" ∈ gT := gT_mem 356 (by decide +kernel) (by decide +kernel)
theorem tw_342 : Cond.fieldLink RX9 150 RX3 "there" "Z" ∈ gT := gT_mem 342 (by decide +kernel) (by decide +kernel)
theorem tw_598 : Cond.constantLong RX2 43 (255) ∈ gT := gT_mem 598 (by decide +kernel) (by decide +kernel)
theorem tw_143 : Cond.fieldLink RX2 49 RX0 "year" "[I" ∈ gT := gT_mem 143 (by decide +kernel) (by decide +kernel)
theorem tw_146 : Cond.fieldLink RX2 53 RX0 "day" "[I" ∈ gT := gT_mem 146 (by decide +kernel) (by decide +kernel)
theorem tw_149 : Cond.fieldLink RX2 59 RX0 "waits" "[I" ∈ gT := gT_mem 149 (by decide +kernel) (by decide +kernel)
theorem tw_247 : Cond.fieldLink RX9 183 RX8 "present" "LRiverBureau$Flow;" ∈ gT := gT_mem 247 (by decide +kernel) (by decide +kernel)
theorem tw_134 : Cond.fieldLink RX9 380 RX0 "kind" "[I" ∈ gT := gT_mem 134 (by decide +kernel) (by decide +kernel)
theorem tw_137 : Cond.fieldLink RX9 383 RX0 "width" "[I" ∈ gT := gT_mem 137 (by decide +kernel) (by decide +kernel)
theorem tw_140 : Cond.fieldLink RX9 170 RX0 "need" "[I" ∈ gT := gT_mem 140 (by decide +kernel) (by decide +kernel)
theorem tw_221 : Cond.fieldLink RX9 197 RX2 "open" "I" ∈ gT := gT_mem 221 (by decide +kernel) (by decide +kernel)
theorem tw_586 : Cond.methodLink RX9 386 yX2_saltOf ∈ gT := gT_mem 586 (by decide +kernel) (by decide +kernel)
theorem tw_590 : Cond.methodLink RX9 389 yX2_siltOf ∈ gT := gT_mem 590 (by decide +kernel) (by decide +kernel)
theorem tw_594 : Cond.methodLink RX9 392 yX2_harvestsOf ∈ gT := gT_mem 594 (by decide +kernel) (by decide +kernel)
theorem tw_599 : Cond.methodLink RX9 186 yX2_mayBeStamped ∈ gT := gT_mem 599 (by decide +kernel) (by decide +kernel)
theorem tw_578 : Cond.methodLink RX9 157 yX0_hasArm ∈ gT := gT_mem 578 (by decide +kernel) (by decide +kernel)
theorem tw_582 : Cond.methodLink RX9 160 yX9_armTells ∈ gT := gT_mem 582 (by decide +kernel) (by decide +kernel)
theorem tw_624 : Cond.constant RJ6 265 (1431655765) ∈ gT := gT_mem 624 (by decide +kernel) (by decide +kernel)
theorem tw_625 : Cond.constant RJ6 266 (858993459) ∈ gT := gT_mem 625 (by decide +kernel) (by decide +kernel)
theorem tw_626 : Cond.constant RJ6 267 (252645135) ∈ gT := gT_mem 626 (by decide +kernel) (by decide +kernel)
theorem tw_135 : Cond.fieldLink RX0 15 RX0 "width" "[I" ∈ gT := gT_mem 135 (by decide +kernel) (by decide +kernel)
theorem tw_621 : Cond.methodLink RX0 59 yJ6_bitCount_0f7a4 ∈ gT := gT_mem 621 (by decide +kernel) (by decide +kernel)
theorem tw_133 : Cond.fieldLink RX2 74 RX0 "kind" "[I" ∈ gT := gT_mem 133 (by decide +kernel) (by decide +kernel)
theorem tw_631 : Cond.methodLink RX2 77 yX0_hasArm ∈ gT := gT_mem 631 (by decide +kernel) (by decide +kernel)
theorem tw_613 : Cond.methodLink RX9 395 yX9_stepsOfTwo ∈ gT := gT_mem 613 (by decide +kernel) (by decide +kernel)
theorem tw_223 : Cond.fieldLink RX9 209 RX2 "barges" "I" ∈ gT := gT_mem 223 (by decide +kernel) (by decide +kernel)
theorem tw_616 : Cond.methodLink RX9 230 yX0_waterOf ∈ gT := gT_mem 616 (by decide +kernel) (by decide +kernel)
theorem tw_627 : Cond.methodLink RX9 398 yX2_followerOf ∈ gT := gT_mem 627 (by decide +kernel) (by decide +kernel)
theorem tw_608 : Cond.methodLink RX9 163 yX0_isOf ∈ gT := gT_mem 608 (by decide +kernel) (by decide +kernel)
theorem tw_609 : Cond.methodLink RX9 167 yX9_markOf ∈ gT := gT_mem 609 (by decide +kernel) (by decide +kernel)
theorem tw_636 : Cond.methodLink RX9 173 yX0_forgetServed ∈ gT := gT_mem 636 (by decide +kernel) (by decide +kernel)
theorem tw_151 : Cond.fieldLink RX9 176 RX0 "waits" "[I" ∈ gT := gT_mem 151 (by decide +kernel) (by decide +kernel)
theorem tw_641 : Cond.methodLink RX9 179 yX9_withBit ∈ gT := gT_mem 641 (by decide +kernel) (by decide +kernel)
theorem tw_660 : Cond.methodLink RX8 30 yX8_isFull ∈ gT := gT_mem 660 (by decide +kernel) (by decide +kernel)
theorem tw_248 : Cond.fieldLink RX8 18 RX8 "ahead" "[LRiverBureau$Flow;" ∈ gT := gT_mem 248 (by decide +kernel) (by decide +kernel)
theorem tw_661 : Cond.methodLink RX8 34 yX2_copyFrom ∈ gT := gT_mem 661 (by decide +kernel) (by decide +kernel)
theorem tw_669 : Cond.methodLink RX2 66 yX2_followerOf ∈ gT := gT_mem 669 (by decide +kernel) (by decide +kernel)
theorem tw_656 : Cond.methodLink RX9 215 yX8_noteDeed ∈ gT := gT_mem 656 (by decide +kernel) (by decide +kernel)
theorem tw_665 : Cond.methodLink RX9 401 yX2_stampArm ∈ gT := gT_mem 665 (by decide +kernel) (by decide +kernel)
theorem tw_648 : Cond.methodLink RX9 190 yX8_isFull ∈ gT := gT_mem 648 (by decide +kernel) (by decide +kernel)
theorem tw_652 : Cond.methodLink RX9 194 yX9_doStamp ∈ gT := gT_mem 652 (by decide +kernel) (by decide +kernel)
theorem tw_691 : Cond.methodLink RX0 68 yX0_waterOf ∈ gT := gT_mem 691 (by decide +kernel) (by decide +kernel)
theorem tw_138 : Cond.fieldLink RX0 18 RX0 "need" "[I" ∈ gT := gT_mem 138 (by decide +kernel) (by decide +kernel)
theorem tw_687 : Cond.methodLink RX2 85 yX0_servedOf ∈ gT := gT_mem 687 (by decide +kernel) (by decide +kernel)
theorem tw_692 : Cond.methodLink RX2 88 yX2_saltOf ∈ gT := gT_mem 692 (by decide +kernel) (by decide +kernel)
theorem tw_698 : Cond.methodLink RX2 108 Lib.Math.min.name ∈ gT := gT_mem 698 (by decide +kernel) (by decide +kernel)
theorem tw_697 : Cond.methodLink RX2 102 Lib.Math.max.name ∈ gT := gT_mem 697 (by decide +kernel) (by decide +kernel)
theorem tw_703 : Cond.methodLink RX2 111 yX2_siltOf ∈ gT := gT_mem 703 (by decide +kernel) (by decide +kernel)
theorem tw_704 : Cond.methodLink RX2 114 yX2_dropBarge ∈ gT := gT_mem 704 (by decide +kernel) (by decide +kernel)
theorem tw_683 : Cond.methodLink RX2 91 yX2_harvestable ∈ gT := gT_mem 683 (by decide +kernel) (by decide +kernel)
theorem tw_693 : Cond.methodLink RX2 95 yX2_turnSalt ∈ gT := gT_mem 693 (by decide +kernel) (by decide +kernel)
theorem tw_699 : Cond.methodLink RX2 99 yX2_turnSilt ∈ gT := gT_mem 699 (by decide +kernel) (by decide +kernel)
theorem tw_679 : Cond.methodLink RX9 260 yX2_goBy ∈ gT := gT_mem 679 (by decide +kernel) (by decide +kernel)
theorem tw_675 : Cond.methodLink RX9 200 yX9_doSeason ∈ gT := gT_mem 675 (by decide +kernel) (by decide +kernel)
theorem tw_708 : Cond.methodLink RX9 204 yJ6_bitCount_0f7a4 ∈ gT := gT_mem 708 (by decide +kernel) (by decide +kernel)
theorem tw_713 : Cond.methodLink RX9 212 yX9_hasBit ∈ gT := gT_mem 713 (by decide +kernel) (by decide +kernel)
theorem tw_714 : Cond.methodLink RX9 218 yX2_dropBarge ∈ gT := gT_mem 714 (by decide +kernel) (by decide +kernel)
theorem tw_250 : Cond.fieldLink RX9 221 RX8 "deeds" "I" ∈ gT := gT_mem 250 (by decide +kernel) (by decide +kernel)
theorem tw_719 : Cond.methodLink RX9 224 yX8_goBackTo ∈ gT := gT_mem 719 (by decide +kernel) (by decide +kernel)
theorem tw_219 : Cond.fieldLink RX9 227 RX2 "season" "I" ∈ gT := gT_mem 219 (by decide +kernel) (by decide +kernel)
theorem tw_339 : Cond.fieldLink RX9 233 RX3 "story" "LRiverBureau$Story;" ∈ gT := gT_mem 339 (by decide +kernel) (by decide +kernel)
theorem tw_735 : Cond.methodLink RX9 234 yX8_copyFrom ∈ gT := gT_mem 735 (by decide +kernel) (by decide +kernel)
theorem tw_341 : Cond.fieldLink RX9 238 RX3 "needs" "[I" ∈ gT := gT_mem 341 (by decide +kernel) (by decide +kernel)
theorem tw_739 : Cond.methodLink RX9 241 arraycopyName ∈ gT := gT_mem 739 (by decide +kernel) (by decide +kernel)
theorem tw_756 : Cond.methodLink RX9 289 yX0_sets ∈ gT := gT_mem 756 (by decide +kernel) (by decide +kernel)
theorem tw_765 : Cond.methodLink RX2 62 yX2_mayBeStamped ∈ gT := gT_mem 765 (by decide +kernel) (by decide +kernel)
theorem tw_766 : Cond.methodLink RX2 81 yX2_stampArm ∈ gT := gT_mem 766 (by decide +kernel) (by decide +kernel)
theorem tw_748 : Cond.methodLink RX9 247 yX9_deltaRowRefusal ∈ gT := gT_mem 748 (by decide +kernel) (by decide +kernel)
theorem tw_752 : Cond.methodLink RX9 250 yX9_isPlan ∈ gT := gT_mem 752 (by decide +kernel) (by decide +kernel)
theorem tw_357 : Cond.fieldLink RX9 56 RX9 "aside" "LRiverBureau$Flow;" ∈ gT := gT_mem 357 (by decide +kernel) (by decide +kernel)
theorem tw_760 : Cond.methodLink RX9 253 yX2_copyFrom ∈ gT := gT_mem 760 (by decide +kernel) (by decide +kernel)
theorem tw_761 : Cond.methodLink RX9 256 yX2_stampSet ∈ gT := gT_mem 761 (by decide +kernel) (by decide +kernel)
theorem tw_276 : Cond.fieldLink RX5 24 RX5 "chart" "LRiverBureau$Chart;" ∈ gT := gT_mem 276 (by decide +kernel) (by decide +kernel)
theorem tw_780 : Cond.methodLink RX5 67 yX0_sets ∈ gT := gT_mem 780 (by decide +kernel) (by decide +kernel)
theorem tw_781 : Cond.methodLink RX5 103 yX0_servedOf ∈ gT := gT_mem 781 (by decide +kernel) (by decide +kernel)
theorem tw_280 : Cond.fieldLink RX5 39 RX5 "target" "I" ∈ gT := gT_mem 280 (by decide +kernel) (by decide +kernel)
theorem tw_783 : Cond.methodLink RX5 106 Lib.Math.max.name ∈ gT := gT_mem 783 (by decide +kernel) (by decide +kernel)
theorem tw_782 : Cond.methodLink RX5 83 yJ6_bitCount_0f7a4 ∈ gT := gT_mem 782 (by decide +kernel) (by decide +kernel)
theorem tw_272 : Cond.fieldLink RX5 42 RX5 "bestWorth" "I" ∈ gT := gT_mem 272 (by decide +kernel) (by decide +kernel)
theorem tw_274 : Cond.fieldLink RX5 45 RX5 "bestStamps" "I" ∈ gT := gT_mem 274 (by decide +kernel) (by decide +kernel)
theorem tw_792 : Cond.methodLink RX5 93 yX5_canWin ∈ gT := gT_mem 792 (by decide +kernel) (by decide +kernel)
theorem tw_278 : Cond.fieldLink RX5 21 RX5 "plan" "[I" ∈ gT := gT_mem 278 (by decide +kernel) (by decide +kernel)
theorem tw_270 : Cond.fieldLink RX5 9 RX5 "bestPlan" "[I" ∈ gT := gT_mem 270 (by decide +kernel) (by decide +kernel)
theorem tw_796 : Cond.methodLink RX5 115 arraycopyName ∈ gT := gT_mem 796 (by decide +kernel) (by decide +kernel)
theorem tw_279 : Cond.fieldLink RX5 35 RX5 "seasons" "I" ∈ gT := gT_mem 279 (by decide +kernel) (by decide +kernel)
theorem tw_225 : Cond.fieldLink RX5 112 RX2 "dead" "I" ∈ gT := gT_mem 225 (by decide +kernel) (by decide +kernel)
theorem tw_281 : Cond.fieldLink RX5 52 RX5 "mostInSeason" "I" ∈ gT := gT_mem 281 (by decide +kernel) (by decide +kernel)
theorem tw_157 : Cond.fieldLink RX5 109 RX0 "arms" "I" ∈ gT := gT_mem 157 (by decide +kernel) (by decide +kernel)
theorem tw_775 : Cond.methodLink RX5 29 Lib.Math.min.name ∈ gT := gT_mem 775 (by decide +kernel) (by decide +kernel)
theorem tw_277 : Cond.fieldLink RX5 17 RX5 "stages" "[LRiverBureau$Flow;" ∈ gT := gT_mem 277 (by decide +kernel) (by decide +kernel)
theorem tw_784 : Cond.methodLink RX5 55 yX2_copyFrom ∈ gT := gT_mem 784 (by decide +kernel) (by decide +kernel)
theorem tw_797 : Cond.methodLink RX5 72 yX2_stampSet ∈ gT := gT_mem 797 (by decide +kernel) (by decide +kernel)
theorem tw_798 : Cond.methodLink RX5 76 yX2_harvestable ∈ gT := gT_mem 798 (by decide +kernel) (by decide +kernel)
theorem tw_799 : Cond.methodLink RX5 80 yX5_worthOf ∈ gT := gT_mem 799 (by decide +kernel) (by decide +kernel)
theorem tw_804 : Cond.methodLink RX5 89 yX5_hopeOf ∈ gT := gT_mem 804 (by decide +kernel) (by decide +kernel)
theorem tw_808 : Cond.methodLink RX5 97 yX2_goBy ∈ gT := gT_mem 808 (by decide +kernel) (by decide +kernel)
theorem tw_785 : Cond.methodLink RX5 59 yX5_search ∈ gT := gT_mem 785 (by decide +kernel) (by decide +kernel)
theorem tw_788 : Cond.methodLink RX5 63 yX5_judge ∈ gT := gT_mem 788 (by decide +kernel) (by decide +kernel)
theorem tw_776 : Cond.methodLink RX5 48 yX5_mostServed ∈ gT := gT_mem 776 (by decide +kernel) (by decide +kernel)
theorem tw_358 : Cond.fieldLink RX9 63 RX9 "planner" "LRiverBureau$Planner;" ∈ gT := gT_mem 358 (by decide +kernel) (by decide +kernel)
theorem tw_271 : Cond.fieldLink RX9 405 RX5 "bestPlan" "[I" ∈ gT := gT_mem 271 (by decide +kernel) (by decide +kernel)
theorem tw_771 : Cond.methodLink RX9 264 yX5_seek ∈ gT := gT_mem 771 (by decide +kernel) (by decide +kernel)
theorem tw_809 : Cond.methodLink RX9 268 yX9_takePlan ∈ gT := gT_mem 809 (by decide +kernel) (by decide +kernel)
theorem tw_275 : Cond.fieldLink RX9 271 RX5 "bestStamps" "I" ∈ gT := gT_mem 275 (by decide +kernel) (by decide +kernel)
theorem tw_273 : Cond.fieldLink RX9 274 RX5 "bestWorth" "I" ∈ gT := gT_mem 273 (by decide +kernel) (by decide +kernel)
theorem tw_226 : Cond.fieldLink RX9 277 RX2 "dead" "I" ∈ gT := gT_mem 226 (by decide +kernel) (by decide +kernel)
theorem tw_821 : Cond.methodLink RX9 280 yX9_firstOf ∈ gT := gT_mem 821 (by decide +kernel) (by decide +kernel)
theorem tw_832 : Cond.methodLink RX2 118 yX2_goBy ∈ gT := gT_mem 832 (by decide +kernel) (by decide +kernel)
theorem tw_833 : Cond.methodLink RX2 121 yJ6_bitCount_0f7a4 ∈ gT := gT_mem 833 (by decide +kernel) (by decide +kernel)
theorem tw_828 : Cond.methodLink RX9 283 yX2_harvestsOfSeasons ∈ gT := gT_mem 828 (by decide +kernel) (by decide +kernel)
theorem tw_838 : Cond.methodLink RX9 286 yX9_armRowRefusal ∈ gT := gT_mem 838 (by decide +kernel) (by decide +kernel)
theorem tw_842 : Cond.methodLink RX9 292 yX9_stampedToFit ∈ gT := gT_mem 842 (by decide +kernel) (by decide +kernel)
theorem tw_308 : Cond.fieldLink RX1 15 RX1 "groups" "[I" ∈ gT := gT_mem 308 (by decide +kernel) (by decide +kernel)
theorem tw_859 : Cond.methodLink RX1 25 Lib.Math.max.name ∈ gT := gT_mem 859 (by decide +kernel) (by decide +kernel)
theorem tw_858 : Cond.methodLink RX1 19 yX7_sizeOf ∈ gT := gT_mem 858 (by decide +kernel) (by decide +kernel)
theorem tw_860 : Cond.methodLink RX1 31 Lib.Math.min.name ∈ gT := gT_mem 860 (by decide +kernel) (by decide +kernel)
theorem tw_307 : Cond.fieldLink RX1 9 RX1 "sums" "[J" ∈ gT := gT_mem 307 (by decide +kernel) (by decide +kernel)
theorem tw_862 : Cond.methodLink RX1 37 yX7_valueAt ∈ gT := gT_mem 862 (by decide +kernel) (by decide +kernel)
theorem tw_863 : Cond.methodLink RX1 40 yX1_mostGroupsWithin ∈ gT := gT_mem 863 (by decide +kernel) (by decide +kernel)
theorem tw_359 : Cond.fieldLink RX9 70 RX9 "debts" "LRiverBureau$Debts;" ∈ gT := gT_mem 359 (by decide +kernel) (by decide +kernel)
theorem tw_854 : Cond.methodLink RX9 295 yX1_fewestPayments ∈ gT := gT_mem 854 (by decide +kernel) (by decide +kernel)
theorem tw_321 : Cond.fieldLink RX4 19 RX4 "chart" "LRiverBureau$Chart;" ∈ gT := gT_mem 321 (by decide +kernel) (by decide +kernel)
theorem tw_148 : Cond.fieldLink RX4 23 RX0 "waits" "[I" ∈ gT := gT_mem 148 (by decide +kernel) (by decide +kernel)
theorem tw_322 : Cond.fieldLink RX4 9 RX4 "reach" "[I" ∈ gT := gT_mem 322 (by decide +kernel) (by decide +kernel)
theorem tw_880 : Cond.methodLink RX4 28 arraycopyName ∈ gT := gT_mem 880 (by decide +kernel) (by decide +kernel)
theorem tw_156 : Cond.fieldLink RX4 34 RX0 "arms" "I" ∈ gT := gT_mem 156 (by decide +kernel) (by decide +kernel)
theorem tw_872 : Cond.methodLink RX9 298 yX0_countWaits ∈ gT := gT_mem 872 (by decide +kernel) (by decide +kernel)
theorem tw_360 : Cond.fieldLink RX9 77 RX9 "offices" "LRiverBureau$Offices;" ∈ gT := gT_mem 360 (by decide +kernel) (by decide +kernel)
theorem tw_876 : Cond.methodLink RX9 301 yX4_waitingForThemselves ∈ gT := gT_mem 876 (by decide +kernel) (by decide +kernel)
theorem tw_895 : Cond.methodLink RX4 54 yX4_bitOf ∈ gT := gT_mem 895 (by decide +kernel) (by decide +kernel)
theorem tw_904 : Cond.constantLong RJ13 314 (6148914691236517205) ∈ gT := gT_mem 904 (by decide +kernel) (by decide +kernel)
theorem tw_905 : Cond.constantLong RJ13 316 (3689348814741910323) ∈ gT := gT_mem 905 (by decide +kernel) (by decide +kernel)
theorem tw_906 : Cond.constantLong RJ13 318 (1085102592571150095) ∈ gT := gT_mem 906 (by decide +kernel) (by decide +kernel)
theorem tw_901 : Cond.methodLink RX4 58 yJ13_bitCount_95d88 ∈ gT := gT_mem 901 (by decide +kernel) (by decide +kernel)
theorem tw_323 : Cond.fieldLink RX4 15 RX4 "cuts" "[J" ∈ gT := gT_mem 323 (by decide +kernel) (by decide +kernel)
theorem tw_890 : Cond.methodLink RX4 42 yX0_sets ∈ gT := gT_mem 890 (by decide +kernel) (by decide +kernel)
theorem tw_891 : Cond.methodLink RX4 46 yX4_waitsLoosened ∈ gT := gT_mem 891 (by decide +kernel) (by decide +kernel)
theorem tw_898 : Cond.methodLink RX4 50 yX4_isBetter ∈ gT := gT_mem 898 (by decide +kernel) (by decide +kernel)
theorem tw_886 : Cond.methodLink RX9 304 yX4_fewestToLoosen ∈ gT := gT_mem 886 (by decide +kernel) (by decide +kernel)
theorem tw_907 : Cond.methodLink RX9 308 yJ13_bitCount_95d88 ∈ gT := gT_mem 907 (by decide +kernel) (by decide +kernel)
theorem tw_908 : Cond.methodLink RX9 316 yX4_bitOf ∈ gT := gT_mem 908 (by decide +kernel) (by decide +kernel)
theorem tw_913 : Cond.methodLink RX9 319 Lib.Math.min.name ∈ gT := gT_mem 913 (by decide +kernel) (by decide +kernel)
theorem tw_914 : Cond.methodLink RX9 324 Lib.Math.max.name ∈ gT := gT_mem 914 (by decide +kernel) (by decide +kernel)
theorem tw_364 : Cond.fieldLink RX9 345 RX9 "chanceUpper" "J" ∈ gT := gT_mem 364 (by decide +kernel) (by decide +kernel)
theorem tw_365 : Cond.fieldLink RX9 85 RX9 "chanceLower" "J" ∈ gT := gT_mem 365 (by decide +kernel) (by decide +kernel)
theorem tw_919 : Cond.methodLink RX9 327 yX2_stampable ∈ gT := gT_mem 919 (by decide +kernel) (by decide +kernel)
theorem tw_923 : Cond.methodLink RX9 330 yX2_harvestable ∈ gT := gT_mem 923 (by decide +kernel) (by decide +kernel)
theorem tw_924 : Cond.methodLink RX9 333 yX9_tellChances ∈ gT := gT_mem 924 (by decide +kernel) (by decide +kernel)
theorem tw_932 : Cond.constantLong RX9 336 (2147483647) ∈ gT := gT_mem 932 (by decide +kernel) (by decide +kernel)
theorem tw_933 : Cond.constantLong RX9 338 (48271) ∈ gT := gT_mem 933 (by decide +kernel) (by decide +kernel)
theorem tw_934 : Cond.constantLong RX9 340 (32) ∈ gT := gT_mem 934 (by decide +kernel) (by decide +kernel)
theorem tw_935 : Cond.methodLink RX9 342 yX9_doStamps ∈ gT := gT_mem 935 (by decide +kernel) (by decide +kernel)
theorem tw_959 : Cond.methodLink RX0 55 yX0_isOf ∈ gT := gT_mem 959 (by decide +kernel) (by decide +kernel)
theorem tw_972 : Cond.methodLink RX2 45 yX2_harvestsOf ∈ gT := gT_mem 972 (by decide +kernel) (by decide +kernel)
theorem tw_161 : Cond.fieldLink RX9 348 RX0 "river" "I" ∈ gT := gT_mem 161 (by decide +kernel) (by decide +kernel)
theorem tw_955 : Cond.methodLink RX9 351 yX0_countOf ∈ gT := gT_mem 955 (by decide +kernel) (by decide +kernel)
theorem tw_960 : Cond.methodLink RX9 354 yX7_countThere ∈ gT := gT_mem 960 (by decide +kernel) (by decide +kernel)
theorem tw_964 : Cond.methodLink RX9 357 yX9_countKept ∈ gT := gT_mem 964 (by decide +kernel) (by decide +kernel)
theorem tw_968 : Cond.methodLink RX9 360 yX2_allHarvests ∈ gT := gT_mem 968 (by decide +kernel) (by decide +kernel)
theorem tw_992 : Cond.constantLong RX7 57 (31) ∈ gT := gT_mem 992 (by decide +kernel) (by decide +kernel)
theorem tw_985 : Cond.constantLong RX9 366 (17) ∈ gT := gT_mem 985 (by decide +kernel) (by decide +kernel)
theorem tw_986 : Cond.constantLong RX9 368 (31) ∈ gT := gT_mem 986 (by decide +kernel) (by decide +kernel)
theorem tw_987 : Cond.methodLink RX9 370 yX9_count ∈ gT := gT_mem 987 (by decide +kernel) (by decide +kernel)
theorem tw_988 : Cond.methodLink RX9 373 yX7_digestOnto ∈ gT := gT_mem 988 (by decide +kernel) (by decide +kernel)
theorem tw_999 : Cond.fieldLink RX10 97 RX10 "latest" "I" ∈ gT := gT_mem 999 (by decide +kernel) (by decide +kernel)
theorem tw_1142 : Cond.methodLink RX10 101 yX10_in ∈ gT := gT_mem 1142 (by decide +kernel) (by decide +kernel)
theorem tw_1000 : Cond.fieldLink RX10 7 RX10 "came" "[I" ∈ gT := gT_mem 1000 (by decide +kernel) (by decide +kernel)
theorem tw_1001 : Cond.fieldLink RX10 105 RX10 "asked" "I" ∈ gT := gT_mem 1001 (by decide +kernel) (by decide +kernel)
theorem tw_1002 : Cond.fieldLink RX10 108 RX10 "upper" "J" ∈ gT := gT_mem 1002 (by decide +kernel) (by decide +kernel)
theorem tw_1003 : Cond.fieldLink RX10 13 RX10 "lower" "J" ∈ gT := gT_mem 1003 (by decide +kernel) (by decide +kernel)
theorem tw_1161 : Cond.methodLink RX10 111 yX10_isRow ∈ gT := gT_mem 1161 (by decide +kernel) (by decide +kernel)
theorem tw_1004 : Cond.fieldLink RX10 17 RX10 "sizes" "[I" ∈ gT := gT_mem 1004 (by decide +kernel) (by decide +kernel)
theorem tw_1005 : Cond.fieldLink RX10 20 RX10 "rows" "[I" ∈ gT := gT_mem 1005 (by decide +kernel) (by decide +kernel)
theorem tw_1164 : Cond.methodLink RX10 115 yX10_meets ∈ gT := gT_mem 1164 (by decide +kernel) (by decide +kernel)
theorem tw_1172 : Cond.methodLink RX10 119 yX10_rowAt ∈ gT := gT_mem 1172 (by decide +kernel) (by decide +kernel)
theorem tw_1176 : Cond.methodLink RX10 123 yX10_tells ∈ gT := gT_mem 1176 (by decide +kernel) (by decide +kernel)
theorem tw_1006 : Cond.fieldLink RX10 23 RX10 "copied" "[I" ∈ gT := gT_mem 1006 (by decide +kernel) (by decide +kernel)
theorem tw_1200 : Cond.methodLink RX10 126 yX10_isText ∈ gT := gT_mem 1200 (by decide +kernel) (by decide +kernel)
theorem tw_1007 : Cond.fieldLink RX10 26 RX10 "textSizes" "[I" ∈ gT := gT_mem 1007 (by decide +kernel) (by decide +kernel)
theorem tw_1008 : Cond.fieldLink RX10 29 RX10 "bytes" "[B" ∈ gT := gT_mem 1008 (by decide +kernel) (by decide +kernel)
theorem tw_1017 : Cond.fieldLink RX10 129 RX10 "readAt" "I" ∈ gT := gT_mem 1017 (by decide +kernel) (by decide +kernel)
theorem tw_1215 : Cond.methodLink RX10 132 yX10_byteAt ∈ gT := gT_mem 1215 (by decide +kernel) (by decide +kernel)
theorem tw_1018 : Cond.fieldLink RX10 135 RX10 "readNumber" "I" ∈ gT := gT_mem 1018 (by decide +kernel) (by decide +kernel)
theorem tw_1227 : Cond.methodLink RX10 138 yX10_figure ∈ gT := gT_mem 1227 (by decide +kernel) (by decide +kernel)
theorem tw_1019 : Cond.fieldLink RX10 141 RX10 "readRiver" "I" ∈ gT := gT_mem 1019 (by decide +kernel) (by decide +kernel)
theorem tw_1020 : Cond.fieldLink RX10 147 RX10 "readMany" "I" ∈ gT := gT_mem 1020 (by decide +kernel) (by decide +kernel)
theorem tw_1021 : Cond.fieldLink RX10 150 RX10 "readWaitMany" "I" ∈ gT := gT_mem 1021 (by decide +kernel) (by decide +kernel)
theorem tw_1023 : Cond.fieldLink RX10 54 RX10 "readWaits" "[I" ∈ gT := gT_mem 1023 (by decide +kernel) (by decide +kernel)
theorem tw_1235 : Cond.methodLink RX10 153 yX10_has ∈ gT := gT_mem 1235 (by decide +kernel) (by decide +kernel)
theorem tw_1242 : Cond.methodLink RX10 144 yX10_kindOf ∈ gT := gT_mem 1242 (by decide +kernel) (by decide +kernel)
theorem tw_1022 : Cond.fieldLink RX10 51 RX10 "readArms" "[I" ∈ gT := gT_mem 1022 (by decide +kernel) (by decide +kernel)
theorem tw_1238 : Cond.methodLink RX10 163 yX10_readsArm ∈ gT := gT_mem 1238 (by decide +kernel) (by decide +kernel)
theorem tw_1231 : Cond.methodLink RX10 160 yX10_readsWait ∈ gT := gT_mem 1231 (by decide +kernel) (by decide +kernel)
theorem tw_1223 : Cond.methodLink RX10 157 yX10_readsRiver ∈ gT := gT_mem 1223 (by decide +kernel) (by decide +kernel)
theorem tw_1219 : Cond.methodLink RX10 166 yX10_readsItem ∈ gT := gT_mem 1219 (by decide +kernel) (by decide +kernel)
theorem tw_1211 : Cond.methodLink RX10 169 yX10_faultOf ∈ gT := gT_mem 1211 (by decide +kernel) (by decide +kernel)
theorem tw_1009 : Cond.fieldLink RX10 172 RX10 "n" "I" ∈ gT := gT_mem 1009 (by decide +kernel) (by decide +kernel)
theorem tw_1010 : Cond.fieldLink RX10 175 RX10 "river" "I" ∈ gT := gT_mem 1010 (by decide +kernel) (by decide +kernel)
theorem tw_1024 : Cond.fieldLink RX10 57 RX10 "all" "[I" ∈ gT := gT_mem 1024 (by decide +kernel) (by decide +kernel)
theorem tw_1011 : Cond.fieldLink RX10 33 RX10 "kinds" "[I" ∈ gT := gT_mem 1011 (by decide +kernel) (by decide +kernel)
theorem tw_1012 : Cond.fieldLink RX10 36 RX10 "widths" "[I" ∈ gT := gT_mem 1012 (by decide +kernel) (by decide +kernel)
theorem tw_1013 : Cond.fieldLink RX10 39 RX10 "needs" "[I" ∈ gT := gT_mem 1013 (by decide +kernel) (by decide +kernel)
theorem tw_1014 : Cond.fieldLink RX10 42 RX10 "years" "[I" ∈ gT := gT_mem 1014 (by decide +kernel) (by decide +kernel)
theorem tw_1015 : Cond.fieldLink RX10 45 RX10 "days" "[I" ∈ gT := gT_mem 1015 (by decide +kernel) (by decide +kernel)
theorem tw_1016 : Cond.fieldLink RX10 48 RX10 "waits" "[I" ∈ gT := gT_mem 1016 (by decide +kernel) (by decide +kernel)
theorem tw_1027 : Cond.fieldLink RX10 178 RX10 "deedMany" "I" ∈ gT := gT_mem 1027 (by decide +kernel) (by decide +kernel)
theorem tw_1029 : Cond.fieldLink RX10 66 RX10 "isKept" "[Z" ∈ gT := gT_mem 1029 (by decide +kernel) (by decide +kernel)
theorem tw_1269 : Cond.methodLink RX10 181 yX10_isOpen ∈ gT := gT_mem 1269 (by decide +kernel) (by decide +kernel)
theorem tw_1265 : Cond.methodLink RX10 184 yX10_isDead ∈ gT := gT_mem 1265 (by decide +kernel) (by decide +kernel)
theorem tw_1277 : Cond.methodLink RX10 190 yX10_openSet ∈ gT := gT_mem 1277 (by decide +kernel) (by decide +kernel)
theorem tw_1273 : Cond.methodLink RX10 187 yX10_isBarge ∈ gT := gT_mem 1273 (by decide +kernel) (by decide +kernel)
theorem tw_1261 : Cond.methodLink RX10 217 yX10_mayBe ∈ gT := gT_mem 1261 (by decide +kernel) (by decide +kernel)
theorem tw_1253 : Cond.methodLink RX10 220 yX10_isArm ∈ gT := gT_mem 1253 (by decide +kernel) (by decide +kernel)
theorem tw_1257 : Cond.methodLink RX10 223 yX10_armTells ∈ gT := gT_mem 1257 (by decide +kernel) (by decide +kernel)
theorem tw_1292 : Cond.methodLink RX10 196 yX10_wideOpen ∈ gT := gT_mem 1292 (by decide +kernel) (by decide +kernel)
theorem tw_1285 : Cond.methodLink RX10 205 yX10_greater ∈ gT := gT_mem 1285 (by decide +kernel) (by decide +kernel)
theorem tw_1288 : Cond.methodLink RX10 202 yX10_waterOf ∈ gT := gT_mem 1288 (by decide +kernel) (by decide +kernel)
theorem tw_1296 : Cond.methodLink RX10 193 yX10_married ∈ gT := gT_mem 1296 (by decide +kernel) (by decide +kernel)
theorem tw_1028 : Cond.fieldLink RX10 63 RX10 "log" "[I" ∈ gT := gT_mem 1028 (by decide +kernel) (by decide +kernel)
theorem tw_1312 : Cond.methodLink RX10 226 yX10_remember ∈ gT := gT_mem 1312 (by decide +kernel) (by decide +kernel)
theorem tw_1316 : Cond.methodLink RX10 229 yX10_stamps ∈ gT := gT_mem 1316 (by decide +kernel) (by decide +kernel)
theorem tw_1025 : Cond.fieldLink RX10 199 RX10 "inSet" "I" ∈ gT := gT_mem 1025 (by decide +kernel) (by decide +kernel)
theorem tw_1026 : Cond.fieldLink RX10 60 RX10 "waters" "[I" ∈ gT := gT_mem 1026 (by decide +kernel) (by decide +kernel)
theorem tw_1328 : Cond.methodLink RX10 208 yX10_lesser ∈ gT := gT_mem 1328 (by decide +kernel) (by decide +kernel)
theorem tw_1331 : Cond.methodLink RX10 211 yX10_isSilty ∈ gT := gT_mem 1331 (by decide +kernel) (by decide +kernel)
theorem tw_1335 : Cond.methodLink RX10 214 yX10_bits ∈ gT := gT_mem 1335 (by decide +kernel) (by decide +kernel)
theorem tw_1324 : Cond.methodLink RX10 233 yX10_passes ∈ gT := gT_mem 1324 (by decide +kernel) (by decide +kernel)
theorem tw_1342 : Cond.methodLink RX10 236 yX10_leaves ∈ gT := gT_mem 1342 (by decide +kernel) (by decide +kernel)
theorem tw_1030 : Cond.fieldLink RX10 70 RX10 "keptMany" "[I" ∈ gT := gT_mem 1030 (by decide +kernel) (by decide +kernel)
theorem tw_1031 : Cond.fieldLink RX10 73 RX10 "keptAll" "[I" ∈ gT := gT_mem 1031 (by decide +kernel) (by decide +kernel)
theorem tw_1032 : Cond.fieldLink RX10 76 RX10 "keptNeeds" "[I" ∈ gT := gT_mem 1032 (by decide +kernel) (by decide +kernel)
theorem tw_1033 : Cond.fieldLink RX10 79 RX10 "keptLog" "[I" ∈ gT := gT_mem 1033 (by decide +kernel) (by decide +kernel)
theorem tw_1370 : Cond.methodLink RX10 239 yX10_setMany ∈ gT := gT_mem 1370 (by decide +kernel) (by decide +kernel)
theorem tw_1374 : Cond.methodLink RX10 243 yX10_copyTo ∈ gT := gT_mem 1374 (by decide +kernel) (by decide +kernel)
theorem tw_1378 : Cond.methodLink RX10 246 yX10_stampsOf ∈ gT := gT_mem 1378 (by decide +kernel) (by decide +kernel)
theorem tw_1036 : Cond.fieldLink RX10 249 RX10 "bestHarvests" "I" ∈ gT := gT_mem 1036 (by decide +kernel) (by decide +kernel)
theorem tw_1037 : Cond.fieldLink RX10 252 RX10 "bestStamps" "I" ∈ gT := gT_mem 1037 (by decide +kernel) (by decide +kernel)
theorem tw_1035 : Cond.fieldLink RX10 85 RX10 "bestTried" "[I" ∈ gT := gT_mem 1035 (by decide +kernel) (by decide +kernel)
theorem tw_1034 : Cond.fieldLink RX10 82 RX10 "tried" "[I" ∈ gT := gT_mem 1034 (by decide +kernel) (by decide +kernel)
theorem tw_1390 : Cond.methodLink RX10 259 yX10_layPlans ∈ gT := gT_mem 1390 (by decide +kernel) (by decide +kernel)
theorem tw_1394 : Cond.methodLink RX10 255 yX10_takes ∈ gT := gT_mem 1394 (by decide +kernel) (by decide +kernel)
theorem tw_1386 : Cond.methodLink RX10 263 yX10_allPlans ∈ gT := gT_mem 1386 (by decide +kernel) (by decide +kernel)
theorem tw_1398 : Cond.methodLink RX10 266 yX10_layRow ∈ gT := gT_mem 1398 (by decide +kernel) (by decide +kernel)
theorem tw_1414 : Cond.methodLink RX10 270 yX10_passesOf ∈ gT := gT_mem 1414 (by decide +kernel) (by decide +kernel)
theorem tw_1422 : Cond.methodLink RX10 273 yX10_needArms ∈ gT := gT_mem 1422 (by decide +kernel) (by decide +kernel)
theorem tw_1426 : Cond.methodLink RX10 276 yX10_saltBy ∈ gT := gT_mem 1426 (by decide +kernel) (by decide +kernel)
theorem tw_1438 : Cond.methodLink RX10 279 yX10_owedBy ∈ gT := gT_mem 1438 (by decide +kernel) (by decide +kernel)
theorem tw_1442 : Cond.methodLink RX10 283 yX10_parts ∈ gT := gT_mem 1442 (by decide +kernel) (by decide +kernel)
theorem tw_1450 : Cond.methodLink RX10 286 yX10_waitMany ∈ gT := gT_mem 1450 (by decide +kernel) (by decide +kernel)
theorem tw_1040 : Cond.fieldLink RX10 94 RX10 "order" "[I" ∈ gT := gT_mem 1040 (by decide +kernel) (by decide +kernel)
theorem tw_1038 : Cond.fieldLink RX10 88 RX10 "loose" "[I" ∈ gT := gT_mem 1038 (by decide +kernel) (by decide +kernel)
theorem tw_1039 : Cond.fieldLink RX10 91 RX10 "bestLoose" "[I" ∈ gT := gT_mem 1039 (by decide +kernel) (by decide +kernel)
theorem tw_1458 : Cond.methodLink RX10 298 yX10_layOrders ∈ gT := gT_mem 1458 (by decide +kernel) (by decide +kernel)
theorem tw_1462 : Cond.methodLink RX10 289 yX10_layBack ∈ gT := gT_mem 1462 (by decide +kernel) (by decide +kernel)
theorem tw_1041 : Cond.fieldLink RX10 292 RX10 "leastLoose" "I" ∈ gT := gT_mem 1041 (by decide +kernel) (by decide +kernel)
theorem tw_1466 : Cond.methodLink RX10 295 yX10_isAhead ∈ gT := gT_mem 1466 (by decide +kernel) (by decide +kernel)
theorem tw_1478 : Cond.methodLink RX10 301 yX10_part ∈ gT := gT_mem 1478 (by decide +kernel) (by decide +kernel)
theorem tw_1486 : Cond.constant RX10 304 (2147483646) ∈ gT := gT_mem 1486 (by decide +kernel) (by decide +kernel)
theorem tw_1487 : Cond.constantLong RX10 305 (48271) ∈ gT := gT_mem 1487 (by decide +kernel) (by decide +kernel)
theorem tw_1488 : Cond.constantLong RX10 307 (2147483647) ∈ gT := gT_mem 1488 (by decide +kernel) (by decide +kernel)
theorem tw_1489 : Cond.constantLong RX10 309 (32) ∈ gT := gT_mem 1489 (by decide +kernel) (by decide +kernel)
theorem tw_1490 : Cond.methodLink RX10 311 yX10_stamp ∈ gT := gT_mem 1490 (by decide +kernel) (by decide +kernel)
theorem tw_1495 : Cond.methodLink RX10 314 yX10_counted ∈ gT := gT_mem 1495 (by decide +kernel) (by decide +kernel)
theorem tw_1508 : Cond.constantLong RX10 317 (31) ∈ gT := gT_mem 1508 (by decide +kernel) (by decide +kernel)
theorem tw_1042 : Cond.fieldLink RX10 319 RX10 "hash" "J" ∈ gT := gT_mem 1042 (by decide +kernel) (by decide +kernel)
theorem tw_1504 : Cond.methodLink RX10 322 yX10_mix ∈ gT := gT_mem 1504 (by decide +kernel) (by decide +kernel)
theorem tw_1513 : Cond.constantLong RX10 326 (-1) ∈ gT := gT_mem 1513 (by decide +kernel) (by decide +kernel)
theorem tw_1503 : Cond.constantLong RX10 328 (17) ∈ gT := gT_mem 1503 (by decide +kernel) (by decide +kernel)
theorem tw_1509 : Cond.methodLink RX10 330 yX10_mixDelta ∈ gT := gT_mem 1509 (by decide +kernel) (by decide +kernel)
theorem tw_399 : Cond.methodLink RL 13 yX9_row ∈ gT := gT_mem 399 (by decide +kernel) (by decide +kernel)
theorem tw_1157 : Cond.methodLink RL 17 yX10_row ∈ gT := gT_mem 1157 (by decide +kernel) (by decide +kernel)
theorem tw_420 : Cond.methodLink RL 18 yX9_lay ∈ gT := gT_mem 420 (by decide +kernel) (by decide +kernel)
theorem tw_1168 : Cond.methodLink RL 22 yX10_lay ∈ gT := gT_mem 1168 (by decide +kernel) (by decide +kernel)
theorem tw_449 : Cond.methodLink RL 23 yX9_at ∈ gT := gT_mem 449 (by decide +kernel) (by decide +kernel)
theorem tw_1180 : Cond.methodLink RL 26 yX10_at ∈ gT := gT_mem 1180 (by decide +kernel) (by decide +kernel)
theorem tw_453 : Cond.methodLink RL 27 yX9_tear ∈ gT := gT_mem 453 (by decide +kernel) (by decide +kernel)
theorem tw_1184 : Cond.methodLink RL 31 yX10_tear ∈ gT := gT_mem 1184 (by decide +kernel) (by decide +kernel)
theorem tw_461 : Cond.methodLink RL 32 yX9_copy ∈ gT := gT_mem 461 (by decide +kernel) (by decide +kernel)
theorem tw_1188 : Cond.methodLink RL 36 yX10_copy ∈ gT := gT_mem 1188 (by decide +kernel) (by decide +kernel)
theorem tw_472 : Cond.methodLink RL 37 yX9_mean ∈ gT := gT_mem 472 (by decide +kernel) (by decide +kernel)
theorem tw_1192 : Cond.methodLink RL 40 yX10_mean ∈ gT := gT_mem 1192 (by decide +kernel) (by decide +kernel)
theorem tw_485 : Cond.methodLink RL 41 yX9_text ∈ gT := gT_mem 485 (by decide +kernel) (by decide +kernel)
theorem tw_1196 : Cond.methodLink RL 44 yX10_text ∈ gT := gT_mem 1196 (by decide +kernel) (by decide +kernel)
theorem tw_489 : Cond.methodLink RL 45 yX9_put ∈ gT := gT_mem 489 (by decide +kernel) (by decide +kernel)
theorem tw_1203 : Cond.methodLink RL 48 yX10_put ∈ gT := gT_mem 1203 (by decide +kernel) (by decide +kernel)
theorem tw_493 : Cond.methodLink RL 49 yX9_fault ∈ gT := gT_mem 493 (by decide +kernel) (by decide +kernel)
theorem tw_1207 : Cond.methodLink RL 52 yX10_fault ∈ gT := gT_mem 1207 (by decide +kernel) (by decide +kernel)
theorem tw_556 : Cond.methodLink RL 53 yX9_delta ∈ gT := gT_mem 556 (by decide +kernel) (by decide +kernel)
theorem tw_1245 : Cond.methodLink RL 56 yX10_delta ∈ gT := gT_mem 1245 (by decide +kernel) (by decide +kernel)
theorem tw_574 : Cond.methodLink RL 57 yX9_arm ∈ gT := gT_mem 574 (by decide +kernel) (by decide +kernel)
theorem tw_1249 : Cond.methodLink RL 60 yX10_arm ∈ gT := gT_mem 1249 (by decide +kernel) (by decide +kernel)
theorem tw_604 : Cond.methodLink RL 61 yX9_mark ∈ gT := gT_mem 604 (by decide +kernel) (by decide +kernel)
theorem tw_1281 : Cond.methodLink RL 64 yX10_mark ∈ gT := gT_mem 1281 (by decide +kernel) (by decide +kernel)
theorem tw_632 : Cond.methodLink RL 65 yX9_need ∈ gT := gT_mem 632 (by decide +kernel) (by decide +kernel)
theorem tw_1300 : Cond.methodLink RL 68 yX10_need ∈ gT := gT_mem 1300 (by decide +kernel) (by decide +kernel)
theorem tw_637 : Cond.methodLink RL 69 yX9_awaits ∈ gT := gT_mem 637 (by decide +kernel) (by decide +kernel)
theorem tw_1304 : Cond.methodLink RL 72 yX10_awaits ∈ gT := gT_mem 1304 (by decide +kernel) (by decide +kernel)
theorem tw_644 : Cond.methodLink RL 73 yX9_stamp ∈ gT := gT_mem 644 (by decide +kernel) (by decide +kernel)
theorem tw_1308 : Cond.methodLink RL 76 yX10_stamp ∈ gT := gT_mem 1308 (by decide +kernel) (by decide +kernel)
theorem tw_671 : Cond.methodLink RL 77 yX9_season ∈ gT := gT_mem 671 (by decide +kernel) (by decide +kernel)
theorem tw_1320 : Cond.methodLink RL 81 yX10_season ∈ gT := gT_mem 1320 (by decide +kernel) (by decide +kernel)
theorem tw_709 : Cond.methodLink RL 82 yX9_leave ∈ gT := gT_mem 709 (by decide +kernel) (by decide +kernel)
theorem tw_1338 : Cond.methodLink RL 85 yX10_leave ∈ gT := gT_mem 1338 (by decide +kernel) (by decide +kernel)
theorem tw_715 : Cond.methodLink RL 86 yX9_undo ∈ gT := gT_mem 715 (by decide +kernel) (by decide +kernel)
theorem tw_1346 : Cond.methodLink RL 89 yX10_undo ∈ gT := gT_mem 1346 (by decide +kernel) (by decide +kernel)
theorem tw_723 : Cond.methodLink RL 90 yX9_now ∈ gT := gT_mem 723 (by decide +kernel) (by decide +kernel)
theorem tw_1350 : Cond.methodLink RL 93 yX10_now ∈ gT := gT_mem 1350 (by decide +kernel) (by decide +kernel)
theorem tw_727 : Cond.methodLink RL 94 yX9_water ∈ gT := gT_mem 727 (by decide +kernel) (by decide +kernel)
theorem tw_1354 : Cond.methodLink RL 97 yX10_water ∈ gT := gT_mem 1354 (by decide +kernel) (by decide +kernel)
theorem tw_731 : Cond.methodLink RL 98 yX9_keep ∈ gT := gT_mem 731 (by decide +kernel) (by decide +kernel)
theorem tw_1358 : Cond.methodLink RL 101 yX10_keep ∈ gT := gT_mem 1358 (by decide +kernel) (by decide +kernel)
theorem tw_740 : Cond.methodLink RL 102 yX9_on ∈ gT := gT_mem 740 (by decide +kernel) (by decide +kernel)
theorem tw_1362 : Cond.methodLink RL 105 yX10_on ∈ gT := gT_mem 1362 (by decide +kernel) (by decide +kernel)
theorem tw_744 : Cond.methodLink RL 106 yX9_run ∈ gT := gT_mem 744 (by decide +kernel) (by decide +kernel)
theorem tw_1366 : Cond.methodLink RL 109 yX10_run ∈ gT := gT_mem 1366 (by decide +kernel) (by decide +kernel)
theorem tw_767 : Cond.methodLink RL 110 yX9_best ∈ gT := gT_mem 767 (by decide +kernel) (by decide +kernel)
theorem tw_1382 : Cond.methodLink RL 113 yX10_best ∈ gT := gT_mem 1382 (by decide +kernel) (by decide +kernel)
theorem tw_813 : Cond.methodLink RL 114 yX9_fewest ∈ gT := gT_mem 813 (by decide +kernel) (by decide +kernel)
theorem tw_1402 : Cond.methodLink RL 117 yX10_fewest ∈ gT := gT_mem 1402 (by decide +kernel) (by decide +kernel)
theorem tw_817 : Cond.methodLink RL 118 yX9_dies ∈ gT := gT_mem 817 (by decide +kernel) (by decide +kernel)
theorem tw_1406 : Cond.methodLink RL 121 yX10_dies ∈ gT := gT_mem 1406 (by decide +kernel) (by decide +kernel)
theorem tw_824 : Cond.methodLink RL 122 yX9_barge ∈ gT := gT_mem 824 (by decide +kernel) (by decide +kernel)
theorem tw_1410 : Cond.methodLink RL 125 yX10_barge ∈ gT := gT_mem 1410 (by decide +kernel) (by decide +kernel)
theorem tw_834 : Cond.methodLink RL 126 yX9_fits ∈ gT := gT_mem 834 (by decide +kernel) (by decide +kernel)
theorem tw_1418 : Cond.methodLink RL 129 yX10_fits ∈ gT := gT_mem 1418 (by decide +kernel) (by decide +kernel)
theorem tw_846 : Cond.methodLink RL 130 yX9_opened ∈ gT := gT_mem 846 (by decide +kernel) (by decide +kernel)
theorem tw_1430 : Cond.methodLink RL 133 yX10_opened ∈ gT := gT_mem 1430 (by decide +kernel) (by decide +kernel)
theorem tw_850 : Cond.methodLink RL 134 yX9_settle ∈ gT := gT_mem 850 (by decide +kernel) (by decide +kernel)
theorem tw_1434 : Cond.methodLink RL 137 yX10_settle ∈ gT := gT_mem 1434 (by decide +kernel) (by decide +kernel)
theorem tw_868 : Cond.methodLink RL 138 yX9_stalled ∈ gT := gT_mem 868 (by decide +kernel) (by decide +kernel)
theorem tw_1446 : Cond.methodLink RL 141 yX10_stalled ∈ gT := gT_mem 1446 (by decide +kernel) (by decide +kernel)
theorem tw_882 : Cond.methodLink RL 142 yX9_loosen ∈ gT := gT_mem 882 (by decide +kernel) (by decide +kernel)
theorem tw_1454 : Cond.methodLink RL 145 yX10_loosen ∈ gT := gT_mem 1454 (by decide +kernel) (by decide +kernel)
theorem tw_909 : Cond.methodLink RL 146 yX9_eels ∈ gT := gT_mem 909 (by decide +kernel) (by decide +kernel)
theorem tw_1470 : Cond.methodLink RL 149 yX10_eels ∈ gT := gT_mem 1470 (by decide +kernel) (by decide +kernel)
theorem tw_915 : Cond.methodLink RL 150 yX9_odds ∈ gT := gT_mem 915 (by decide +kernel) (by decide +kernel)
theorem tw_1474 : Cond.methodLink RL 153 yX10_odds ∈ gT := gT_mem 1474 (by decide +kernel) (by decide +kernel)
theorem tw_928 : Cond.methodLink RL 154 yX9_lots ∈ gT := gT_mem 928 (by decide +kernel) (by decide +kernel)
theorem tw_1482 : Cond.methodLink RL 157 yX10_lots ∈ gT := gT_mem 1482 (by decide +kernel) (by decide +kernel)
theorem tw_939 : Cond.methodLink RL 158 yX9_asked ∈ gT := gT_mem 939 (by decide +kernel) (by decide +kernel)
theorem tw_1145 : Cond.methodLink RL 161 yX10_asked ∈ gT := gT_mem 1145 (by decide +kernel) (by decide +kernel)
theorem tw_943 : Cond.methodLink RL 162 yX9_upper ∈ gT := gT_mem 943 (by decide +kernel) (by decide +kernel)
theorem tw_1149 : Cond.methodLink RL 166 yX10_upper ∈ gT := gT_mem 1149 (by decide +kernel) (by decide +kernel)
theorem tw_947 : Cond.methodLink RL 167 yX9_lower ∈ gT := gT_mem 947 (by decide +kernel) (by decide +kernel)
theorem tw_1153 : Cond.methodLink RL 170 yX10_lower ∈ gT := gT_mem 1153 (by decide +kernel) (by decide +kernel)
theorem tw_951 : Cond.methodLink RL 171 yX9_count ∈ gT := gT_mem 951 (by decide +kernel) (by decide +kernel)
theorem tw_1491 : Cond.methodLink RL 174 yX10_count ∈ gT := gT_mem 1491 (by decide +kernel) (by decide +kernel)
theorem tw_973 : Cond.methodLink RL 175 yX9_finding ∈ gT := gT_mem 973 (by decide +kernel) (by decide +kernel)
theorem tw_1134 : Cond.methodLink RL 178 yX10_finding ∈ gT := gT_mem 1134 (by decide +kernel) (by decide +kernel)
theorem tw_977 : Cond.methodLink RL 179 yX9_findings ∈ gT := gT_mem 977 (by decide +kernel) (by decide +kernel)
theorem tw_1138 : Cond.methodLink RL 182 yX10_findings ∈ gT := gT_mem 1138 (by decide +kernel) (by decide +kernel)
theorem tw_981 : Cond.methodLink RL 183 yX9_digest ∈ gT := gT_mem 981 (by decide +kernel) (by decide +kernel)
theorem tw_1499 : Cond.methodLink RL 186 yX10_digest ∈ gT := gT_mem 1499 (by decide +kernel) (by decide +kernel)
theorem tn_620 : Cond.methodLinkNest RX0 65 yX9_hasBit RX9 ∈ nT := nT_mem 620 (by decide +kernel) rfl
theorem tn_861 : Cond.methodLinkNest RX1 34 yX9_firstOf RX9 ∈ nT := nT_mem 861 (by decide +kernel) rfl
theorem tn_867 : Cond.methodLinkNest RX1 43 yX9_hasBit RX9 ∈ nT := nT_mem 867 (by decide +kernel) rfl
theorem tn_603 : Cond.methodLinkNest RX2 56 yX9_hasBit RX9 ∈ nT := nT_mem 603 (by decide +kernel) rfl
theorem tn_670 : Cond.methodLinkNest RX2 70 yX9_withBit RX9 ∈ nT := nT_mem 670 (by decide +kernel) rfl
theorem tn_881 : Cond.methodLinkNest RX4 38 yX9_hasBit RX9 ∈ nT := nT_mem 881 (by decide +kernel) rfl
theorem tn_803 : Cond.methodLinkNest RX5 100 yX9_hasBit RX9 ∈ nT := nT_mem 803 (by decide +kernel) rfl
theorem tn_544 : Cond.methodLinkNest RX6 95 yX9_hasBit RX9 ∈ nT := nT_mem 544 (by decide +kernel) rfl
theorem tw_maxS : Cond.static Lib.Math.max.name ∈ gT := gT_mem 506 (by decide +kernel) (by decide +kernel)
theorem tw_maxC : Cond.code Lib.Math.max.name Lib.Math.max.code 2 (some .int) ∈ gT := gT_mem 507 (by decide +kernel) (by decide +kernel)
theorem tw_minS : Cond.static Lib.Math.min.name ∈ gT := gT_mem 509 (by decide +kernel) (by decide +kernel)
theorem tw_minC : Cond.code Lib.Math.min.name Lib.Math.min.code 2 (some .int) ∈ gT := gT_mem 510 (by decide +kernel) (by decide +kernel)
theorem tw_MathI : Cond.initialized "java/lang/Math" ∈ gT := gT_mem 91 (by decide +kernel) (by decide +kernel)
theorem tw_acN : Cond.native arraycopyName ∈ gT := gT_mem 471 (by decide +kernel) (by decide +kernel)
theorem tw_acS : Cond.static arraycopyName ∈ gT := gT_mem 470 (by decide +kernel) (by decide +kernel)
theorem tw_acI : Cond.initialized "java/lang/System" ∈ gT := gT_mem 90 (by decide +kernel) (by decide +kernel)
theorem kb_m9 : (Int8.ofInt (-9)).toInt32 = (-9) := by decide
theorem kb_m4 : (Int8.ofInt (-4)).toInt32 = (-4) := by decide
theorem kb_m3 : (Int8.ofInt (-3)).toInt32 = (-3) := by decide
theorem kb_m2 : (Int8.ofInt (-2)).toInt32 = (-2) := by decide
theorem kb_6 : (Int8.ofInt (6)).toInt32 = (6) := by decide
theorem kb_7 : (Int8.ofInt (7)).toInt32 = (7) := by decide
theorem kb_8 : (Int8.ofInt (8)).toInt32 = (8) := by decide
theorem kb_9 : (Int8.ofInt (9)).toInt32 = (9) := by decide
theorem kb_10 : (Int8.ofInt (10)).toInt32 = (10) := by decide
theorem kb_12 : (Int8.ofInt (12)).toInt32 = (12) := by decide
theorem kb_15 : (Int8.ofInt (15)).toInt32 = (15) := by decide
theorem kb_16 : (Int8.ofInt (16)).toInt32 = (16) := by decide
theorem kb_20 : (Int8.ofInt (20)).toInt32 = (20) := by decide
theorem kb_25 : (Int8.ofInt (25)).toInt32 = (25) := by decide
theorem kb_30 : (Int8.ofInt (30)).toInt32 = (30) := by decide
theorem kb_31 : (Int8.ofInt (31)).toInt32 = (31) := by decide
theorem kb_32 : (Int8.ofInt (32)).toInt32 = (32) := by decide
theorem kb_36 : (Int8.ofInt (36)).toInt32 = (36) := by decide
theorem kb_39 : (Int8.ofInt (39)).toInt32 = (39) := by decide
theorem kb_40 : (Int8.ofInt (40)).toInt32 = (40) := by decide
theorem kb_48 : (Int8.ofInt (48)).toInt32 = (48) := by decide
theorem kb_60 : (Int8.ofInt (60)).toInt32 = (60) := by decide
theorem kb_63 : (Int8.ofInt (63)).toInt32 = (63) := by decide
theorem kb_100 : (Int8.ofInt (100)).toInt32 = (100) := by decide
theorem kb_114 : (Int8.ofInt (114)).toInt32 = (114) := by decide
theorem kb_119 : (Int8.ofInt (119)).toInt32 = (119) := by decide
theorem kb_127 : (Int8.ofInt (127)).toInt32 = (127) := by decide
theorem ki_m1 : Int32.ofInt (-1) = (-1) := by decide
theorem ki_0 : Int32.ofInt (0) = (0) := by decide
theorem ki_1 : Int32.ofInt (1) = (1) := by decide
theorem ki_2 : Int32.ofInt (2) = (2) := by decide
theorem ki_3 : Int32.ofInt (3) = (3) := by decide
theorem ki_4 : Int32.ofInt (4) = (4) := by decide
theorem ki_5 : Int32.ofInt (5) = (5) := by decide
theorem ki_6 : Int32.ofInt (6) = (6) := by decide
theorem kl_0 : Int64.ofNat ((0 : Fin 2) : Nat) = (0) := by decide
theorem kl_1 : Int64.ofNat ((1 : Fin 2) : Nat) = (1) := by decide
theorem ks_1000 : (Int16.ofInt (1000)).toInt32 = (1000) := by decide
theorem ks_1860 : (Int16.ofInt (1860)).toInt32 = (1860) := by decide
theorem inW_0 : ∀ w ∈ u_ws RX0 TX0 9, w ∈ gT := by decide +kernel
theorem inW_1 : ∀ w ∈ u_ws RX1 TX1 2, w ∈ gT := by decide +kernel
theorem inW_2 : ∀ w ∈ u_ws RX2 TX2 7, w ∈ gT := by decide +kernel
theorem inW_3 : ∀ w ∈ u_ws RX3 TX3 3, w ∈ gT := by decide +kernel
theorem inW_4 : ∀ w ∈ u_ws RX4 TX4 3, w ∈ gT := by decide +kernel
theorem inW_5 : ∀ w ∈ u_ws RX5 TX5 9, w ∈ gT := by decide +kernel
theorem inW_6 : ∀ w ∈ u_ws RX6 TX6 6, w ∈ gT := by decide +kernel
theorem inW_7 : ∀ w ∈ u_ws RX7 TX7 3, w ∈ gT := by decide +kernel
theorem inW_8 : ∀ w ∈ u_ws RX8 TX8 3, w ∈ gT := by decide +kernel
theorem inW_9 : ∀ w ∈ u_ws RX9 TX9 16, w ∈ gT := by decide +kernel
theorem inW_10 : ∀ w ∈ u_ws RX10 TX10 44, w ∈ gT := by decide +kernel
theorem iw_0 : Cond.initialized RX0 ∈ gT := gT_mem 81 (by decide +kernel) (by decide +kernel)
theorem iw_1 : Cond.initialized RX1 ∈ gT := gT_mem 86 (by decide +kernel) (by decide +kernel)
theorem iw_2 : Cond.initialized RX2 ∈ gT := gT_mem 84 (by decide +kernel) (by decide +kernel)
theorem iw_4 : Cond.initialized RX4 ∈ gT := gT_mem 87 (by decide +kernel) (by decide +kernel)
theorem iw_5 : Cond.initialized RX5 ∈ gT := gT_mem 85 (by decide +kernel) (by decide +kernel)
theorem iw_6 : Cond.initialized RX6 ∈ gT := gT_mem 82 (by decide +kernel) (by decide +kernel)
theorem iw_7 : Cond.initialized RX7 ∈ gT := gT_mem 79 (by decide +kernel) (by decide +kernel)
theorem iw_8 : Cond.initialized RX8 ∈ gT := gT_mem 83 (by decide +kernel) (by decide +kernel)
theorem iw_9 : Cond.initialized RX9 ∈ gT := gT_mem 78 (by decide +kernel) (by decide +kernel)
theorem iw_10 : Cond.initialized RX10 ∈ gT := gT_mem 89 (by decide +kernel) (by decide +kernel)
theorem iw_RJ6 : Cond.initialized RJ6 ∈ gT := gT_mem 92 (by decide +kernel) (by decide +kernel)
theorem iw_RJ13 : Cond.initialized RJ13 ∈ gT := gT_mem 93 (by decide +kernel) (by decide +kernel)
theorem iw_RJ7 : Cond.initialized RJ7 ∈ gT := gT_mem 80 (by decide +kernel) (by decide +kernel)
theorem cw_Sh_knows : Cond.code yX7_knows cX7_knows 2 (some .boolean) ∈ gT := gT_mem 410 (by decide +kernel) (by decide +kernel)
theorem hy_Sh_knows : yX7_knows.cls ≠ "java/lang/invoke/MethodHandle" ∧ yX7_knows.cls ≠ "java/lang/invoke/VarHandle" ∧ (parseMethodDescriptor yX7_knows.desc).map (fun d => d.parameters.length) = some 1 := by decide +kernel
theorem im_Sh_knows : Cond.instanceMethod yX7_knows ∈ gT := gT_mem 408 (by decide +kernel) (by decide +kernel)
theorem se_Sh_knows : Cond.selects RX7 yX7_knows yX7_knows ∈ gT := gT_mem 409 (by decide +kernel) (by decide +kernel)
theorem cw_B_answerFinding : Cond.code yX9_answerFinding cX9_answerFinding 2 (some .int) ∈ gT := gT_mem 414 (by decide +kernel) (by decide +kernel)
theorem hy_B_answerFinding : yX9_answerFinding.cls ≠ "java/lang/invoke/MethodHandle" ∧ yX9_answerFinding.cls ≠ "java/lang/invoke/VarHandle" ∧ (parseMethodDescriptor yX9_answerFinding.desc).map (fun d => d.parameters.length) = some 1 := by decide +kernel
theorem im_B_answerFinding : Cond.instanceMethod yX9_answerFinding ∈ gT := gT_mem 413 (by decide +kernel) (by decide +kernel)
theorem se_B_answerFinding : Cond.selects RX9 yX9_answerFinding yX9_answerFinding ∈ gT := gT_mem 1 (by decide +kernel) (by decide +kernel)
theorem cw_J_fill : Cond.code yJ7_fill_53178 cJ7_fill_53178 4 (none) ∈ gT := gT_mem 112 (by decide +kernel) (by decide +kernel)
theorem hy_J_fill : yJ7_fill_53178.cls ≠ "java/lang/invoke/MethodHandle" ∧ yJ7_fill_53178.cls ≠ "java/lang/invoke/VarHandle" ∧ (parseMethodDescriptor yJ7_fill_53178.desc).map (fun d => d.parameters.length) = some 2 := by decide +kernel
theorem st_J_fill : Cond.static yJ7_fill_53178 ∈ gT := gT_mem 111 (by decide +kernel) (by decide +kernel)
theorem cw_Sh_make : Cond.code yX7_make cX7_make 4 (none) ∈ gT := gT_mem 418 (by decide +kernel) (by decide +kernel)
theorem hy_Sh_make : yX7_make.cls ≠ "java/lang/invoke/MethodHandle" ∧ yX7_make.cls ≠ "java/lang/invoke/VarHandle" ∧ (parseMethodDescriptor yX7_make.desc).map (fun d => d.parameters.length) = some 3 := by decide +kernel
theorem im_Sh_make : Cond.instanceMethod yX7_make ∈ gT := gT_mem 416 (by decide +kernel) (by decide +kernel)
theorem se_Sh_make : Cond.selects RX7 yX7_make yX7_make ∈ gT := gT_mem 417 (by decide +kernel) (by decide +kernel)
theorem cw_B_makeIn : Cond.code yX9_makeIn cX9_makeIn 5 (some .int) ∈ gT := gT_mem 406 (by decide +kernel) (by decide +kernel)
theorem hy_B_makeIn : yX9_makeIn.cls ≠ "java/lang/invoke/MethodHandle" ∧ yX9_makeIn.cls ≠ "java/lang/invoke/VarHandle" ∧ (parseMethodDescriptor yX9_makeIn.desc).map (fun d => d.parameters.length) = some 4 := by decide +kernel
theorem im_B_makeIn : Cond.instanceMethod yX9_makeIn ∈ gT := gT_mem 405 (by decide +kernel) (by decide +kernel)
theorem se_B_makeIn : Cond.selects RX9 yX9_makeIn yX9_makeIn ∈ gT := gT_mem 0 (by decide +kernel) (by decide +kernel)
theorem cw_B_row : Cond.code yX9_row cX9_row 3 (some .int) ∈ gT := gT_mem 402 (by decide +kernel) (by decide +kernel)
theorem hy_B_row : yX9_row.cls ≠ "java/lang/invoke/MethodHandle" ∧ yX9_row.cls ≠ "java/lang/invoke/VarHandle" ∧ (parseMethodDescriptor yX9_row.desc).map (fun d => d.parameters.length) = some 2 := by decide +kernel
theorem im_B_row : Cond.instanceMethod yX9_row ∈ gT := gT_mem 400 (by decide +kernel) (by decide +kernel)
theorem se_B_row : Cond.selects RX9 yX9_row yX9_row ∈ gT := gT_mem 401 (by decide +kernel) (by decide +kernel)
theorem cw_Sh_isThere : Cond.code yX7_isThere cX7_isThere 2 (some .boolean) ∈ gT := gT_mem 435 (by decide +kernel) (by decide +kernel)
theorem hy_Sh_isThere : yX7_isThere.cls ≠ "java/lang/invoke/MethodHandle" ∧ yX7_isThere.cls ≠ "java/lang/invoke/VarHandle" ∧ (parseMethodDescriptor yX7_isThere.desc).map (fun d => d.parameters.length) = some 1 := by decide +kernel
theorem im_Sh_isThere : Cond.instanceMethod yX7_isThere ∈ gT := gT_mem 433 (by decide +kernel) (by decide +kernel)
theorem se_Sh_isThere : Cond.selects RX7 yX7_isThere yX7_isThere ∈ gT := gT_mem 434 (by decide +kernel) (by decide +kernel)
theorem cw_B_shelfRefusal : Cond.code yX9_shelfRefusal cX9_shelfRefusal 3 (some .int) ∈ gT := gT_mem 431 (by decide +kernel) (by decide +kernel)
theorem hy_B_shelfRefusal : yX9_shelfRefusal.cls ≠ "java/lang/invoke/MethodHandle" ∧ yX9_shelfRefusal.cls ≠ "java/lang/invoke/VarHandle" ∧ (parseMethodDescriptor yX9_shelfRefusal.desc).map (fun d => d.parameters.length) = some 2 := by decide +kernel
theorem im_B_shelfRefusal : Cond.instanceMethod yX9_shelfRefusal ∈ gT := gT_mem 430 (by decide +kernel) (by decide +kernel)
theorem se_B_shelfRefusal : Cond.selects RX9 yX9_shelfRefusal yX9_shelfRefusal ∈ gT := gT_mem 3 (by decide +kernel) (by decide +kernel)
theorem cw_Sh_hasStretch : Cond.code yX7_hasStretch cX7_hasStretch 4 (some .boolean) ∈ gT := gT_mem 439 (by decide +kernel) (by decide +kernel)
theorem hy_Sh_hasStretch : yX7_hasStretch.cls ≠ "java/lang/invoke/MethodHandle" ∧ yX7_hasStretch.cls ≠ "java/lang/invoke/VarHandle" ∧ (parseMethodDescriptor yX7_hasStretch.desc).map (fun d => d.parameters.length) = some 3 := by decide +kernel
theorem im_Sh_hasStretch : Cond.instanceMethod yX7_hasStretch ∈ gT := gT_mem 437 (by decide +kernel) (by decide +kernel)
theorem se_Sh_hasStretch : Cond.selects RX7 yX7_hasStretch yX7_hasStretch ∈ gT := gT_mem 438 (by decide +kernel) (by decide +kernel)
theorem cw_B_placeRefusal : Cond.code yX9_placeRefusal cX9_placeRefusal 5 (some .int) ∈ gT := gT_mem 427 (by decide +kernel) (by decide +kernel)
theorem hy_B_placeRefusal : yX9_placeRefusal.cls ≠ "java/lang/invoke/MethodHandle" ∧ yX9_placeRefusal.cls ≠ "java/lang/invoke/VarHandle" ∧ (parseMethodDescriptor yX9_placeRefusal.desc).map (fun d => d.parameters.length) = some 3 := by decide +kernel
theorem im_B_placeRefusal : Cond.instanceMethod yX9_placeRefusal ∈ gT := gT_mem 426 (by decide +kernel) (by decide +kernel)
theorem se_B_placeRefusal : Cond.selects RX9 yX9_placeRefusal yX9_placeRefusal ∈ gT := gT_mem 2 (by decide +kernel) (by decide +kernel)
theorem cw_Sh_valueAt : Cond.code yX7_valueAt cX7_valueAt 3 (some .int) ∈ gT := gT_mem 443 (by decide +kernel) (by decide +kernel)
theorem hy_Sh_valueAt : yX7_valueAt.cls ≠ "java/lang/invoke/MethodHandle" ∧ yX7_valueAt.cls ≠ "java/lang/invoke/VarHandle" ∧ (parseMethodDescriptor yX7_valueAt.desc).map (fun d => d.parameters.length) = some 2 := by decide +kernel
theorem im_Sh_valueAt : Cond.instanceMethod yX7_valueAt ∈ gT := gT_mem 441 (by decide +kernel) (by decide +kernel)
theorem se_Sh_valueAt : Cond.selects RX7 yX7_valueAt yX7_valueAt ∈ gT := gT_mem 442 (by decide +kernel) (by decide +kernel)
theorem cw_Sh_setValue : Cond.code yX7_setValue cX7_setValue 4 (none) ∈ gT := gT_mem 448 (by decide +kernel) (by decide +kernel)
theorem hy_Sh_setValue : yX7_setValue.cls ≠ "java/lang/invoke/MethodHandle" ∧ yX7_setValue.cls ≠ "java/lang/invoke/VarHandle" ∧ (parseMethodDescriptor yX7_setValue.desc).map (fun d => d.parameters.length) = some 3 := by decide +kernel
theorem im_Sh_setValue : Cond.instanceMethod yX7_setValue ∈ gT := gT_mem 446 (by decide +kernel) (by decide +kernel)
theorem se_Sh_setValue : Cond.selects RX7 yX7_setValue yX7_setValue ∈ gT := gT_mem 447 (by decide +kernel) (by decide +kernel)
theorem cw_B_lay : Cond.code yX9_lay cX9_lay 5 (some .int) ∈ gT := gT_mem 423 (by decide +kernel) (by decide +kernel)
theorem hy_B_lay : yX9_lay.cls ≠ "java/lang/invoke/MethodHandle" ∧ yX9_lay.cls ≠ "java/lang/invoke/VarHandle" ∧ (parseMethodDescriptor yX9_lay.desc).map (fun d => d.parameters.length) = some 3 := by decide +kernel
theorem im_B_lay : Cond.instanceMethod yX9_lay ∈ gT := gT_mem 421 (by decide +kernel) (by decide +kernel)
theorem se_B_lay : Cond.selects RX9 yX9_lay yX9_lay ∈ gT := gT_mem 422 (by decide +kernel) (by decide +kernel)
theorem cw_B_at : Cond.code yX9_at cX9_at 4 (some .int) ∈ gT := gT_mem 452 (by decide +kernel) (by decide +kernel)
theorem hy_B_at : yX9_at.cls ≠ "java/lang/invoke/MethodHandle" ∧ yX9_at.cls ≠ "java/lang/invoke/VarHandle" ∧ (parseMethodDescriptor yX9_at.desc).map (fun d => d.parameters.length) = some 2 := by decide +kernel
theorem im_B_at : Cond.instanceMethod yX9_at ∈ gT := gT_mem 450 (by decide +kernel) (by decide +kernel)
theorem se_B_at : Cond.selects RX9 yX9_at yX9_at ∈ gT := gT_mem 451 (by decide +kernel) (by decide +kernel)
theorem cw_Sh_drop : Cond.code yX7_drop cX7_drop 2 (none) ∈ gT := gT_mem 460 (by decide +kernel) (by decide +kernel)
theorem hy_Sh_drop : yX7_drop.cls ≠ "java/lang/invoke/MethodHandle" ∧ yX7_drop.cls ≠ "java/lang/invoke/VarHandle" ∧ (parseMethodDescriptor yX7_drop.desc).map (fun d => d.parameters.length) = some 1 := by decide +kernel
theorem im_Sh_drop : Cond.instanceMethod yX7_drop ∈ gT := gT_mem 458 (by decide +kernel) (by decide +kernel)
theorem se_Sh_drop : Cond.selects RX7 yX7_drop yX7_drop ∈ gT := gT_mem 459 (by decide +kernel) (by decide +kernel)
theorem cw_B_tear : Cond.code yX9_tear cX9_tear 3 (some .int) ∈ gT := gT_mem 456 (by decide +kernel) (by decide +kernel)
theorem hy_B_tear : yX9_tear.cls ≠ "java/lang/invoke/MethodHandle" ∧ yX9_tear.cls ≠ "java/lang/invoke/VarHandle" ∧ (parseMethodDescriptor yX9_tear.desc).map (fun d => d.parameters.length) = some 1 := by decide +kernel
theorem im_B_tear : Cond.instanceMethod yX9_tear ∈ gT := gT_mem 454 (by decide +kernel) (by decide +kernel)
theorem se_B_tear : Cond.selects RX9 yX9_tear yX9_tear ∈ gT := gT_mem 455 (by decide +kernel) (by decide +kernel)
theorem cw_Sh_move : Cond.code yX7_move cX7_move 6 (none) ∈ gT := gT_mem 468 (by decide +kernel) (by decide +kernel)
theorem hy_Sh_move : yX7_move.cls ≠ "java/lang/invoke/MethodHandle" ∧ yX7_move.cls ≠ "java/lang/invoke/VarHandle" ∧ (parseMethodDescriptor yX7_move.desc).map (fun d => d.parameters.length) = some 5 := by decide +kernel
theorem im_Sh_move : Cond.instanceMethod yX7_move ∈ gT := gT_mem 466 (by decide +kernel) (by decide +kernel)
theorem se_Sh_move : Cond.selects RX7 yX7_move yX7_move ∈ gT := gT_mem 467 (by decide +kernel) (by decide +kernel)
theorem cw_B_copy : Cond.code yX9_copy cX9_copy 6 (some .int) ∈ gT := gT_mem 464 (by decide +kernel) (by decide +kernel)
theorem hy_B_copy : yX9_copy.cls ≠ "java/lang/invoke/MethodHandle" ∧ yX9_copy.cls ≠ "java/lang/invoke/VarHandle" ∧ (parseMethodDescriptor yX9_copy.desc).map (fun d => d.parameters.length) = some 5 := by decide +kernel
theorem im_B_copy : Cond.instanceMethod yX9_copy ∈ gT := gT_mem 462 (by decide +kernel) (by decide +kernel)
theorem se_B_copy : Cond.selects RX9 yX9_copy yX9_copy ∈ gT := gT_mem 463 (by decide +kernel) (by decide +kernel)
theorem cw_Sh_sizeOf : Cond.code yX7_sizeOf cX7_sizeOf 2 (some .int) ∈ gT := gT_mem 479 (by decide +kernel) (by decide +kernel)
theorem hy_Sh_sizeOf : yX7_sizeOf.cls ≠ "java/lang/invoke/MethodHandle" ∧ yX7_sizeOf.cls ≠ "java/lang/invoke/VarHandle" ∧ (parseMethodDescriptor yX7_sizeOf.desc).map (fun d => d.parameters.length) = some 1 := by decide +kernel
theorem im_Sh_sizeOf : Cond.instanceMethod yX7_sizeOf ∈ gT := gT_mem 477 (by decide +kernel) (by decide +kernel)
theorem se_Sh_sizeOf : Cond.selects RX7 yX7_sizeOf yX7_sizeOf ∈ gT := gT_mem 478 (by decide +kernel) (by decide +kernel)
theorem cw_Sh_sumOf : Cond.code yX7_sumOf cX7_sumOf 5 (some .long) ∈ gT := gT_mem 483 (by decide +kernel) (by decide +kernel)
theorem hy_Sh_sumOf : yX7_sumOf.cls ≠ "java/lang/invoke/MethodHandle" ∧ yX7_sumOf.cls ≠ "java/lang/invoke/VarHandle" ∧ (parseMethodDescriptor yX7_sumOf.desc).map (fun d => d.parameters.length) = some 1 := by decide +kernel
theorem im_Sh_sumOf : Cond.instanceMethod yX7_sumOf ∈ gT := gT_mem 481 (by decide +kernel) (by decide +kernel)
theorem se_Sh_sumOf : Cond.selects RX7 yX7_sumOf yX7_sumOf ∈ gT := gT_mem 482 (by decide +kernel) (by decide +kernel)
theorem cw_B_mean : Cond.code yX9_mean cX9_mean 4 (some .int) ∈ gT := gT_mem 475 (by decide +kernel) (by decide +kernel)
theorem hy_B_mean : yX9_mean.cls ≠ "java/lang/invoke/MethodHandle" ∧ yX9_mean.cls ≠ "java/lang/invoke/VarHandle" ∧ (parseMethodDescriptor yX9_mean.desc).map (fun d => d.parameters.length) = some 1 := by decide +kernel
theorem im_B_mean : Cond.instanceMethod yX9_mean ∈ gT := gT_mem 473 (by decide +kernel) (by decide +kernel)
theorem se_B_mean : Cond.selects RX9 yX9_mean yX9_mean ∈ gT := gT_mem 474 (by decide +kernel) (by decide +kernel)
theorem cw_B_text : Cond.code yX9_text cX9_text 3 (some .int) ∈ gT := gT_mem 488 (by decide +kernel) (by decide +kernel)
theorem hy_B_text : yX9_text.cls ≠ "java/lang/invoke/MethodHandle" ∧ yX9_text.cls ≠ "java/lang/invoke/VarHandle" ∧ (parseMethodDescriptor yX9_text.desc).map (fun d => d.parameters.length) = some 2 := by decide +kernel
theorem im_B_text : Cond.instanceMethod yX9_text ∈ gT := gT_mem 486 (by decide +kernel) (by decide +kernel)
theorem se_B_text : Cond.selects RX9 yX9_text yX9_text ∈ gT := gT_mem 487 (by decide +kernel) (by decide +kernel)
theorem cw_B_put : Cond.code yX9_put cX9_put 6 (some .int) ∈ gT := gT_mem 492 (by decide +kernel) (by decide +kernel)
theorem hy_B_put : yX9_put.cls ≠ "java/lang/invoke/MethodHandle" ∧ yX9_put.cls ≠ "java/lang/invoke/VarHandle" ∧ (parseMethodDescriptor yX9_put.desc).map (fun d => d.parameters.length) = some 3 := by decide +kernel
theorem im_B_put : Cond.instanceMethod yX9_put ∈ gT := gT_mem 490 (by decide +kernel) (by decide +kernel)
theorem se_B_put : Cond.selects RX9 yX9_put yX9_put ∈ gT := gT_mem 491 (by decide +kernel) (by decide +kernel)
theorem cw_Sh_copyOut : Cond.code yX7_copyOut cX7_copyOut 5 (some .int) ∈ gT := gT_mem 504 (by decide +kernel) (by decide +kernel)
theorem hy_Sh_copyOut : yX7_copyOut.cls ≠ "java/lang/invoke/MethodHandle" ∧ yX7_copyOut.cls ≠ "java/lang/invoke/VarHandle" ∧ (parseMethodDescriptor yX7_copyOut.desc).map (fun d => d.parameters.length) = some 2 := by decide +kernel
theorem im_Sh_copyOut : Cond.instanceMethod yX7_copyOut ∈ gT := gT_mem 502 (by decide +kernel) (by decide +kernel)
theorem se_Sh_copyOut : Cond.selects RX7 yX7_copyOut yX7_copyOut ∈ gT := gT_mem 503 (by decide +kernel) (by decide +kernel)
theorem cw_Ch_forgetServed : Cond.code yX0_forgetServed cX0_forgetServed 1 (none) ∈ gT := gT_mem 519 (by decide +kernel) (by decide +kernel)
theorem hy_Ch_forgetServed : yX0_forgetServed.cls ≠ "java/lang/invoke/MethodHandle" ∧ yX0_forgetServed.cls ≠ "java/lang/invoke/VarHandle" ∧ (parseMethodDescriptor yX0_forgetServed.desc).map (fun d => d.parameters.length) = some 0 := by decide +kernel
theorem im_Ch_forgetServed : Cond.instanceMethod yX0_forgetServed ∈ gT := gT_mem 517 (by decide +kernel) (by decide +kernel)
theorem se_Ch_forgetServed : Cond.selects RX0 yX0_forgetServed yX0_forgetServed ∈ gT := gT_mem 518 (by decide +kernel) (by decide +kernel)
theorem cw_Ch_clear : Cond.code yX0_clear cX0_clear 1 (none) ∈ gT := gT_mem 514 (by decide +kernel) (by decide +kernel)
theorem hy_Ch_clear : yX0_clear.cls ≠ "java/lang/invoke/MethodHandle" ∧ yX0_clear.cls ≠ "java/lang/invoke/VarHandle" ∧ (parseMethodDescriptor yX0_clear.desc).map (fun d => d.parameters.length) = some 0 := by decide +kernel
theorem im_Ch_clear : Cond.instanceMethod yX0_clear ∈ gT := gT_mem 512 (by decide +kernel) (by decide +kernel)
theorem se_Ch_clear : Cond.selects RX0 yX0_clear yX0_clear ∈ gT := gT_mem 513 (by decide +kernel) (by decide +kernel)
theorem cw_Rd_nextSign : Cond.code yX6_nextSign cX6_nextSign 1 (some .int) ∈ gT := gT_mem 531 (by decide +kernel) (by decide +kernel)
theorem hy_Rd_nextSign : yX6_nextSign.cls ≠ "java/lang/invoke/MethodHandle" ∧ yX6_nextSign.cls ≠ "java/lang/invoke/VarHandle" ∧ (parseMethodDescriptor yX6_nextSign.desc).map (fun d => d.parameters.length) = some 0 := by decide +kernel
theorem im_Rd_nextSign : Cond.instanceMethod yX6_nextSign ∈ gT := gT_mem 530 (by decide +kernel) (by decide +kernel)
theorem se_Rd_nextSign : Cond.selects RX6 yX6_nextSign yX6_nextSign ∈ gT := gT_mem 6 (by decide +kernel) (by decide +kernel)
theorem cw_Rd_skipBlanks : Cond.code yX6_skipBlanks cX6_skipBlanks 1 (none) ∈ gT := gT_mem 527 (by decide +kernel) (by decide +kernel)
theorem hy_Rd_skipBlanks : yX6_skipBlanks.cls ≠ "java/lang/invoke/MethodHandle" ∧ yX6_skipBlanks.cls ≠ "java/lang/invoke/VarHandle" ∧ (parseMethodDescriptor yX6_skipBlanks.desc).map (fun d => d.parameters.length) = some 0 := by decide +kernel
theorem im_Rd_skipBlanks : Cond.instanceMethod yX6_skipBlanks ∈ gT := gT_mem 526 (by decide +kernel) (by decide +kernel)
theorem se_Rd_skipBlanks : Cond.selects RX6 yX6_skipBlanks yX6_skipBlanks ∈ gT := gT_mem 5 (by decide +kernel) (by decide +kernel)
theorem cw_Rd_readFigure : Cond.code yX6_readFigure cX6_readFigure 4 (some .int) ∈ gT := gT_mem 535 (by decide +kernel) (by decide +kernel)
theorem hy_Rd_readFigure : yX6_readFigure.cls ≠ "java/lang/invoke/MethodHandle" ∧ yX6_readFigure.cls ≠ "java/lang/invoke/VarHandle" ∧ (parseMethodDescriptor yX6_readFigure.desc).map (fun d => d.parameters.length) = some 2 := by decide +kernel
theorem im_Rd_readFigure : Cond.instanceMethod yX6_readFigure ∈ gT := gT_mem 534 (by decide +kernel) (by decide +kernel)
theorem se_Rd_readFigure : Cond.selects RX6 yX6_readFigure yX6_readFigure ∈ gT := gT_mem 7 (by decide +kernel) (by decide +kernel)
theorem cw_Rd_readRiver : Cond.code yX6_readRiver cX6_readRiver 1 (none) ∈ gT := gT_mem 523 (by decide +kernel) (by decide +kernel)
theorem hy_Rd_readRiver : yX6_readRiver.cls ≠ "java/lang/invoke/MethodHandle" ∧ yX6_readRiver.cls ≠ "java/lang/invoke/VarHandle" ∧ (parseMethodDescriptor yX6_readRiver.desc).map (fun d => d.parameters.length) = some 0 := by decide +kernel
theorem im_Rd_readRiver : Cond.instanceMethod yX6_readRiver ∈ gT := gT_mem 522 (by decide +kernel) (by decide +kernel)
theorem se_Rd_readRiver : Cond.selects RX6 yX6_readRiver yX6_readRiver ∈ gT := gT_mem 4 (by decide +kernel) (by decide +kernel)
theorem cw_B_hasBit : Cond.code yX9_hasBit cX9_hasBit 2 (some .boolean) ∈ gT := gT_mem 546 (by decide +kernel) (by decide +kernel)
theorem hy_B_hasBit : yX9_hasBit.cls ≠ "java/lang/invoke/MethodHandle" ∧ yX9_hasBit.cls ≠ "java/lang/invoke/VarHandle" ∧ (parseMethodDescriptor yX9_hasBit.desc).map (fun d => d.parameters.length) = some 2 := by decide +kernel
theorem st_B_hasBit : Cond.static yX9_hasBit ∈ gT := gT_mem 545 (by decide +kernel) (by decide +kernel)
theorem cw_Rd_readWait : Cond.code yX6_readWait cX6_readWait 4 (none) ∈ gT := gT_mem 543 (by decide +kernel) (by decide +kernel)
theorem hy_Rd_readWait : yX6_readWait.cls ≠ "java/lang/invoke/MethodHandle" ∧ yX6_readWait.cls ≠ "java/lang/invoke/VarHandle" ∧ (parseMethodDescriptor yX6_readWait.desc).map (fun d => d.parameters.length) = some 0 := by decide +kernel
theorem im_Rd_readWait : Cond.instanceMethod yX6_readWait ∈ gT := gT_mem 542 (by decide +kernel) (by decide +kernel)
theorem se_Rd_readWait : Cond.selects RX6 yX6_readWait yX6_readWait ∈ gT := gT_mem 9 (by decide +kernel) (by decide +kernel)
theorem cw_Ch_kindOfLetter : Cond.code yX0_kindOfLetter cX0_kindOfLetter 2 (some .int) ∈ gT := gT_mem 549 (by decide +kernel) (by decide +kernel)
theorem hy_Ch_kindOfLetter : yX0_kindOfLetter.cls ≠ "java/lang/invoke/MethodHandle" ∧ yX0_kindOfLetter.cls ≠ "java/lang/invoke/VarHandle" ∧ (parseMethodDescriptor yX0_kindOfLetter.desc).map (fun d => d.parameters.length) = some 1 := by decide +kernel
theorem st_Ch_kindOfLetter : Cond.static yX0_kindOfLetter ∈ gT := gT_mem 548 (by decide +kernel) (by decide +kernel)
theorem cw_Rd_readArm : Cond.code yX6_readArm cX6_readArm 3 (none) ∈ gT := gT_mem 555 (by decide +kernel) (by decide +kernel)
theorem hy_Rd_readArm : yX6_readArm.cls ≠ "java/lang/invoke/MethodHandle" ∧ yX6_readArm.cls ≠ "java/lang/invoke/VarHandle" ∧ (parseMethodDescriptor yX6_readArm.desc).map (fun d => d.parameters.length) = some 1 := by decide +kernel
theorem im_Rd_readArm : Cond.instanceMethod yX6_readArm ∈ gT := gT_mem 554 (by decide +kernel) (by decide +kernel)
theorem se_Rd_readArm : Cond.selects RX6 yX6_readArm yX6_readArm ∈ gT := gT_mem 10 (by decide +kernel) (by decide +kernel)
theorem cw_Rd_readItem : Cond.code yX6_readItem cX6_readItem 2 (none) ∈ gT := gT_mem 539 (by decide +kernel) (by decide +kernel)
theorem hy_Rd_readItem : yX6_readItem.cls ≠ "java/lang/invoke/MethodHandle" ∧ yX6_readItem.cls ≠ "java/lang/invoke/VarHandle" ∧ (parseMethodDescriptor yX6_readItem.desc).map (fun d => d.parameters.length) = some 0 := by decide +kernel
theorem im_Rd_readItem : Cond.instanceMethod yX6_readItem ∈ gT := gT_mem 538 (by decide +kernel) (by decide +kernel)
theorem se_Rd_readItem : Cond.selects RX6 yX6_readItem yX6_readItem ∈ gT := gT_mem 8 (by decide +kernel) (by decide +kernel)
theorem cw_Rd_read : Cond.code yX6_read cX6_read 4 (some .int) ∈ gT := gT_mem 500 (by decide +kernel) (by decide +kernel)
theorem hy_Rd_read : yX6_read.cls ≠ "java/lang/invoke/MethodHandle" ∧ yX6_read.cls ≠ "java/lang/invoke/VarHandle" ∧ (parseMethodDescriptor yX6_read.desc).map (fun d => d.parameters.length) = some 2 := by decide +kernel
theorem im_Rd_read : Cond.instanceMethod yX6_read ∈ gT := gT_mem 498 (by decide +kernel) (by decide +kernel)
theorem se_Rd_read : Cond.selects RX6 yX6_read yX6_read ∈ gT := gT_mem 499 (by decide +kernel) (by decide +kernel)
theorem cw_B_fault : Cond.code yX9_fault cX9_fault 3 (some .int) ∈ gT := gT_mem 496 (by decide +kernel) (by decide +kernel)
theorem hy_B_fault : yX9_fault.cls ≠ "java/lang/invoke/MethodHandle" ∧ yX9_fault.cls ≠ "java/lang/invoke/VarHandle" ∧ (parseMethodDescriptor yX9_fault.desc).map (fun d => d.parameters.length) = some 1 := by decide +kernel
theorem im_B_fault : Cond.instanceMethod yX9_fault ∈ gT := gT_mem 494 (by decide +kernel) (by decide +kernel)
theorem se_B_fault : Cond.selects RX9 yX9_fault yX9_fault ∈ gT := gT_mem 495 (by decide +kernel) (by decide +kernel)
theorem cw_Ch_isOf : Cond.code yX0_isOf cX0_isOf 3 (some .boolean) ∈ gT := gT_mem 571 (by decide +kernel) (by decide +kernel)
theorem hy_Ch_isOf : yX0_isOf.cls ≠ "java/lang/invoke/MethodHandle" ∧ yX0_isOf.cls ≠ "java/lang/invoke/VarHandle" ∧ (parseMethodDescriptor yX0_isOf.desc).map (fun d => d.parameters.length) = some 2 := by decide +kernel
theorem im_Ch_isOf : Cond.instanceMethod yX0_isOf ∈ gT := gT_mem 569 (by decide +kernel) (by decide +kernel)
theorem se_Ch_isOf : Cond.selects RX0 yX0_isOf yX0_isOf ∈ gT := gT_mem 570 (by decide +kernel) (by decide +kernel)
theorem cw_Fl_begin : Cond.code yX2_begin cX2_begin 3 (none) ∈ gT := gT_mem 567 (by decide +kernel) (by decide +kernel)
theorem hy_Fl_begin : yX2_begin.cls ≠ "java/lang/invoke/MethodHandle" ∧ yX2_begin.cls ≠ "java/lang/invoke/VarHandle" ∧ (parseMethodDescriptor yX2_begin.desc).map (fun d => d.parameters.length) = some 1 := by decide +kernel
theorem im_Fl_begin : Cond.instanceMethod yX2_begin ∈ gT := gT_mem 565 (by decide +kernel) (by decide +kernel)
theorem se_Fl_begin : Cond.selects RX2 yX2_begin yX2_begin ∈ gT := gT_mem 566 (by decide +kernel) (by decide +kernel)
theorem cw_St_begin : Cond.code yX8_begin cX8_begin 2 (none) ∈ gT := gT_mem 563 (by decide +kernel) (by decide +kernel)
theorem hy_St_begin : yX8_begin.cls ≠ "java/lang/invoke/MethodHandle" ∧ yX8_begin.cls ≠ "java/lang/invoke/VarHandle" ∧ (parseMethodDescriptor yX8_begin.desc).map (fun d => d.parameters.length) = some 1 := by decide +kernel
theorem im_St_begin : Cond.instanceMethod yX8_begin ∈ gT := gT_mem 561 (by decide +kernel) (by decide +kernel)
theorem se_St_begin : Cond.selects RX8 yX8_begin yX8_begin ∈ gT := gT_mem 562 (by decide +kernel) (by decide +kernel)
theorem cw_B_delta : Cond.code yX9_delta cX9_delta 4 (some .int) ∈ gT := gT_mem 559 (by decide +kernel) (by decide +kernel)
theorem hy_B_delta : yX9_delta.cls ≠ "java/lang/invoke/MethodHandle" ∧ yX9_delta.cls ≠ "java/lang/invoke/VarHandle" ∧ (parseMethodDescriptor yX9_delta.desc).map (fun d => d.parameters.length) = some 1 := by decide +kernel
theorem im_B_delta : Cond.instanceMethod yX9_delta ∈ gT := gT_mem 557 (by decide +kernel) (by decide +kernel)
theorem se_B_delta : Cond.selects RX9 yX9_delta yX9_delta ∈ gT := gT_mem 558 (by decide +kernel) (by decide +kernel)
theorem cw_Ch_hasArm : Cond.code yX0_hasArm cX0_hasArm 2 (some .boolean) ∈ gT := gT_mem 581 (by decide +kernel) (by decide +kernel)
theorem hy_Ch_hasArm : yX0_hasArm.cls ≠ "java/lang/invoke/MethodHandle" ∧ yX0_hasArm.cls ≠ "java/lang/invoke/VarHandle" ∧ (parseMethodDescriptor yX0_hasArm.desc).map (fun d => d.parameters.length) = some 1 := by decide +kernel
theorem im_Ch_hasArm : Cond.instanceMethod yX0_hasArm ∈ gT := gT_mem 579 (by decide +kernel) (by decide +kernel)
theorem se_Ch_hasArm : Cond.selects RX0 yX0_hasArm yX0_hasArm ∈ gT := gT_mem 580 (by decide +kernel) (by decide +kernel)
theorem cw_Fl_saltOf : Cond.code yX2_saltOf cX2_saltOf 2 (some .int) ∈ gT := gT_mem 589 (by decide +kernel) (by decide +kernel)
theorem hy_Fl_saltOf : yX2_saltOf.cls ≠ "java/lang/invoke/MethodHandle" ∧ yX2_saltOf.cls ≠ "java/lang/invoke/VarHandle" ∧ (parseMethodDescriptor yX2_saltOf.desc).map (fun d => d.parameters.length) = some 1 := by decide +kernel
theorem im_Fl_saltOf : Cond.instanceMethod yX2_saltOf ∈ gT := gT_mem 587 (by decide +kernel) (by decide +kernel)
theorem se_Fl_saltOf : Cond.selects RX2 yX2_saltOf yX2_saltOf ∈ gT := gT_mem 588 (by decide +kernel) (by decide +kernel)
theorem cw_Fl_siltOf : Cond.code yX2_siltOf cX2_siltOf 2 (some .int) ∈ gT := gT_mem 593 (by decide +kernel) (by decide +kernel)
theorem hy_Fl_siltOf : yX2_siltOf.cls ≠ "java/lang/invoke/MethodHandle" ∧ yX2_siltOf.cls ≠ "java/lang/invoke/VarHandle" ∧ (parseMethodDescriptor yX2_siltOf.desc).map (fun d => d.parameters.length) = some 1 := by decide +kernel
theorem im_Fl_siltOf : Cond.instanceMethod yX2_siltOf ∈ gT := gT_mem 591 (by decide +kernel) (by decide +kernel)
theorem se_Fl_siltOf : Cond.selects RX2 yX2_siltOf yX2_siltOf ∈ gT := gT_mem 592 (by decide +kernel) (by decide +kernel)
theorem cw_Fl_harvestsOf : Cond.code yX2_harvestsOf cX2_harvestsOf 2 (some .int) ∈ gT := gT_mem 597 (by decide +kernel) (by decide +kernel)
theorem hy_Fl_harvestsOf : yX2_harvestsOf.cls ≠ "java/lang/invoke/MethodHandle" ∧ yX2_harvestsOf.cls ≠ "java/lang/invoke/VarHandle" ∧ (parseMethodDescriptor yX2_harvestsOf.desc).map (fun d => d.parameters.length) = some 1 := by decide +kernel
theorem im_Fl_harvestsOf : Cond.instanceMethod yX2_harvestsOf ∈ gT := gT_mem 595 (by decide +kernel) (by decide +kernel)
theorem se_Fl_harvestsOf : Cond.selects RX2 yX2_harvestsOf yX2_harvestsOf ∈ gT := gT_mem 596 (by decide +kernel) (by decide +kernel)
theorem cw_Fl_mayBeStamped : Cond.code yX2_mayBeStamped cX2_mayBeStamped 4 (some .boolean) ∈ gT := gT_mem 602 (by decide +kernel) (by decide +kernel)
theorem hy_Fl_mayBeStamped : yX2_mayBeStamped.cls ≠ "java/lang/invoke/MethodHandle" ∧ yX2_mayBeStamped.cls ≠ "java/lang/invoke/VarHandle" ∧ (parseMethodDescriptor yX2_mayBeStamped.desc).map (fun d => d.parameters.length) = some 2 := by decide +kernel
theorem im_Fl_mayBeStamped : Cond.instanceMethod yX2_mayBeStamped ∈ gT := gT_mem 600 (by decide +kernel) (by decide +kernel)
theorem se_Fl_mayBeStamped : Cond.selects RX2 yX2_mayBeStamped yX2_mayBeStamped ∈ gT := gT_mem 601 (by decide +kernel) (by decide +kernel)
theorem cw_B_armTells : Cond.code yX9_armTells cX9_armTells 4 (some .int) ∈ gT := gT_mem 585 (by decide +kernel) (by decide +kernel)
theorem hy_B_armTells : yX9_armTells.cls ≠ "java/lang/invoke/MethodHandle" ∧ yX9_armTells.cls ≠ "java/lang/invoke/VarHandle" ∧ (parseMethodDescriptor yX9_armTells.desc).map (fun d => d.parameters.length) = some 2 := by decide +kernel
theorem im_B_armTells : Cond.instanceMethod yX9_armTells ∈ gT := gT_mem 584 (by decide +kernel) (by decide +kernel)
theorem se_B_armTells : Cond.selects RX9 yX9_armTells yX9_armTells ∈ gT := gT_mem 11 (by decide +kernel) (by decide +kernel)
theorem cw_B_arm : Cond.code yX9_arm cX9_arm 3 (some .int) ∈ gT := gT_mem 577 (by decide +kernel) (by decide +kernel)
theorem hy_B_arm : yX9_arm.cls ≠ "java/lang/invoke/MethodHandle" ∧ yX9_arm.cls ≠ "java/lang/invoke/VarHandle" ∧ (parseMethodDescriptor yX9_arm.desc).map (fun d => d.parameters.length) = some 2 := by decide +kernel
theorem im_B_arm : Cond.instanceMethod yX9_arm ∈ gT := gT_mem 575 (by decide +kernel) (by decide +kernel)
theorem se_B_arm : Cond.selects RX9 yX9_arm yX9_arm ∈ gT := gT_mem 576 (by decide +kernel) (by decide +kernel)
theorem cw_B_stepsOfTwo : Cond.code yX9_stepsOfTwo cX9_stepsOfTwo 1 (some .int) ∈ gT := gT_mem 615 (by decide +kernel) (by decide +kernel)
theorem hy_B_stepsOfTwo : yX9_stepsOfTwo.cls ≠ "java/lang/invoke/MethodHandle" ∧ yX9_stepsOfTwo.cls ≠ "java/lang/invoke/VarHandle" ∧ (parseMethodDescriptor yX9_stepsOfTwo.desc).map (fun d => d.parameters.length) = some 1 := by decide +kernel
theorem st_B_stepsOfTwo : Cond.static yX9_stepsOfTwo ∈ gT := gT_mem 614 (by decide +kernel) (by decide +kernel)
theorem cw_J_bitCount : Cond.code yJ6_bitCount_0f7a4 cJ6_bitCount_0f7a4 1 (some .int) ∈ gT := gT_mem 623 (by decide +kernel) (by decide +kernel)
theorem hy_J_bitCount : yJ6_bitCount_0f7a4.cls ≠ "java/lang/invoke/MethodHandle" ∧ yJ6_bitCount_0f7a4.cls ≠ "java/lang/invoke/VarHandle" ∧ (parseMethodDescriptor yJ6_bitCount_0f7a4.desc).map (fun d => d.parameters.length) = some 1 := by decide +kernel
theorem st_J_bitCount : Cond.static yJ6_bitCount_0f7a4 ∈ gT := gT_mem 622 (by decide +kernel) (by decide +kernel)
theorem cw_Ch_waterOf : Cond.code yX0_waterOf cX0_waterOf 6 (some .int) ∈ gT := gT_mem 619 (by decide +kernel) (by decide +kernel)
theorem hy_Ch_waterOf : yX0_waterOf.cls ≠ "java/lang/invoke/MethodHandle" ∧ yX0_waterOf.cls ≠ "java/lang/invoke/VarHandle" ∧ (parseMethodDescriptor yX0_waterOf.desc).map (fun d => d.parameters.length) = some 2 := by decide +kernel
theorem im_Ch_waterOf : Cond.instanceMethod yX0_waterOf ∈ gT := gT_mem 617 (by decide +kernel) (by decide +kernel)
theorem se_Ch_waterOf : Cond.selects RX0 yX0_waterOf yX0_waterOf ∈ gT := gT_mem 618 (by decide +kernel) (by decide +kernel)
theorem cw_Fl_followerOf : Cond.code yX2_followerOf cX2_followerOf 5 (some .int) ∈ gT := gT_mem 630 (by decide +kernel) (by decide +kernel)
theorem hy_Fl_followerOf : yX2_followerOf.cls ≠ "java/lang/invoke/MethodHandle" ∧ yX2_followerOf.cls ≠ "java/lang/invoke/VarHandle" ∧ (parseMethodDescriptor yX2_followerOf.desc).map (fun d => d.parameters.length) = some 2 := by decide +kernel
theorem im_Fl_followerOf : Cond.instanceMethod yX2_followerOf ∈ gT := gT_mem 628 (by decide +kernel) (by decide +kernel)
theorem se_Fl_followerOf : Cond.selects RX2 yX2_followerOf yX2_followerOf ∈ gT := gT_mem 629 (by decide +kernel) (by decide +kernel)
theorem cw_B_markOf : Cond.code yX9_markOf cX9_markOf 4 (some .int) ∈ gT := gT_mem 612 (by decide +kernel) (by decide +kernel)
theorem hy_B_markOf : yX9_markOf.cls ≠ "java/lang/invoke/MethodHandle" ∧ yX9_markOf.cls ≠ "java/lang/invoke/VarHandle" ∧ (parseMethodDescriptor yX9_markOf.desc).map (fun d => d.parameters.length) = some 2 := by decide +kernel
theorem im_B_markOf : Cond.instanceMethod yX9_markOf ∈ gT := gT_mem 611 (by decide +kernel) (by decide +kernel)
theorem se_B_markOf : Cond.selects RX9 yX9_markOf yX9_markOf ∈ gT := gT_mem 12 (by decide +kernel) (by decide +kernel)
theorem cw_B_mark : Cond.code yX9_mark cX9_mark 3 (some .int) ∈ gT := gT_mem 607 (by decide +kernel) (by decide +kernel)
theorem hy_B_mark : yX9_mark.cls ≠ "java/lang/invoke/MethodHandle" ∧ yX9_mark.cls ≠ "java/lang/invoke/VarHandle" ∧ (parseMethodDescriptor yX9_mark.desc).map (fun d => d.parameters.length) = some 2 := by decide +kernel
theorem im_B_mark : Cond.instanceMethod yX9_mark ∈ gT := gT_mem 605 (by decide +kernel) (by decide +kernel)
theorem se_B_mark : Cond.selects RX9 yX9_mark yX9_mark ∈ gT := gT_mem 606 (by decide +kernel) (by decide +kernel)
theorem cw_B_need : Cond.code yX9_need cX9_need 4 (some .int) ∈ gT := gT_mem 635 (by decide +kernel) (by decide +kernel)
theorem hy_B_need : yX9_need.cls ≠ "java/lang/invoke/MethodHandle" ∧ yX9_need.cls ≠ "java/lang/invoke/VarHandle" ∧ (parseMethodDescriptor yX9_need.desc).map (fun d => d.parameters.length) = some 2 := by decide +kernel
theorem im_B_need : Cond.instanceMethod yX9_need ∈ gT := gT_mem 633 (by decide +kernel) (by decide +kernel)
theorem se_B_need : Cond.selects RX9 yX9_need yX9_need ∈ gT := gT_mem 634 (by decide +kernel) (by decide +kernel)
theorem cw_B_withBit : Cond.code yX9_withBit cX9_withBit 3 (some .int) ∈ gT := gT_mem 643 (by decide +kernel) (by decide +kernel)
theorem hy_B_withBit : yX9_withBit.cls ≠ "java/lang/invoke/MethodHandle" ∧ yX9_withBit.cls ≠ "java/lang/invoke/VarHandle" ∧ (parseMethodDescriptor yX9_withBit.desc).map (fun d => d.parameters.length) = some 3 := by decide +kernel
theorem st_B_withBit : Cond.static yX9_withBit ∈ gT := gT_mem 642 (by decide +kernel) (by decide +kernel)
theorem cw_B_awaits : Cond.code yX9_awaits cX9_awaits 5 (some .int) ∈ gT := gT_mem 640 (by decide +kernel) (by decide +kernel)
theorem hy_B_awaits : yX9_awaits.cls ≠ "java/lang/invoke/MethodHandle" ∧ yX9_awaits.cls ≠ "java/lang/invoke/VarHandle" ∧ (parseMethodDescriptor yX9_awaits.desc).map (fun d => d.parameters.length) = some 3 := by decide +kernel
theorem im_B_awaits : Cond.instanceMethod yX9_awaits ∈ gT := gT_mem 638 (by decide +kernel) (by decide +kernel)
theorem se_B_awaits : Cond.selects RX9 yX9_awaits yX9_awaits ∈ gT := gT_mem 639 (by decide +kernel) (by decide +kernel)
theorem cw_St_isFull : Cond.code yX8_isFull cX8_isFull 1 (some .boolean) ∈ gT := gT_mem 651 (by decide +kernel) (by decide +kernel)
theorem hy_St_isFull : yX8_isFull.cls ≠ "java/lang/invoke/MethodHandle" ∧ yX8_isFull.cls ≠ "java/lang/invoke/VarHandle" ∧ (parseMethodDescriptor yX8_isFull.desc).map (fun d => d.parameters.length) = some 0 := by decide +kernel
theorem im_St_isFull : Cond.instanceMethod yX8_isFull ∈ gT := gT_mem 649 (by decide +kernel) (by decide +kernel)
theorem se_St_isFull : Cond.selects RX8 yX8_isFull yX8_isFull ∈ gT := gT_mem 650 (by decide +kernel) (by decide +kernel)
theorem cw_Fl_copyFrom : Cond.code yX2_copyFrom cX2_copyFrom 2 (none) ∈ gT := gT_mem 664 (by decide +kernel) (by decide +kernel)
theorem hy_Fl_copyFrom : yX2_copyFrom.cls ≠ "java/lang/invoke/MethodHandle" ∧ yX2_copyFrom.cls ≠ "java/lang/invoke/VarHandle" ∧ (parseMethodDescriptor yX2_copyFrom.desc).map (fun d => d.parameters.length) = some 1 := by decide +kernel
theorem im_Fl_copyFrom : Cond.instanceMethod yX2_copyFrom ∈ gT := gT_mem 662 (by decide +kernel) (by decide +kernel)
theorem se_Fl_copyFrom : Cond.selects RX2 yX2_copyFrom yX2_copyFrom ∈ gT := gT_mem 663 (by decide +kernel) (by decide +kernel)
theorem cw_St_noteDeed : Cond.code yX8_noteDeed cX8_noteDeed 1 (none) ∈ gT := gT_mem 659 (by decide +kernel) (by decide +kernel)
theorem hy_St_noteDeed : yX8_noteDeed.cls ≠ "java/lang/invoke/MethodHandle" ∧ yX8_noteDeed.cls ≠ "java/lang/invoke/VarHandle" ∧ (parseMethodDescriptor yX8_noteDeed.desc).map (fun d => d.parameters.length) = some 0 := by decide +kernel
theorem im_St_noteDeed : Cond.instanceMethod yX8_noteDeed ∈ gT := gT_mem 657 (by decide +kernel) (by decide +kernel)
theorem se_St_noteDeed : Cond.selects RX8 yX8_noteDeed yX8_noteDeed ∈ gT := gT_mem 658 (by decide +kernel) (by decide +kernel)
theorem cw_Fl_stampArm : Cond.code yX2_stampArm cX2_stampArm 4 (none) ∈ gT := gT_mem 668 (by decide +kernel) (by decide +kernel)
theorem hy_Fl_stampArm : yX2_stampArm.cls ≠ "java/lang/invoke/MethodHandle" ∧ yX2_stampArm.cls ≠ "java/lang/invoke/VarHandle" ∧ (parseMethodDescriptor yX2_stampArm.desc).map (fun d => d.parameters.length) = some 2 := by decide +kernel
theorem im_Fl_stampArm : Cond.instanceMethod yX2_stampArm ∈ gT := gT_mem 666 (by decide +kernel) (by decide +kernel)
theorem se_Fl_stampArm : Cond.selects RX2 yX2_stampArm yX2_stampArm ∈ gT := gT_mem 667 (by decide +kernel) (by decide +kernel)
theorem cw_B_doStamp : Cond.code yX9_doStamp cX9_doStamp 2 (none) ∈ gT := gT_mem 655 (by decide +kernel) (by decide +kernel)
theorem hy_B_doStamp : yX9_doStamp.cls ≠ "java/lang/invoke/MethodHandle" ∧ yX9_doStamp.cls ≠ "java/lang/invoke/VarHandle" ∧ (parseMethodDescriptor yX9_doStamp.desc).map (fun d => d.parameters.length) = some 1 := by decide +kernel
theorem im_B_doStamp : Cond.instanceMethod yX9_doStamp ∈ gT := gT_mem 654 (by decide +kernel) (by decide +kernel)
theorem se_B_doStamp : Cond.selects RX9 yX9_doStamp yX9_doStamp ∈ gT := gT_mem 13 (by decide +kernel) (by decide +kernel)
theorem cw_B_stamp : Cond.code yX9_stamp cX9_stamp 2 (some .int) ∈ gT := gT_mem 647 (by decide +kernel) (by decide +kernel)
theorem hy_B_stamp : yX9_stamp.cls ≠ "java/lang/invoke/MethodHandle" ∧ yX9_stamp.cls ≠ "java/lang/invoke/VarHandle" ∧ (parseMethodDescriptor yX9_stamp.desc).map (fun d => d.parameters.length) = some 1 := by decide +kernel
theorem im_B_stamp : Cond.instanceMethod yX9_stamp ∈ gT := gT_mem 645 (by decide +kernel) (by decide +kernel)
theorem se_B_stamp : Cond.selects RX9 yX9_stamp yX9_stamp ∈ gT := gT_mem 646 (by decide +kernel) (by decide +kernel)
theorem cw_Ch_servedOf : Cond.code yX0_servedOf cX0_servedOf 5 (some .int) ∈ gT := gT_mem 690 (by decide +kernel) (by decide +kernel)
theorem hy_Ch_servedOf : yX0_servedOf.cls ≠ "java/lang/invoke/MethodHandle" ∧ yX0_servedOf.cls ≠ "java/lang/invoke/VarHandle" ∧ (parseMethodDescriptor yX0_servedOf.desc).map (fun d => d.parameters.length) = some 1 := by decide +kernel
theorem im_Ch_servedOf : Cond.instanceMethod yX0_servedOf ∈ gT := gT_mem 688 (by decide +kernel) (by decide +kernel)
theorem se_Ch_servedOf : Cond.selects RX0 yX0_servedOf yX0_servedOf ∈ gT := gT_mem 689 (by decide +kernel) (by decide +kernel)
theorem cw_Fl_harvestable : Cond.code yX2_harvestable cX2_harvestable 4 (some .int) ∈ gT := gT_mem 686 (by decide +kernel) (by decide +kernel)
theorem hy_Fl_harvestable : yX2_harvestable.cls ≠ "java/lang/invoke/MethodHandle" ∧ yX2_harvestable.cls ≠ "java/lang/invoke/VarHandle" ∧ (parseMethodDescriptor yX2_harvestable.desc).map (fun d => d.parameters.length) = some 1 := by decide +kernel
theorem im_Fl_harvestable : Cond.instanceMethod yX2_harvestable ∈ gT := gT_mem 684 (by decide +kernel) (by decide +kernel)
theorem se_Fl_harvestable : Cond.selects RX2 yX2_harvestable yX2_harvestable ∈ gT := gT_mem 685 (by decide +kernel) (by decide +kernel)
theorem cw_Fl_turnSalt : Cond.code yX2_turnSalt cX2_turnSalt 5 (none) ∈ gT := gT_mem 696 (by decide +kernel) (by decide +kernel)
theorem hy_Fl_turnSalt : yX2_turnSalt.cls ≠ "java/lang/invoke/MethodHandle" ∧ yX2_turnSalt.cls ≠ "java/lang/invoke/VarHandle" ∧ (parseMethodDescriptor yX2_turnSalt.desc).map (fun d => d.parameters.length) = some 3 := by decide +kernel
theorem im_Fl_turnSalt : Cond.instanceMethod yX2_turnSalt ∈ gT := gT_mem 695 (by decide +kernel) (by decide +kernel)
theorem se_Fl_turnSalt : Cond.selects RX2 yX2_turnSalt yX2_turnSalt ∈ gT := gT_mem 15 (by decide +kernel) (by decide +kernel)
theorem cw_Fl_dropBarge : Cond.code yX2_dropBarge cX2_dropBarge 2 (none) ∈ gT := gT_mem 707 (by decide +kernel) (by decide +kernel)
theorem hy_Fl_dropBarge : yX2_dropBarge.cls ≠ "java/lang/invoke/MethodHandle" ∧ yX2_dropBarge.cls ≠ "java/lang/invoke/VarHandle" ∧ (parseMethodDescriptor yX2_dropBarge.desc).map (fun d => d.parameters.length) = some 1 := by decide +kernel
theorem im_Fl_dropBarge : Cond.instanceMethod yX2_dropBarge ∈ gT := gT_mem 705 (by decide +kernel) (by decide +kernel)
theorem se_Fl_dropBarge : Cond.selects RX2 yX2_dropBarge yX2_dropBarge ∈ gT := gT_mem 706 (by decide +kernel) (by decide +kernel)
theorem cw_Fl_turnSilt : Cond.code yX2_turnSilt cX2_turnSilt 4 (none) ∈ gT := gT_mem 702 (by decide +kernel) (by decide +kernel)
theorem hy_Fl_turnSilt : yX2_turnSilt.cls ≠ "java/lang/invoke/MethodHandle" ∧ yX2_turnSilt.cls ≠ "java/lang/invoke/VarHandle" ∧ (parseMethodDescriptor yX2_turnSilt.desc).map (fun d => d.parameters.length) = some 2 := by decide +kernel
theorem im_Fl_turnSilt : Cond.instanceMethod yX2_turnSilt ∈ gT := gT_mem 701 (by decide +kernel) (by decide +kernel)
theorem se_Fl_turnSilt : Cond.selects RX2 yX2_turnSilt yX2_turnSilt ∈ gT := gT_mem 16 (by decide +kernel) (by decide +kernel)
theorem cw_Fl_goBy : Cond.code yX2_goBy cX2_goBy 5 (some .int) ∈ gT := gT_mem 682 (by decide +kernel) (by decide +kernel)
theorem hy_Fl_goBy : yX2_goBy.cls ≠ "java/lang/invoke/MethodHandle" ∧ yX2_goBy.cls ≠ "java/lang/invoke/VarHandle" ∧ (parseMethodDescriptor yX2_goBy.desc).map (fun d => d.parameters.length) = some 1 := by decide +kernel
theorem im_Fl_goBy : Cond.instanceMethod yX2_goBy ∈ gT := gT_mem 680 (by decide +kernel) (by decide +kernel)
theorem se_Fl_goBy : Cond.selects RX2 yX2_goBy yX2_goBy ∈ gT := gT_mem 681 (by decide +kernel) (by decide +kernel)
theorem cw_B_doSeason : Cond.code yX9_doSeason cX9_doSeason 1 (some .int) ∈ gT := gT_mem 678 (by decide +kernel) (by decide +kernel)
theorem hy_B_doSeason : yX9_doSeason.cls ≠ "java/lang/invoke/MethodHandle" ∧ yX9_doSeason.cls ≠ "java/lang/invoke/VarHandle" ∧ (parseMethodDescriptor yX9_doSeason.desc).map (fun d => d.parameters.length) = some 0 := by decide +kernel
theorem im_B_doSeason : Cond.instanceMethod yX9_doSeason ∈ gT := gT_mem 677 (by decide +kernel) (by decide +kernel)
theorem se_B_doSeason : Cond.selects RX9 yX9_doSeason yX9_doSeason ∈ gT := gT_mem 14 (by decide +kernel) (by decide +kernel)
theorem cw_B_season : Cond.code yX9_season cX9_season 1 (some .int) ∈ gT := gT_mem 674 (by decide +kernel) (by decide +kernel)
theorem hy_B_season : yX9_season.cls ≠ "java/lang/invoke/MethodHandle" ∧ yX9_season.cls ≠ "java/lang/invoke/VarHandle" ∧ (parseMethodDescriptor yX9_season.desc).map (fun d => d.parameters.length) = some 0 := by decide +kernel
theorem im_B_season : Cond.instanceMethod yX9_season ∈ gT := gT_mem 672 (by decide +kernel) (by decide +kernel)
theorem se_B_season : Cond.selects RX9 yX9_season yX9_season ∈ gT := gT_mem 673 (by decide +kernel) (by decide +kernel)
theorem cw_B_leave : Cond.code yX9_leave cX9_leave 2 (some .int) ∈ gT := gT_mem 712 (by decide +kernel) (by decide +kernel)
theorem hy_B_leave : yX9_leave.cls ≠ "java/lang/invoke/MethodHandle" ∧ yX9_leave.cls ≠ "java/lang/invoke/VarHandle" ∧ (parseMethodDescriptor yX9_leave.desc).map (fun d => d.parameters.length) = some 1 := by decide +kernel
theorem im_B_leave : Cond.instanceMethod yX9_leave ∈ gT := gT_mem 710 (by decide +kernel) (by decide +kernel)
theorem se_B_leave : Cond.selects RX9 yX9_leave yX9_leave ∈ gT := gT_mem 711 (by decide +kernel) (by decide +kernel)
theorem cw_St_goBackTo : Cond.code yX8_goBackTo cX8_goBackTo 2 (none) ∈ gT := gT_mem 722 (by decide +kernel) (by decide +kernel)
theorem hy_St_goBackTo : yX8_goBackTo.cls ≠ "java/lang/invoke/MethodHandle" ∧ yX8_goBackTo.cls ≠ "java/lang/invoke/VarHandle" ∧ (parseMethodDescriptor yX8_goBackTo.desc).map (fun d => d.parameters.length) = some 1 := by decide +kernel
theorem im_St_goBackTo : Cond.instanceMethod yX8_goBackTo ∈ gT := gT_mem 720 (by decide +kernel) (by decide +kernel)
theorem se_St_goBackTo : Cond.selects RX8 yX8_goBackTo yX8_goBackTo ∈ gT := gT_mem 721 (by decide +kernel) (by decide +kernel)
theorem cw_B_undo : Cond.code yX9_undo cX9_undo 3 (some .int) ∈ gT := gT_mem 718 (by decide +kernel) (by decide +kernel)
theorem hy_B_undo : yX9_undo.cls ≠ "java/lang/invoke/MethodHandle" ∧ yX9_undo.cls ≠ "java/lang/invoke/VarHandle" ∧ (parseMethodDescriptor yX9_undo.desc).map (fun d => d.parameters.length) = some 1 := by decide +kernel
theorem im_B_undo : Cond.instanceMethod yX9_undo ∈ gT := gT_mem 716 (by decide +kernel) (by decide +kernel)
theorem se_B_undo : Cond.selects RX9 yX9_undo yX9_undo ∈ gT := gT_mem 717 (by decide +kernel) (by decide +kernel)
theorem cw_B_now : Cond.code yX9_now cX9_now 1 (some .int) ∈ gT := gT_mem 726 (by decide +kernel) (by decide +kernel)
theorem hy_B_now : yX9_now.cls ≠ "java/lang/invoke/MethodHandle" ∧ yX9_now.cls ≠ "java/lang/invoke/VarHandle" ∧ (parseMethodDescriptor yX9_now.desc).map (fun d => d.parameters.length) = some 0 := by decide +kernel
theorem im_B_now : Cond.instanceMethod yX9_now ∈ gT := gT_mem 724 (by decide +kernel) (by decide +kernel)
theorem se_B_now : Cond.selects RX9 yX9_now yX9_now ∈ gT := gT_mem 725 (by decide +kernel) (by decide +kernel)
theorem cw_B_water : Cond.code yX9_water cX9_water 2 (some .int) ∈ gT := gT_mem 730 (by decide +kernel) (by decide +kernel)
theorem hy_B_water : yX9_water.cls ≠ "java/lang/invoke/MethodHandle" ∧ yX9_water.cls ≠ "java/lang/invoke/VarHandle" ∧ (parseMethodDescriptor yX9_water.desc).map (fun d => d.parameters.length) = some 1 := by decide +kernel
theorem im_B_water : Cond.instanceMethod yX9_water ∈ gT := gT_mem 728 (by decide +kernel) (by decide +kernel)
theorem se_B_water : Cond.selects RX9 yX9_water yX9_water ∈ gT := gT_mem 729 (by decide +kernel) (by decide +kernel)
theorem cw_St_copyFrom : Cond.code yX8_copyFrom cX8_copyFrom 3 (none) ∈ gT := gT_mem 738 (by decide +kernel) (by decide +kernel)
theorem hy_St_copyFrom : yX8_copyFrom.cls ≠ "java/lang/invoke/MethodHandle" ∧ yX8_copyFrom.cls ≠ "java/lang/invoke/VarHandle" ∧ (parseMethodDescriptor yX8_copyFrom.desc).map (fun d => d.parameters.length) = some 1 := by decide +kernel
theorem im_St_copyFrom : Cond.instanceMethod yX8_copyFrom ∈ gT := gT_mem 736 (by decide +kernel) (by decide +kernel)
theorem se_St_copyFrom : Cond.selects RX8 yX8_copyFrom yX8_copyFrom ∈ gT := gT_mem 737 (by decide +kernel) (by decide +kernel)
theorem cw_B_keep : Cond.code yX9_keep cX9_keep 2 (some .int) ∈ gT := gT_mem 734 (by decide +kernel) (by decide +kernel)
theorem hy_B_keep : yX9_keep.cls ≠ "java/lang/invoke/MethodHandle" ∧ yX9_keep.cls ≠ "java/lang/invoke/VarHandle" ∧ (parseMethodDescriptor yX9_keep.desc).map (fun d => d.parameters.length) = some 1 := by decide +kernel
theorem im_B_keep : Cond.instanceMethod yX9_keep ∈ gT := gT_mem 732 (by decide +kernel) (by decide +kernel)
theorem se_B_keep : Cond.selects RX9 yX9_keep yX9_keep ∈ gT := gT_mem 733 (by decide +kernel) (by decide +kernel)
theorem cw_B_on : Cond.code yX9_on cX9_on 2 (some .int) ∈ gT := gT_mem 743 (by decide +kernel) (by decide +kernel)
theorem hy_B_on : yX9_on.cls ≠ "java/lang/invoke/MethodHandle" ∧ yX9_on.cls ≠ "java/lang/invoke/VarHandle" ∧ (parseMethodDescriptor yX9_on.desc).map (fun d => d.parameters.length) = some 1 := by decide +kernel
theorem im_B_on : Cond.instanceMethod yX9_on ∈ gT := gT_mem 741 (by decide +kernel) (by decide +kernel)
theorem se_B_on : Cond.selects RX9 yX9_on yX9_on ∈ gT := gT_mem 742 (by decide +kernel) (by decide +kernel)
theorem cw_B_deltaRowRefusal : Cond.code yX9_deltaRowRefusal cX9_deltaRowRefusal 2 (some .int) ∈ gT := gT_mem 751 (by decide +kernel) (by decide +kernel)
theorem hy_B_deltaRowRefusal : yX9_deltaRowRefusal.cls ≠ "java/lang/invoke/MethodHandle" ∧ yX9_deltaRowRefusal.cls ≠ "java/lang/invoke/VarHandle" ∧ (parseMethodDescriptor yX9_deltaRowRefusal.desc).map (fun d => d.parameters.length) = some 1 := by decide +kernel
theorem im_B_deltaRowRefusal : Cond.instanceMethod yX9_deltaRowRefusal ∈ gT := gT_mem 750 (by decide +kernel) (by decide +kernel)
theorem se_B_deltaRowRefusal : Cond.selects RX9 yX9_deltaRowRefusal yX9_deltaRowRefusal ∈ gT := gT_mem 17 (by decide +kernel) (by decide +kernel)
theorem cw_Ch_sets : Cond.code yX0_sets cX0_sets 1 (some .int) ∈ gT := gT_mem 759 (by decide +kernel) (by decide +kernel)
theorem hy_Ch_sets : yX0_sets.cls ≠ "java/lang/invoke/MethodHandle" ∧ yX0_sets.cls ≠ "java/lang/invoke/VarHandle" ∧ (parseMethodDescriptor yX0_sets.desc).map (fun d => d.parameters.length) = some 0 := by decide +kernel
theorem im_Ch_sets : Cond.instanceMethod yX0_sets ∈ gT := gT_mem 757 (by decide +kernel) (by decide +kernel)
theorem se_Ch_sets : Cond.selects RX0 yX0_sets yX0_sets ∈ gT := gT_mem 758 (by decide +kernel) (by decide +kernel)
theorem cw_B_isPlan : Cond.code yX9_isPlan cX9_isPlan 4 (some .boolean) ∈ gT := gT_mem 755 (by decide +kernel) (by decide +kernel)
theorem hy_B_isPlan : yX9_isPlan.cls ≠ "java/lang/invoke/MethodHandle" ∧ yX9_isPlan.cls ≠ "java/lang/invoke/VarHandle" ∧ (parseMethodDescriptor yX9_isPlan.desc).map (fun d => d.parameters.length) = some 1 := by decide +kernel
theorem im_B_isPlan : Cond.instanceMethod yX9_isPlan ∈ gT := gT_mem 754 (by decide +kernel) (by decide +kernel)
theorem se_B_isPlan : Cond.selects RX9 yX9_isPlan yX9_isPlan ∈ gT := gT_mem 18 (by decide +kernel) (by decide +kernel)
theorem cw_Fl_stampSet : Cond.code yX2_stampSet cX2_stampSet 5 (some .int) ∈ gT := gT_mem 764 (by decide +kernel) (by decide +kernel)
theorem hy_Fl_stampSet : yX2_stampSet.cls ≠ "java/lang/invoke/MethodHandle" ∧ yX2_stampSet.cls ≠ "java/lang/invoke/VarHandle" ∧ (parseMethodDescriptor yX2_stampSet.desc).map (fun d => d.parameters.length) = some 2 := by decide +kernel
theorem im_Fl_stampSet : Cond.instanceMethod yX2_stampSet ∈ gT := gT_mem 762 (by decide +kernel) (by decide +kernel)
theorem se_Fl_stampSet : Cond.selects RX2 yX2_stampSet yX2_stampSet ∈ gT := gT_mem 763 (by decide +kernel) (by decide +kernel)
theorem cw_B_run : Cond.code yX9_run cX9_run 6 (some .int) ∈ gT := gT_mem 747 (by decide +kernel) (by decide +kernel)
theorem hy_B_run : yX9_run.cls ≠ "java/lang/invoke/MethodHandle" ∧ yX9_run.cls ≠ "java/lang/invoke/VarHandle" ∧ (parseMethodDescriptor yX9_run.desc).map (fun d => d.parameters.length) = some 1 := by decide +kernel
theorem im_B_run : Cond.instanceMethod yX9_run ∈ gT := gT_mem 745 (by decide +kernel) (by decide +kernel)
theorem se_B_run : Cond.selects RX9 yX9_run yX9_run ∈ gT := gT_mem 746 (by decide +kernel) (by decide +kernel)
theorem cw_Pl_mostServed : Cond.code yX5_mostServed cX5_mostServed 5 (some .int) ∈ gT := gT_mem 779 (by decide +kernel) (by decide +kernel)
theorem hy_Pl_mostServed : yX5_mostServed.cls ≠ "java/lang/invoke/MethodHandle" ∧ yX5_mostServed.cls ≠ "java/lang/invoke/VarHandle" ∧ (parseMethodDescriptor yX5_mostServed.desc).map (fun d => d.parameters.length) = some 0 := by decide +kernel
theorem im_Pl_mostServed : Cond.instanceMethod yX5_mostServed ∈ gT := gT_mem 778 (by decide +kernel) (by decide +kernel)
theorem se_Pl_mostServed : Cond.selects RX5 yX5_mostServed yX5_mostServed ∈ gT := gT_mem 19 (by decide +kernel) (by decide +kernel)
theorem cw_Pl_canWin : Cond.code yX5_canWin cX5_canWin 3 (some .boolean) ∈ gT := gT_mem 795 (by decide +kernel) (by decide +kernel)
theorem hy_Pl_canWin : yX5_canWin.cls ≠ "java/lang/invoke/MethodHandle" ∧ yX5_canWin.cls ≠ "java/lang/invoke/VarHandle" ∧ (parseMethodDescriptor yX5_canWin.desc).map (fun d => d.parameters.length) = some 2 := by decide +kernel
theorem im_Pl_canWin : Cond.instanceMethod yX5_canWin ∈ gT := gT_mem 794 (by decide +kernel) (by decide +kernel)
theorem se_Pl_canWin : Cond.selects RX5 yX5_canWin yX5_canWin ∈ gT := gT_mem 21 (by decide +kernel) (by decide +kernel)
theorem cw_Pl_judge : Cond.code yX5_judge cX5_judge 3 (none) ∈ gT := gT_mem 791 (by decide +kernel) (by decide +kernel)
theorem hy_Pl_judge : yX5_judge.cls ≠ "java/lang/invoke/MethodHandle" ∧ yX5_judge.cls ≠ "java/lang/invoke/VarHandle" ∧ (parseMethodDescriptor yX5_judge.desc).map (fun d => d.parameters.length) = some 2 := by decide +kernel
theorem im_Pl_judge : Cond.instanceMethod yX5_judge ∈ gT := gT_mem 790 (by decide +kernel) (by decide +kernel)
theorem se_Pl_judge : Cond.selects RX5 yX5_judge yX5_judge ∈ gT := gT_mem 20 (by decide +kernel) (by decide +kernel)
theorem cw_Pl_worthOf : Cond.code yX5_worthOf cX5_worthOf 3 (some .int) ∈ gT := gT_mem 802 (by decide +kernel) (by decide +kernel)
theorem hy_Pl_worthOf : yX5_worthOf.cls ≠ "java/lang/invoke/MethodHandle" ∧ yX5_worthOf.cls ≠ "java/lang/invoke/VarHandle" ∧ (parseMethodDescriptor yX5_worthOf.desc).map (fun d => d.parameters.length) = some 2 := by decide +kernel
theorem im_Pl_worthOf : Cond.instanceMethod yX5_worthOf ∈ gT := gT_mem 801 (by decide +kernel) (by decide +kernel)
theorem se_Pl_worthOf : Cond.selects RX5 yX5_worthOf yX5_worthOf ∈ gT := gT_mem 22 (by decide +kernel) (by decide +kernel)
theorem cw_Pl_hopeOf : Cond.code yX5_hopeOf cX5_hopeOf 5 (some .int) ∈ gT := gT_mem 807 (by decide +kernel) (by decide +kernel)
theorem hy_Pl_hopeOf : yX5_hopeOf.cls ≠ "java/lang/invoke/MethodHandle" ∧ yX5_hopeOf.cls ≠ "java/lang/invoke/VarHandle" ∧ (parseMethodDescriptor yX5_hopeOf.desc).map (fun d => d.parameters.length) = some 2 := by decide +kernel
theorem im_Pl_hopeOf : Cond.instanceMethod yX5_hopeOf ∈ gT := gT_mem 806 (by decide +kernel) (by decide +kernel)
theorem se_Pl_hopeOf : Cond.selects RX5 yX5_hopeOf yX5_hopeOf ∈ gT := gT_mem 23 (by decide +kernel) (by decide +kernel)
theorem cw_Pl_search : Cond.code yX5_search cX5_search 8 (none) ∈ gT := gT_mem 787 (by decide +kernel) (by decide +kernel)
theorem hy_Pl_search : yX5_search.cls ≠ "java/lang/invoke/MethodHandle" ∧ yX5_search.cls ≠ "java/lang/invoke/VarHandle" ∧ (parseMethodDescriptor yX5_search.desc).map (fun d => d.parameters.length) = some 4 := by decide +kernel
theorem st_Pl_search : Cond.static yX5_search ∈ gT := gT_mem 786 (by decide +kernel) (by decide +kernel)
theorem cw_Pl_seek : Cond.code yX5_seek cX5_seek 4 (none) ∈ gT := gT_mem 774 (by decide +kernel) (by decide +kernel)
theorem hy_Pl_seek : yX5_seek.cls ≠ "java/lang/invoke/MethodHandle" ∧ yX5_seek.cls ≠ "java/lang/invoke/VarHandle" ∧ (parseMethodDescriptor yX5_seek.desc).map (fun d => d.parameters.length) = some 3 := by decide +kernel
theorem im_Pl_seek : Cond.instanceMethod yX5_seek ∈ gT := gT_mem 772 (by decide +kernel) (by decide +kernel)
theorem se_Pl_seek : Cond.selects RX5 yX5_seek yX5_seek ∈ gT := gT_mem 773 (by decide +kernel) (by decide +kernel)
theorem cw_B_takePlan : Cond.code yX9_takePlan cX9_takePlan 4 (none) ∈ gT := gT_mem 812 (by decide +kernel) (by decide +kernel)
theorem hy_B_takePlan : yX9_takePlan.cls ≠ "java/lang/invoke/MethodHandle" ∧ yX9_takePlan.cls ≠ "java/lang/invoke/VarHandle" ∧ (parseMethodDescriptor yX9_takePlan.desc).map (fun d => d.parameters.length) = some 2 := by decide +kernel
theorem im_B_takePlan : Cond.instanceMethod yX9_takePlan ∈ gT := gT_mem 811 (by decide +kernel) (by decide +kernel)
theorem se_B_takePlan : Cond.selects RX9 yX9_takePlan yX9_takePlan ∈ gT := gT_mem 24 (by decide +kernel) (by decide +kernel)
theorem cw_B_best : Cond.code yX9_best cX9_best 3 (some .int) ∈ gT := gT_mem 770 (by decide +kernel) (by decide +kernel)
theorem hy_B_best : yX9_best.cls ≠ "java/lang/invoke/MethodHandle" ∧ yX9_best.cls ≠ "java/lang/invoke/VarHandle" ∧ (parseMethodDescriptor yX9_best.desc).map (fun d => d.parameters.length) = some 2 := by decide +kernel
theorem im_B_best : Cond.instanceMethod yX9_best ∈ gT := gT_mem 768 (by decide +kernel) (by decide +kernel)
theorem se_B_best : Cond.selects RX9 yX9_best yX9_best ∈ gT := gT_mem 769 (by decide +kernel) (by decide +kernel)
theorem cw_B_fewest : Cond.code yX9_fewest cX9_fewest 4 (some .int) ∈ gT := gT_mem 816 (by decide +kernel) (by decide +kernel)
theorem hy_B_fewest : yX9_fewest.cls ≠ "java/lang/invoke/MethodHandle" ∧ yX9_fewest.cls ≠ "java/lang/invoke/VarHandle" ∧ (parseMethodDescriptor yX9_fewest.desc).map (fun d => d.parameters.length) = some 3 := by decide +kernel
theorem im_B_fewest : Cond.instanceMethod yX9_fewest ∈ gT := gT_mem 814 (by decide +kernel) (by decide +kernel)
theorem se_B_fewest : Cond.selects RX9 yX9_fewest yX9_fewest ∈ gT := gT_mem 815 (by decide +kernel) (by decide +kernel)
theorem cw_B_firstOf : Cond.code yX9_firstOf cX9_firstOf 2 (some .int) ∈ gT := gT_mem 823 (by decide +kernel) (by decide +kernel)
theorem hy_B_firstOf : yX9_firstOf.cls ≠ "java/lang/invoke/MethodHandle" ∧ yX9_firstOf.cls ≠ "java/lang/invoke/VarHandle" ∧ (parseMethodDescriptor yX9_firstOf.desc).map (fun d => d.parameters.length) = some 1 := by decide +kernel
theorem st_B_firstOf : Cond.static yX9_firstOf ∈ gT := gT_mem 822 (by decide +kernel) (by decide +kernel)
theorem cw_B_dies : Cond.code yX9_dies cX9_dies 4 (some .int) ∈ gT := gT_mem 820 (by decide +kernel) (by decide +kernel)
theorem hy_B_dies : yX9_dies.cls ≠ "java/lang/invoke/MethodHandle" ∧ yX9_dies.cls ≠ "java/lang/invoke/VarHandle" ∧ (parseMethodDescriptor yX9_dies.desc).map (fun d => d.parameters.length) = some 0 := by decide +kernel
theorem im_B_dies : Cond.instanceMethod yX9_dies ∈ gT := gT_mem 818 (by decide +kernel) (by decide +kernel)
theorem se_B_dies : Cond.selects RX9 yX9_dies yX9_dies ∈ gT := gT_mem 819 (by decide +kernel) (by decide +kernel)
theorem cw_Fl_harvestsOfSeasons : Cond.code yX2_harvestsOfSeasons cX2_harvestsOfSeasons 5 (some .int) ∈ gT := gT_mem 831 (by decide +kernel) (by decide +kernel)
theorem hy_Fl_harvestsOfSeasons : yX2_harvestsOfSeasons.cls ≠ "java/lang/invoke/MethodHandle" ∧ yX2_harvestsOfSeasons.cls ≠ "java/lang/invoke/VarHandle" ∧ (parseMethodDescriptor yX2_harvestsOfSeasons.desc).map (fun d => d.parameters.length) = some 2 := by decide +kernel
theorem im_Fl_harvestsOfSeasons : Cond.instanceMethod yX2_harvestsOfSeasons ∈ gT := gT_mem 829 (by decide +kernel) (by decide +kernel)
theorem se_Fl_harvestsOfSeasons : Cond.selects RX2 yX2_harvestsOfSeasons yX2_harvestsOfSeasons ∈ gT := gT_mem 830 (by decide +kernel) (by decide +kernel)
theorem cw_B_barge : Cond.code yX9_barge cX9_barge 5 (some .int) ∈ gT := gT_mem 827 (by decide +kernel) (by decide +kernel)
theorem hy_B_barge : yX9_barge.cls ≠ "java/lang/invoke/MethodHandle" ∧ yX9_barge.cls ≠ "java/lang/invoke/VarHandle" ∧ (parseMethodDescriptor yX9_barge.desc).map (fun d => d.parameters.length) = some 2 := by decide +kernel
theorem im_B_barge : Cond.instanceMethod yX9_barge ∈ gT := gT_mem 825 (by decide +kernel) (by decide +kernel)
theorem se_B_barge : Cond.selects RX9 yX9_barge yX9_barge ∈ gT := gT_mem 826 (by decide +kernel) (by decide +kernel)
theorem cw_B_armRowRefusal : Cond.code yX9_armRowRefusal cX9_armRowRefusal 3 (some .int) ∈ gT := gT_mem 841 (by decide +kernel) (by decide +kernel)
theorem hy_B_armRowRefusal : yX9_armRowRefusal.cls ≠ "java/lang/invoke/MethodHandle" ∧ yX9_armRowRefusal.cls ≠ "java/lang/invoke/VarHandle" ∧ (parseMethodDescriptor yX9_armRowRefusal.desc).map (fun d => d.parameters.length) = some 1 := by decide +kernel
theorem im_B_armRowRefusal : Cond.instanceMethod yX9_armRowRefusal ∈ gT := gT_mem 840 (by decide +kernel) (by decide +kernel)
theorem se_B_armRowRefusal : Cond.selects RX9 yX9_armRowRefusal yX9_armRowRefusal ∈ gT := gT_mem 25 (by decide +kernel) (by decide +kernel)
theorem cw_B_stampedToFit : Cond.code yX9_stampedToFit cX9_stampedToFit 5 (some .int) ∈ gT := gT_mem 845 (by decide +kernel) (by decide +kernel)
theorem hy_B_stampedToFit : yX9_stampedToFit.cls ≠ "java/lang/invoke/MethodHandle" ∧ yX9_stampedToFit.cls ≠ "java/lang/invoke/VarHandle" ∧ (parseMethodDescriptor yX9_stampedToFit.desc).map (fun d => d.parameters.length) = some 2 := by decide +kernel
theorem im_B_stampedToFit : Cond.instanceMethod yX9_stampedToFit ∈ gT := gT_mem 844 (by decide +kernel) (by decide +kernel)
theorem se_B_stampedToFit : Cond.selects RX9 yX9_stampedToFit yX9_stampedToFit ∈ gT := gT_mem 26 (by decide +kernel) (by decide +kernel)
theorem cw_B_fits : Cond.code yX9_fits cX9_fits 6 (some .int) ∈ gT := gT_mem 837 (by decide +kernel) (by decide +kernel)
theorem hy_B_fits : yX9_fits.cls ≠ "java/lang/invoke/MethodHandle" ∧ yX9_fits.cls ≠ "java/lang/invoke/VarHandle" ∧ (parseMethodDescriptor yX9_fits.desc).map (fun d => d.parameters.length) = some 1 := by decide +kernel
theorem im_B_fits : Cond.instanceMethod yX9_fits ∈ gT := gT_mem 835 (by decide +kernel) (by decide +kernel)
theorem se_B_fits : Cond.selects RX9 yX9_fits yX9_fits ∈ gT := gT_mem 836 (by decide +kernel) (by decide +kernel)
theorem cw_B_opened : Cond.code yX9_opened cX9_opened 6 (some .int) ∈ gT := gT_mem 849 (by decide +kernel) (by decide +kernel)
theorem hy_B_opened : yX9_opened.cls ≠ "java/lang/invoke/MethodHandle" ∧ yX9_opened.cls ≠ "java/lang/invoke/VarHandle" ∧ (parseMethodDescriptor yX9_opened.desc).map (fun d => d.parameters.length) = some 1 := by decide +kernel
theorem im_B_opened : Cond.instanceMethod yX9_opened ∈ gT := gT_mem 847 (by decide +kernel) (by decide +kernel)
theorem se_B_opened : Cond.selects RX9 yX9_opened yX9_opened ∈ gT := gT_mem 848 (by decide +kernel) (by decide +kernel)
theorem cw_De_mostGroupsWithin : Cond.code yX1_mostGroupsWithin cX1_mostGroupsWithin 5 (some .int) ∈ gT := gT_mem 866 (by decide +kernel) (by decide +kernel)
theorem hy_De_mostGroupsWithin : yX1_mostGroupsWithin.cls ≠ "java/lang/invoke/MethodHandle" ∧ yX1_mostGroupsWithin.cls ≠ "java/lang/invoke/VarHandle" ∧ (parseMethodDescriptor yX1_mostGroupsWithin.desc).map (fun d => d.parameters.length) = some 2 := by decide +kernel
theorem im_De_mostGroupsWithin : Cond.instanceMethod yX1_mostGroupsWithin ∈ gT := gT_mem 865 (by decide +kernel) (by decide +kernel)
theorem se_De_mostGroupsWithin : Cond.selects RX1 yX1_mostGroupsWithin yX1_mostGroupsWithin ∈ gT := gT_mem 27 (by decide +kernel) (by decide +kernel)
theorem cw_De_fewestPayments : Cond.code yX1_fewestPayments cX1_fewestPayments 7 (some .int) ∈ gT := gT_mem 857 (by decide +kernel) (by decide +kernel)
theorem hy_De_fewestPayments : yX1_fewestPayments.cls ≠ "java/lang/invoke/MethodHandle" ∧ yX1_fewestPayments.cls ≠ "java/lang/invoke/VarHandle" ∧ (parseMethodDescriptor yX1_fewestPayments.desc).map (fun d => d.parameters.length) = some 2 := by decide +kernel
theorem im_De_fewestPayments : Cond.instanceMethod yX1_fewestPayments ∈ gT := gT_mem 855 (by decide +kernel) (by decide +kernel)
theorem se_De_fewestPayments : Cond.selects RX1 yX1_fewestPayments yX1_fewestPayments ∈ gT := gT_mem 856 (by decide +kernel) (by decide +kernel)
theorem cw_B_settle : Cond.code yX9_settle cX9_settle 3 (some .int) ∈ gT := gT_mem 853 (by decide +kernel) (by decide +kernel)
theorem hy_B_settle : yX9_settle.cls ≠ "java/lang/invoke/MethodHandle" ∧ yX9_settle.cls ≠ "java/lang/invoke/VarHandle" ∧ (parseMethodDescriptor yX9_settle.desc).map (fun d => d.parameters.length) = some 1 := by decide +kernel
theorem im_B_settle : Cond.instanceMethod yX9_settle ∈ gT := gT_mem 851 (by decide +kernel) (by decide +kernel)
theorem se_B_settle : Cond.selects RX9 yX9_settle yX9_settle ∈ gT := gT_mem 852 (by decide +kernel) (by decide +kernel)
theorem cw_Ch_countWaits : Cond.code yX0_countWaits cX0_countWaits 3 (some .int) ∈ gT := gT_mem 875 (by decide +kernel) (by decide +kernel)
theorem hy_Ch_countWaits : yX0_countWaits.cls ≠ "java/lang/invoke/MethodHandle" ∧ yX0_countWaits.cls ≠ "java/lang/invoke/VarHandle" ∧ (parseMethodDescriptor yX0_countWaits.desc).map (fun d => d.parameters.length) = some 0 := by decide +kernel
theorem im_Ch_countWaits : Cond.instanceMethod yX0_countWaits ∈ gT := gT_mem 873 (by decide +kernel) (by decide +kernel)
theorem se_Ch_countWaits : Cond.selects RX0 yX0_countWaits yX0_countWaits ∈ gT := gT_mem 874 (by decide +kernel) (by decide +kernel)
theorem cw_Of_waitingForThemselves : Cond.code yX4_waitingForThemselves cX4_waitingForThemselves 3 (some .int) ∈ gT := gT_mem 879 (by decide +kernel) (by decide +kernel)
theorem hy_Of_waitingForThemselves : yX4_waitingForThemselves.cls ≠ "java/lang/invoke/MethodHandle" ∧ yX4_waitingForThemselves.cls ≠ "java/lang/invoke/VarHandle" ∧ (parseMethodDescriptor yX4_waitingForThemselves.desc).map (fun d => d.parameters.length) = some 0 := by decide +kernel
theorem im_Of_waitingForThemselves : Cond.instanceMethod yX4_waitingForThemselves ∈ gT := gT_mem 877 (by decide +kernel) (by decide +kernel)
theorem se_Of_waitingForThemselves : Cond.selects RX4 yX4_waitingForThemselves yX4_waitingForThemselves ∈ gT := gT_mem 878 (by decide +kernel) (by decide +kernel)
theorem cw_B_stalled : Cond.code yX9_stalled cX9_stalled 1 (some .int) ∈ gT := gT_mem 871 (by decide +kernel) (by decide +kernel)
theorem hy_B_stalled : yX9_stalled.cls ≠ "java/lang/invoke/MethodHandle" ∧ yX9_stalled.cls ≠ "java/lang/invoke/VarHandle" ∧ (parseMethodDescriptor yX9_stalled.desc).map (fun d => d.parameters.length) = some 0 := by decide +kernel
theorem im_B_stalled : Cond.instanceMethod yX9_stalled ∈ gT := gT_mem 869 (by decide +kernel) (by decide +kernel)
theorem se_B_stalled : Cond.selects RX9 yX9_stalled yX9_stalled ∈ gT := gT_mem 870 (by decide +kernel) (by decide +kernel)
theorem cw_Of_bitOf : Cond.code yX4_bitOf cX4_bitOf 1 (some .long) ∈ gT := gT_mem 897 (by decide +kernel) (by decide +kernel)
theorem hy_Of_bitOf : yX4_bitOf.cls ≠ "java/lang/invoke/MethodHandle" ∧ yX4_bitOf.cls ≠ "java/lang/invoke/VarHandle" ∧ (parseMethodDescriptor yX4_bitOf.desc).map (fun d => d.parameters.length) = some 1 := by decide +kernel
theorem st_Of_bitOf : Cond.static yX4_bitOf ∈ gT := gT_mem 896 (by decide +kernel) (by decide +kernel)
theorem cw_Of_waitsLoosened : Cond.code yX4_waitsLoosened cX4_waitsLoosened 6 (some .long) ∈ gT := gT_mem 894 (by decide +kernel) (by decide +kernel)
theorem hy_Of_waitsLoosened : yX4_waitsLoosened.cls ≠ "java/lang/invoke/MethodHandle" ∧ yX4_waitsLoosened.cls ≠ "java/lang/invoke/VarHandle" ∧ (parseMethodDescriptor yX4_waitsLoosened.desc).map (fun d => d.parameters.length) = some 2 := by decide +kernel
theorem im_Of_waitsLoosened : Cond.instanceMethod yX4_waitsLoosened ∈ gT := gT_mem 893 (by decide +kernel) (by decide +kernel)
theorem se_Of_waitsLoosened : Cond.selects RX4 yX4_waitsLoosened yX4_waitsLoosened ∈ gT := gT_mem 28 (by decide +kernel) (by decide +kernel)
theorem cw_JL_bitCount : Cond.code yJ13_bitCount_95d88 cJ13_bitCount_95d88 2 (some .int) ∈ gT := gT_mem 903 (by decide +kernel) (by decide +kernel)
theorem hy_JL_bitCount : yJ13_bitCount_95d88.cls ≠ "java/lang/invoke/MethodHandle" ∧ yJ13_bitCount_95d88.cls ≠ "java/lang/invoke/VarHandle" ∧ (parseMethodDescriptor yJ13_bitCount_95d88.desc).map (fun d => d.parameters.length) = some 1 := by decide +kernel
theorem st_JL_bitCount : Cond.static yJ13_bitCount_95d88 ∈ gT := gT_mem 902 (by decide +kernel) (by decide +kernel)
theorem cw_Of_isBetter : Cond.code yX4_isBetter cX4_isBetter 6 (some .boolean) ∈ gT := gT_mem 900 (by decide +kernel) (by decide +kernel)
theorem hy_Of_isBetter : yX4_isBetter.cls ≠ "java/lang/invoke/MethodHandle" ∧ yX4_isBetter.cls ≠ "java/lang/invoke/VarHandle" ∧ (parseMethodDescriptor yX4_isBetter.desc).map (fun d => d.parameters.length) = some 2 := by decide +kernel
theorem st_Of_isBetter : Cond.static yX4_isBetter ∈ gT := gT_mem 899 (by decide +kernel) (by decide +kernel)
theorem cw_Of_fewestToLoosen : Cond.code yX4_fewestToLoosen cX4_fewestToLoosen 7 (some .long) ∈ gT := gT_mem 889 (by decide +kernel) (by decide +kernel)
theorem hy_Of_fewestToLoosen : yX4_fewestToLoosen.cls ≠ "java/lang/invoke/MethodHandle" ∧ yX4_fewestToLoosen.cls ≠ "java/lang/invoke/VarHandle" ∧ (parseMethodDescriptor yX4_fewestToLoosen.desc).map (fun d => d.parameters.length) = some 0 := by decide +kernel
theorem im_Of_fewestToLoosen : Cond.instanceMethod yX4_fewestToLoosen ∈ gT := gT_mem 887 (by decide +kernel) (by decide +kernel)
theorem se_Of_fewestToLoosen : Cond.selects RX4 yX4_fewestToLoosen yX4_fewestToLoosen ∈ gT := gT_mem 888 (by decide +kernel) (by decide +kernel)
theorem cw_B_loosen : Cond.code yX9_loosen cX9_loosen 7 (some .int) ∈ gT := gT_mem 885 (by decide +kernel) (by decide +kernel)
theorem hy_B_loosen : yX9_loosen.cls ≠ "java/lang/invoke/MethodHandle" ∧ yX9_loosen.cls ≠ "java/lang/invoke/VarHandle" ∧ (parseMethodDescriptor yX9_loosen.desc).map (fun d => d.parameters.length) = some 1 := by decide +kernel
theorem im_B_loosen : Cond.instanceMethod yX9_loosen ∈ gT := gT_mem 883 (by decide +kernel) (by decide +kernel)
theorem se_B_loosen : Cond.selects RX9 yX9_loosen yX9_loosen ∈ gT := gT_mem 884 (by decide +kernel) (by decide +kernel)
theorem cw_B_eels : Cond.code yX9_eels cX9_eels 6 (some .int) ∈ gT := gT_mem 912 (by decide +kernel) (by decide +kernel)
theorem hy_B_eels : yX9_eels.cls ≠ "java/lang/invoke/MethodHandle" ∧ yX9_eels.cls ≠ "java/lang/invoke/VarHandle" ∧ (parseMethodDescriptor yX9_eels.desc).map (fun d => d.parameters.length) = some 2 := by decide +kernel
theorem im_B_eels : Cond.instanceMethod yX9_eels ∈ gT := gT_mem 910 (by decide +kernel) (by decide +kernel)
theorem se_B_eels : Cond.selects RX9 yX9_eels yX9_eels ∈ gT := gT_mem 911 (by decide +kernel) (by decide +kernel)
theorem cw_Fl_stampable : Cond.code yX2_stampable cX2_stampable 4 (some .int) ∈ gT := gT_mem 922 (by decide +kernel) (by decide +kernel)
theorem hy_Fl_stampable : yX2_stampable.cls ≠ "java/lang/invoke/MethodHandle" ∧ yX2_stampable.cls ≠ "java/lang/invoke/VarHandle" ∧ (parseMethodDescriptor yX2_stampable.desc).map (fun d => d.parameters.length) = some 1 := by decide +kernel
theorem im_Fl_stampable : Cond.instanceMethod yX2_stampable ∈ gT := gT_mem 920 (by decide +kernel) (by decide +kernel)
theorem se_Fl_stampable : Cond.selects RX2 yX2_stampable yX2_stampable ∈ gT := gT_mem 921 (by decide +kernel) (by decide +kernel)
theorem cw_B_tellChances : Cond.code yX9_tellChances cX9_tellChances 6 (none) ∈ gT := gT_mem 927 (by decide +kernel) (by decide +kernel)
theorem hy_B_tellChances : yX9_tellChances.cls ≠ "java/lang/invoke/MethodHandle" ∧ yX9_tellChances.cls ≠ "java/lang/invoke/VarHandle" ∧ (parseMethodDescriptor yX9_tellChances.desc).map (fun d => d.parameters.length) = some 2 := by decide +kernel
theorem im_B_tellChances : Cond.instanceMethod yX9_tellChances ∈ gT := gT_mem 926 (by decide +kernel) (by decide +kernel)
theorem se_B_tellChances : Cond.selects RX9 yX9_tellChances yX9_tellChances ∈ gT := gT_mem 29 (by decide +kernel) (by decide +kernel)
theorem cw_B_odds : Cond.code yX9_odds cX9_odds 6 (some .int) ∈ gT := gT_mem 918 (by decide +kernel) (by decide +kernel)
theorem hy_B_odds : yX9_odds.cls ≠ "java/lang/invoke/MethodHandle" ∧ yX9_odds.cls ≠ "java/lang/invoke/VarHandle" ∧ (parseMethodDescriptor yX9_odds.desc).map (fun d => d.parameters.length) = some 1 := by decide +kernel
theorem im_B_odds : Cond.instanceMethod yX9_odds ∈ gT := gT_mem 916 (by decide +kernel) (by decide +kernel)
theorem se_B_odds : Cond.selects RX9 yX9_odds yX9_odds ∈ gT := gT_mem 917 (by decide +kernel) (by decide +kernel)
theorem cw_B_doStamps : Cond.code yX9_doStamps cX9_doStamps 3 (none) ∈ gT := gT_mem 938 (by decide +kernel) (by decide +kernel)
theorem hy_B_doStamps : yX9_doStamps.cls ≠ "java/lang/invoke/MethodHandle" ∧ yX9_doStamps.cls ≠ "java/lang/invoke/VarHandle" ∧ (parseMethodDescriptor yX9_doStamps.desc).map (fun d => d.parameters.length) = some 1 := by decide +kernel
theorem im_B_doStamps : Cond.instanceMethod yX9_doStamps ∈ gT := gT_mem 937 (by decide +kernel) (by decide +kernel)
theorem se_B_doStamps : Cond.selects RX9 yX9_doStamps yX9_doStamps ∈ gT := gT_mem 30 (by decide +kernel) (by decide +kernel)
theorem cw_B_lots : Cond.code yX9_lots cX9_lots 7 (some .int) ∈ gT := gT_mem 931 (by decide +kernel) (by decide +kernel)
theorem hy_B_lots : yX9_lots.cls ≠ "java/lang/invoke/MethodHandle" ∧ yX9_lots.cls ≠ "java/lang/invoke/VarHandle" ∧ (parseMethodDescriptor yX9_lots.desc).map (fun d => d.parameters.length) = some 2 := by decide +kernel
theorem im_B_lots : Cond.instanceMethod yX9_lots ∈ gT := gT_mem 929 (by decide +kernel) (by decide +kernel)
theorem se_B_lots : Cond.selects RX9 yX9_lots yX9_lots ∈ gT := gT_mem 930 (by decide +kernel) (by decide +kernel)
theorem cw_B_asked : Cond.code yX9_asked cX9_asked 1 (some .int) ∈ gT := gT_mem 942 (by decide +kernel) (by decide +kernel)
theorem hy_B_asked : yX9_asked.cls ≠ "java/lang/invoke/MethodHandle" ∧ yX9_asked.cls ≠ "java/lang/invoke/VarHandle" ∧ (parseMethodDescriptor yX9_asked.desc).map (fun d => d.parameters.length) = some 0 := by decide +kernel
theorem im_B_asked : Cond.instanceMethod yX9_asked ∈ gT := gT_mem 940 (by decide +kernel) (by decide +kernel)
theorem se_B_asked : Cond.selects RX9 yX9_asked yX9_asked ∈ gT := gT_mem 941 (by decide +kernel) (by decide +kernel)
theorem cw_B_upper : Cond.code yX9_upper cX9_upper 1 (some .long) ∈ gT := gT_mem 946 (by decide +kernel) (by decide +kernel)
theorem hy_B_upper : yX9_upper.cls ≠ "java/lang/invoke/MethodHandle" ∧ yX9_upper.cls ≠ "java/lang/invoke/VarHandle" ∧ (parseMethodDescriptor yX9_upper.desc).map (fun d => d.parameters.length) = some 0 := by decide +kernel
theorem im_B_upper : Cond.instanceMethod yX9_upper ∈ gT := gT_mem 944 (by decide +kernel) (by decide +kernel)
theorem se_B_upper : Cond.selects RX9 yX9_upper yX9_upper ∈ gT := gT_mem 945 (by decide +kernel) (by decide +kernel)
theorem cw_B_lower : Cond.code yX9_lower cX9_lower 1 (some .long) ∈ gT := gT_mem 950 (by decide +kernel) (by decide +kernel)
theorem hy_B_lower : yX9_lower.cls ≠ "java/lang/invoke/MethodHandle" ∧ yX9_lower.cls ≠ "java/lang/invoke/VarHandle" ∧ (parseMethodDescriptor yX9_lower.desc).map (fun d => d.parameters.length) = some 0 := by decide +kernel
theorem im_B_lower : Cond.instanceMethod yX9_lower ∈ gT := gT_mem 948 (by decide +kernel) (by decide +kernel)
theorem se_B_lower : Cond.selects RX9 yX9_lower yX9_lower ∈ gT := gT_mem 949 (by decide +kernel) (by decide +kernel)
theorem cw_Ch_countOf : Cond.code yX0_countOf cX0_countOf 4 (some .int) ∈ gT := gT_mem 958 (by decide +kernel) (by decide +kernel)
theorem hy_Ch_countOf : yX0_countOf.cls ≠ "java/lang/invoke/MethodHandle" ∧ yX0_countOf.cls ≠ "java/lang/invoke/VarHandle" ∧ (parseMethodDescriptor yX0_countOf.desc).map (fun d => d.parameters.length) = some 1 := by decide +kernel
theorem im_Ch_countOf : Cond.instanceMethod yX0_countOf ∈ gT := gT_mem 956 (by decide +kernel) (by decide +kernel)
theorem se_Ch_countOf : Cond.selects RX0 yX0_countOf yX0_countOf ∈ gT := gT_mem 957 (by decide +kernel) (by decide +kernel)
theorem cw_Sh_countThere : Cond.code yX7_countThere cX7_countThere 3 (some .int) ∈ gT := gT_mem 963 (by decide +kernel) (by decide +kernel)
theorem hy_Sh_countThere : yX7_countThere.cls ≠ "java/lang/invoke/MethodHandle" ∧ yX7_countThere.cls ≠ "java/lang/invoke/VarHandle" ∧ (parseMethodDescriptor yX7_countThere.desc).map (fun d => d.parameters.length) = some 0 := by decide +kernel
theorem im_Sh_countThere : Cond.instanceMethod yX7_countThere ∈ gT := gT_mem 961 (by decide +kernel) (by decide +kernel)
theorem se_Sh_countThere : Cond.selects RX7 yX7_countThere yX7_countThere ∈ gT := gT_mem 962 (by decide +kernel) (by decide +kernel)
theorem cw_B_countKept : Cond.code yX9_countKept cX9_countKept 3 (some .int) ∈ gT := gT_mem 967 (by decide +kernel) (by decide +kernel)
theorem hy_B_countKept : yX9_countKept.cls ≠ "java/lang/invoke/MethodHandle" ∧ yX9_countKept.cls ≠ "java/lang/invoke/VarHandle" ∧ (parseMethodDescriptor yX9_countKept.desc).map (fun d => d.parameters.length) = some 0 := by decide +kernel
theorem im_B_countKept : Cond.instanceMethod yX9_countKept ∈ gT := gT_mem 966 (by decide +kernel) (by decide +kernel)
theorem se_B_countKept : Cond.selects RX9 yX9_countKept yX9_countKept ∈ gT := gT_mem 31 (by decide +kernel) (by decide +kernel)
theorem cw_Fl_allHarvests : Cond.code yX2_allHarvests cX2_allHarvests 3 (some .int) ∈ gT := gT_mem 971 (by decide +kernel) (by decide +kernel)
theorem hy_Fl_allHarvests : yX2_allHarvests.cls ≠ "java/lang/invoke/MethodHandle" ∧ yX2_allHarvests.cls ≠ "java/lang/invoke/VarHandle" ∧ (parseMethodDescriptor yX2_allHarvests.desc).map (fun d => d.parameters.length) = some 0 := by decide +kernel
theorem im_Fl_allHarvests : Cond.instanceMethod yX2_allHarvests ∈ gT := gT_mem 969 (by decide +kernel) (by decide +kernel)
theorem se_Fl_allHarvests : Cond.selects RX2 yX2_allHarvests yX2_allHarvests ∈ gT := gT_mem 970 (by decide +kernel) (by decide +kernel)
theorem cw_B_count : Cond.code yX9_count cX9_count 2 (some .int) ∈ gT := gT_mem 954 (by decide +kernel) (by decide +kernel)
theorem hy_B_count : yX9_count.cls ≠ "java/lang/invoke/MethodHandle" ∧ yX9_count.cls ≠ "java/lang/invoke/VarHandle" ∧ (parseMethodDescriptor yX9_count.desc).map (fun d => d.parameters.length) = some 1 := by decide +kernel
theorem im_B_count : Cond.instanceMethod yX9_count ∈ gT := gT_mem 952 (by decide +kernel) (by decide +kernel)
theorem se_B_count : Cond.selects RX9 yX9_count yX9_count ∈ gT := gT_mem 953 (by decide +kernel) (by decide +kernel)
theorem cw_B_finding : Cond.code yX9_finding cX9_finding 1 (some .int) ∈ gT := gT_mem 976 (by decide +kernel) (by decide +kernel)
theorem hy_B_finding : yX9_finding.cls ≠ "java/lang/invoke/MethodHandle" ∧ yX9_finding.cls ≠ "java/lang/invoke/VarHandle" ∧ (parseMethodDescriptor yX9_finding.desc).map (fun d => d.parameters.length) = some 0 := by decide +kernel
theorem im_B_finding : Cond.instanceMethod yX9_finding ∈ gT := gT_mem 974 (by decide +kernel) (by decide +kernel)
theorem se_B_finding : Cond.selects RX9 yX9_finding yX9_finding ∈ gT := gT_mem 975 (by decide +kernel) (by decide +kernel)
theorem cw_B_findings : Cond.code yX9_findings cX9_findings 2 (some .int) ∈ gT := gT_mem 980 (by decide +kernel) (by decide +kernel)
theorem hy_B_findings : yX9_findings.cls ≠ "java/lang/invoke/MethodHandle" ∧ yX9_findings.cls ≠ "java/lang/invoke/VarHandle" ∧ (parseMethodDescriptor yX9_findings.desc).map (fun d => d.parameters.length) = some 1 := by decide +kernel
theorem im_B_findings : Cond.instanceMethod yX9_findings ∈ gT := gT_mem 978 (by decide +kernel) (by decide +kernel)
theorem se_B_findings : Cond.selects RX9 yX9_findings yX9_findings ∈ gT := gT_mem 979 (by decide +kernel) (by decide +kernel)
theorem cw_Sh_digestOnto : Cond.code yX7_digestOnto cX7_digestOnto 7 (some .long) ∈ gT := gT_mem 991 (by decide +kernel) (by decide +kernel)
theorem hy_Sh_digestOnto : yX7_digestOnto.cls ≠ "java/lang/invoke/MethodHandle" ∧ yX7_digestOnto.cls ≠ "java/lang/invoke/VarHandle" ∧ (parseMethodDescriptor yX7_digestOnto.desc).map (fun d => d.parameters.length) = some 1 := by decide +kernel
theorem im_Sh_digestOnto : Cond.instanceMethod yX7_digestOnto ∈ gT := gT_mem 989 (by decide +kernel) (by decide +kernel)
theorem se_Sh_digestOnto : Cond.selects RX7 yX7_digestOnto yX7_digestOnto ∈ gT := gT_mem 990 (by decide +kernel) (by decide +kernel)
theorem cw_B_digest : Cond.code yX9_digest cX9_digest 5 (some .long) ∈ gT := gT_mem 984 (by decide +kernel) (by decide +kernel)
theorem hy_B_digest : yX9_digest.cls ≠ "java/lang/invoke/MethodHandle" ∧ yX9_digest.cls ≠ "java/lang/invoke/VarHandle" ∧ (parseMethodDescriptor yX9_digest.desc).map (fun d => d.parameters.length) = some 0 := by decide +kernel
theorem im_B_digest : Cond.instanceMethod yX9_digest ∈ gT := gT_mem 982 (by decide +kernel) (by decide +kernel)
theorem se_B_digest : Cond.selects RX9 yX9_digest yX9_digest ∈ gT := gT_mem 983 (by decide +kernel) (by decide +kernel)
theorem cw_M_finding : Cond.code yX10_finding cX10_finding 1 (some .int) ∈ gT := gT_mem 1137 (by decide +kernel) (by decide +kernel)
theorem hy_M_finding : yX10_finding.cls ≠ "java/lang/invoke/MethodHandle" ∧ yX10_finding.cls ≠ "java/lang/invoke/VarHandle" ∧ (parseMethodDescriptor yX10_finding.desc).map (fun d => d.parameters.length) = some 0 := by decide +kernel
theorem im_M_finding : Cond.instanceMethod yX10_finding ∈ gT := gT_mem 1135 (by decide +kernel) (by decide +kernel)
theorem se_M_finding : Cond.selects RX10 yX10_finding yX10_finding ∈ gT := gT_mem 1136 (by decide +kernel) (by decide +kernel)
theorem cw_M_in : Cond.code yX10_in cX10_in 3 (some .boolean) ∈ gT := gT_mem 1144 (by decide +kernel) (by decide +kernel)
theorem hy_M_in : yX10_in.cls ≠ "java/lang/invoke/MethodHandle" ∧ yX10_in.cls ≠ "java/lang/invoke/VarHandle" ∧ (parseMethodDescriptor yX10_in.desc).map (fun d => d.parameters.length) = some 3 := by decide +kernel
theorem st_M_in : Cond.static yX10_in ∈ gT := gT_mem 1143 (by decide +kernel) (by decide +kernel)
theorem cw_M_findings : Cond.code yX10_findings cX10_findings 2 (some .int) ∈ gT := gT_mem 1141 (by decide +kernel) (by decide +kernel)
theorem hy_M_findings : yX10_findings.cls ≠ "java/lang/invoke/MethodHandle" ∧ yX10_findings.cls ≠ "java/lang/invoke/VarHandle" ∧ (parseMethodDescriptor yX10_findings.desc).map (fun d => d.parameters.length) = some 1 := by decide +kernel
theorem im_M_findings : Cond.instanceMethod yX10_findings ∈ gT := gT_mem 1139 (by decide +kernel) (by decide +kernel)
theorem se_M_findings : Cond.selects RX10 yX10_findings yX10_findings ∈ gT := gT_mem 1140 (by decide +kernel) (by decide +kernel)
theorem cw_M_asked : Cond.code yX10_asked cX10_asked 1 (some .int) ∈ gT := gT_mem 1148 (by decide +kernel) (by decide +kernel)
theorem hy_M_asked : yX10_asked.cls ≠ "java/lang/invoke/MethodHandle" ∧ yX10_asked.cls ≠ "java/lang/invoke/VarHandle" ∧ (parseMethodDescriptor yX10_asked.desc).map (fun d => d.parameters.length) = some 0 := by decide +kernel
theorem im_M_asked : Cond.instanceMethod yX10_asked ∈ gT := gT_mem 1146 (by decide +kernel) (by decide +kernel)
theorem se_M_asked : Cond.selects RX10 yX10_asked yX10_asked ∈ gT := gT_mem 1147 (by decide +kernel) (by decide +kernel)
theorem cw_M_upper : Cond.code yX10_upper cX10_upper 1 (some .long) ∈ gT := gT_mem 1152 (by decide +kernel) (by decide +kernel)
theorem hy_M_upper : yX10_upper.cls ≠ "java/lang/invoke/MethodHandle" ∧ yX10_upper.cls ≠ "java/lang/invoke/VarHandle" ∧ (parseMethodDescriptor yX10_upper.desc).map (fun d => d.parameters.length) = some 0 := by decide +kernel
theorem im_M_upper : Cond.instanceMethod yX10_upper ∈ gT := gT_mem 1150 (by decide +kernel) (by decide +kernel)
theorem se_M_upper : Cond.selects RX10 yX10_upper yX10_upper ∈ gT := gT_mem 1151 (by decide +kernel) (by decide +kernel)
theorem cw_M_lower : Cond.code yX10_lower cX10_lower 1 (some .long) ∈ gT := gT_mem 1156 (by decide +kernel) (by decide +kernel)
theorem hy_M_lower : yX10_lower.cls ≠ "java/lang/invoke/MethodHandle" ∧ yX10_lower.cls ≠ "java/lang/invoke/VarHandle" ∧ (parseMethodDescriptor yX10_lower.desc).map (fun d => d.parameters.length) = some 0 := by decide +kernel
theorem im_M_lower : Cond.instanceMethod yX10_lower ∈ gT := gT_mem 1154 (by decide +kernel) (by decide +kernel)
theorem se_M_lower : Cond.selects RX10 yX10_lower yX10_lower ∈ gT := gT_mem 1155 (by decide +kernel) (by decide +kernel)
theorem cw_M_isRow : Cond.code yX10_isRow cX10_isRow 1 (some .boolean) ∈ gT := gT_mem 1163 (by decide +kernel) (by decide +kernel)
theorem hy_M_isRow : yX10_isRow.cls ≠ "java/lang/invoke/MethodHandle" ∧ yX10_isRow.cls ≠ "java/lang/invoke/VarHandle" ∧ (parseMethodDescriptor yX10_isRow.desc).map (fun d => d.parameters.length) = some 1 := by decide +kernel
theorem st_M_isRow : Cond.static yX10_isRow ∈ gT := gT_mem 1162 (by decide +kernel) (by decide +kernel)
theorem cw_M_meets : Cond.code yX10_meets cX10_meets 2 (some .int) ∈ gT := gT_mem 1167 (by decide +kernel) (by decide +kernel)
theorem hy_M_meets : yX10_meets.cls ≠ "java/lang/invoke/MethodHandle" ∧ yX10_meets.cls ≠ "java/lang/invoke/VarHandle" ∧ (parseMethodDescriptor yX10_meets.desc).map (fun d => d.parameters.length) = some 1 := by decide +kernel
theorem im_M_meets : Cond.instanceMethod yX10_meets ∈ gT := gT_mem 1166 (by decide +kernel) (by decide +kernel)
theorem se_M_meets : Cond.selects RX10 yX10_meets yX10_meets ∈ gT := gT_mem 32 (by decide +kernel) (by decide +kernel)
theorem cw_M_row : Cond.code yX10_row cX10_row 4 (some .int) ∈ gT := gT_mem 1160 (by decide +kernel) (by decide +kernel)
theorem hy_M_row : yX10_row.cls ≠ "java/lang/invoke/MethodHandle" ∧ yX10_row.cls ≠ "java/lang/invoke/VarHandle" ∧ (parseMethodDescriptor yX10_row.desc).map (fun d => d.parameters.length) = some 2 := by decide +kernel
theorem im_M_row : Cond.instanceMethod yX10_row ∈ gT := gT_mem 1158 (by decide +kernel) (by decide +kernel)
theorem se_M_row : Cond.selects RX10 yX10_row yX10_row ∈ gT := gT_mem 1159 (by decide +kernel) (by decide +kernel)
theorem cw_M_rowAt : Cond.code yX10_rowAt cX10_rowAt 3 (some .int) ∈ gT := gT_mem 1175 (by decide +kernel) (by decide +kernel)
theorem hy_M_rowAt : yX10_rowAt.cls ≠ "java/lang/invoke/MethodHandle" ∧ yX10_rowAt.cls ≠ "java/lang/invoke/VarHandle" ∧ (parseMethodDescriptor yX10_rowAt.desc).map (fun d => d.parameters.length) = some 2 := by decide +kernel
theorem im_M_rowAt : Cond.instanceMethod yX10_rowAt ∈ gT := gT_mem 1174 (by decide +kernel) (by decide +kernel)
theorem se_M_rowAt : Cond.selects RX10 yX10_rowAt yX10_rowAt ∈ gT := gT_mem 33 (by decide +kernel) (by decide +kernel)
theorem cw_M_tells : Cond.code yX10_tells cX10_tells 3 (some .int) ∈ gT := gT_mem 1179 (by decide +kernel) (by decide +kernel)
theorem hy_M_tells : yX10_tells.cls ≠ "java/lang/invoke/MethodHandle" ∧ yX10_tells.cls ≠ "java/lang/invoke/VarHandle" ∧ (parseMethodDescriptor yX10_tells.desc).map (fun d => d.parameters.length) = some 2 := by decide +kernel
theorem im_M_tells : Cond.instanceMethod yX10_tells ∈ gT := gT_mem 1178 (by decide +kernel) (by decide +kernel)
theorem se_M_tells : Cond.selects RX10 yX10_tells yX10_tells ∈ gT := gT_mem 34 (by decide +kernel) (by decide +kernel)
theorem cw_M_lay : Cond.code yX10_lay cX10_lay 5 (some .int) ∈ gT := gT_mem 1171 (by decide +kernel) (by decide +kernel)
theorem hy_M_lay : yX10_lay.cls ≠ "java/lang/invoke/MethodHandle" ∧ yX10_lay.cls ≠ "java/lang/invoke/VarHandle" ∧ (parseMethodDescriptor yX10_lay.desc).map (fun d => d.parameters.length) = some 3 := by decide +kernel
theorem im_M_lay : Cond.instanceMethod yX10_lay ∈ gT := gT_mem 1169 (by decide +kernel) (by decide +kernel)
theorem se_M_lay : Cond.selects RX10 yX10_lay yX10_lay ∈ gT := gT_mem 1170 (by decide +kernel) (by decide +kernel)
theorem cw_M_at : Cond.code yX10_at cX10_at 3 (some .int) ∈ gT := gT_mem 1183 (by decide +kernel) (by decide +kernel)
theorem hy_M_at : yX10_at.cls ≠ "java/lang/invoke/MethodHandle" ∧ yX10_at.cls ≠ "java/lang/invoke/VarHandle" ∧ (parseMethodDescriptor yX10_at.desc).map (fun d => d.parameters.length) = some 2 := by decide +kernel
theorem im_M_at : Cond.instanceMethod yX10_at ∈ gT := gT_mem 1181 (by decide +kernel) (by decide +kernel)
theorem se_M_at : Cond.selects RX10 yX10_at yX10_at ∈ gT := gT_mem 1182 (by decide +kernel) (by decide +kernel)
theorem cw_M_tear : Cond.code yX10_tear cX10_tear 2 (some .int) ∈ gT := gT_mem 1187 (by decide +kernel) (by decide +kernel)
theorem hy_M_tear : yX10_tear.cls ≠ "java/lang/invoke/MethodHandle" ∧ yX10_tear.cls ≠ "java/lang/invoke/VarHandle" ∧ (parseMethodDescriptor yX10_tear.desc).map (fun d => d.parameters.length) = some 1 := by decide +kernel
theorem im_M_tear : Cond.instanceMethod yX10_tear ∈ gT := gT_mem 1185 (by decide +kernel) (by decide +kernel)
theorem se_M_tear : Cond.selects RX10 yX10_tear yX10_tear ∈ gT := gT_mem 1186 (by decide +kernel) (by decide +kernel)
theorem cw_M_copy : Cond.code yX10_copy cX10_copy 7 (some .int) ∈ gT := gT_mem 1191 (by decide +kernel) (by decide +kernel)
theorem hy_M_copy : yX10_copy.cls ≠ "java/lang/invoke/MethodHandle" ∧ yX10_copy.cls ≠ "java/lang/invoke/VarHandle" ∧ (parseMethodDescriptor yX10_copy.desc).map (fun d => d.parameters.length) = some 5 := by decide +kernel
theorem im_M_copy : Cond.instanceMethod yX10_copy ∈ gT := gT_mem 1189 (by decide +kernel) (by decide +kernel)
theorem se_M_copy : Cond.selects RX10 yX10_copy yX10_copy ∈ gT := gT_mem 1190 (by decide +kernel) (by decide +kernel)
theorem cw_M_mean : Cond.code yX10_mean cX10_mean 5 (some .int) ∈ gT := gT_mem 1195 (by decide +kernel) (by decide +kernel)
theorem hy_M_mean : yX10_mean.cls ≠ "java/lang/invoke/MethodHandle" ∧ yX10_mean.cls ≠ "java/lang/invoke/VarHandle" ∧ (parseMethodDescriptor yX10_mean.desc).map (fun d => d.parameters.length) = some 1 := by decide +kernel
theorem im_M_mean : Cond.instanceMethod yX10_mean ∈ gT := gT_mem 1193 (by decide +kernel) (by decide +kernel)
theorem se_M_mean : Cond.selects RX10 yX10_mean yX10_mean ∈ gT := gT_mem 1194 (by decide +kernel) (by decide +kernel)
theorem cw_M_isText : Cond.code yX10_isText cX10_isText 1 (some .boolean) ∈ gT := gT_mem 1202 (by decide +kernel) (by decide +kernel)
theorem hy_M_isText : yX10_isText.cls ≠ "java/lang/invoke/MethodHandle" ∧ yX10_isText.cls ≠ "java/lang/invoke/VarHandle" ∧ (parseMethodDescriptor yX10_isText.desc).map (fun d => d.parameters.length) = some 1 := by decide +kernel
theorem st_M_isText : Cond.static yX10_isText ∈ gT := gT_mem 1201 (by decide +kernel) (by decide +kernel)
theorem cw_M_text : Cond.code yX10_text cX10_text 4 (some .int) ∈ gT := gT_mem 1199 (by decide +kernel) (by decide +kernel)
theorem hy_M_text : yX10_text.cls ≠ "java/lang/invoke/MethodHandle" ∧ yX10_text.cls ≠ "java/lang/invoke/VarHandle" ∧ (parseMethodDescriptor yX10_text.desc).map (fun d => d.parameters.length) = some 2 := by decide +kernel
theorem im_M_text : Cond.instanceMethod yX10_text ∈ gT := gT_mem 1197 (by decide +kernel) (by decide +kernel)
theorem se_M_text : Cond.selects RX10 yX10_text yX10_text ∈ gT := gT_mem 1198 (by decide +kernel) (by decide +kernel)
theorem cw_M_put : Cond.code yX10_put cX10_put 5 (some .int) ∈ gT := gT_mem 1206 (by decide +kernel) (by decide +kernel)
theorem hy_M_put : yX10_put.cls ≠ "java/lang/invoke/MethodHandle" ∧ yX10_put.cls ≠ "java/lang/invoke/VarHandle" ∧ (parseMethodDescriptor yX10_put.desc).map (fun d => d.parameters.length) = some 3 := by decide +kernel
theorem im_M_put : Cond.instanceMethod yX10_put ∈ gT := gT_mem 1204 (by decide +kernel) (by decide +kernel)
theorem se_M_put : Cond.selects RX10 yX10_put yX10_put ∈ gT := gT_mem 1205 (by decide +kernel) (by decide +kernel)
theorem cw_M_byteAt : Cond.code yX10_byteAt cX10_byteAt 3 (some .int) ∈ gT := gT_mem 1218 (by decide +kernel) (by decide +kernel)
theorem hy_M_byteAt : yX10_byteAt.cls ≠ "java/lang/invoke/MethodHandle" ∧ yX10_byteAt.cls ≠ "java/lang/invoke/VarHandle" ∧ (parseMethodDescriptor yX10_byteAt.desc).map (fun d => d.parameters.length) = some 2 := by decide +kernel
theorem im_M_byteAt : Cond.instanceMethod yX10_byteAt ∈ gT := gT_mem 1217 (by decide +kernel) (by decide +kernel)
theorem se_M_byteAt : Cond.selects RX10 yX10_byteAt yX10_byteAt ∈ gT := gT_mem 36 (by decide +kernel) (by decide +kernel)
theorem cw_M_figure : Cond.code yX10_figure cX10_figure 5 (some .boolean) ∈ gT := gT_mem 1230 (by decide +kernel) (by decide +kernel)
theorem hy_M_figure : yX10_figure.cls ≠ "java/lang/invoke/MethodHandle" ∧ yX10_figure.cls ≠ "java/lang/invoke/VarHandle" ∧ (parseMethodDescriptor yX10_figure.desc).map (fun d => d.parameters.length) = some 3 := by decide +kernel
theorem im_M_figure : Cond.instanceMethod yX10_figure ∈ gT := gT_mem 1229 (by decide +kernel) (by decide +kernel)
theorem se_M_figure : Cond.selects RX10 yX10_figure yX10_figure ∈ gT := gT_mem 39 (by decide +kernel) (by decide +kernel)
theorem cw_M_readsRiver : Cond.code yX10_readsRiver cX10_readsRiver 2 (some .boolean) ∈ gT := gT_mem 1226 (by decide +kernel) (by decide +kernel)
theorem hy_M_readsRiver : yX10_readsRiver.cls ≠ "java/lang/invoke/MethodHandle" ∧ yX10_readsRiver.cls ≠ "java/lang/invoke/VarHandle" ∧ (parseMethodDescriptor yX10_readsRiver.desc).map (fun d => d.parameters.length) = some 1 := by decide +kernel
theorem im_M_readsRiver : Cond.instanceMethod yX10_readsRiver ∈ gT := gT_mem 1225 (by decide +kernel) (by decide +kernel)
theorem se_M_readsRiver : Cond.selects RX10 yX10_readsRiver yX10_readsRiver ∈ gT := gT_mem 38 (by decide +kernel) (by decide +kernel)
theorem cw_M_has : Cond.code yX10_has cX10_has 2 (some .boolean) ∈ gT := gT_mem 1237 (by decide +kernel) (by decide +kernel)
theorem hy_M_has : yX10_has.cls ≠ "java/lang/invoke/MethodHandle" ∧ yX10_has.cls ≠ "java/lang/invoke/VarHandle" ∧ (parseMethodDescriptor yX10_has.desc).map (fun d => d.parameters.length) = some 2 := by decide +kernel
theorem st_M_has : Cond.static yX10_has ∈ gT := gT_mem 1236 (by decide +kernel) (by decide +kernel)
theorem cw_M_readsWait : Cond.code yX10_readsWait cX10_readsWait 4 (some .boolean) ∈ gT := gT_mem 1234 (by decide +kernel) (by decide +kernel)
theorem hy_M_readsWait : yX10_readsWait.cls ≠ "java/lang/invoke/MethodHandle" ∧ yX10_readsWait.cls ≠ "java/lang/invoke/VarHandle" ∧ (parseMethodDescriptor yX10_readsWait.desc).map (fun d => d.parameters.length) = some 1 := by decide +kernel
theorem im_M_readsWait : Cond.instanceMethod yX10_readsWait ∈ gT := gT_mem 1233 (by decide +kernel) (by decide +kernel)
theorem se_M_readsWait : Cond.selects RX10 yX10_readsWait yX10_readsWait ∈ gT := gT_mem 40 (by decide +kernel) (by decide +kernel)
theorem cw_M_kindOf : Cond.code yX10_kindOf cX10_kindOf 1 (some .int) ∈ gT := gT_mem 1244 (by decide +kernel) (by decide +kernel)
theorem hy_M_kindOf : yX10_kindOf.cls ≠ "java/lang/invoke/MethodHandle" ∧ yX10_kindOf.cls ≠ "java/lang/invoke/VarHandle" ∧ (parseMethodDescriptor yX10_kindOf.desc).map (fun d => d.parameters.length) = some 1 := by decide +kernel
theorem st_M_kindOf : Cond.static yX10_kindOf ∈ gT := gT_mem 1243 (by decide +kernel) (by decide +kernel)
theorem cw_M_readsArm : Cond.code yX10_readsArm cX10_readsArm 6 (some .boolean) ∈ gT := gT_mem 1241 (by decide +kernel) (by decide +kernel)
theorem hy_M_readsArm : yX10_readsArm.cls ≠ "java/lang/invoke/MethodHandle" ∧ yX10_readsArm.cls ≠ "java/lang/invoke/VarHandle" ∧ (parseMethodDescriptor yX10_readsArm.desc).map (fun d => d.parameters.length) = some 1 := by decide +kernel
theorem im_M_readsArm : Cond.instanceMethod yX10_readsArm ∈ gT := gT_mem 1240 (by decide +kernel) (by decide +kernel)
theorem se_M_readsArm : Cond.selects RX10 yX10_readsArm yX10_readsArm ∈ gT := gT_mem 41 (by decide +kernel) (by decide +kernel)
theorem cw_M_readsItem : Cond.code yX10_readsItem cX10_readsItem 2 (some .boolean) ∈ gT := gT_mem 1222 (by decide +kernel) (by decide +kernel)
theorem hy_M_readsItem : yX10_readsItem.cls ≠ "java/lang/invoke/MethodHandle" ∧ yX10_readsItem.cls ≠ "java/lang/invoke/VarHandle" ∧ (parseMethodDescriptor yX10_readsItem.desc).map (fun d => d.parameters.length) = some 1 := by decide +kernel
theorem im_M_readsItem : Cond.instanceMethod yX10_readsItem ∈ gT := gT_mem 1221 (by decide +kernel) (by decide +kernel)
theorem se_M_readsItem : Cond.selects RX10 yX10_readsItem yX10_readsItem ∈ gT := gT_mem 37 (by decide +kernel) (by decide +kernel)
theorem cw_M_faultOf : Cond.code yX10_faultOf cX10_faultOf 3 (some .int) ∈ gT := gT_mem 1214 (by decide +kernel) (by decide +kernel)
theorem hy_M_faultOf : yX10_faultOf.cls ≠ "java/lang/invoke/MethodHandle" ∧ yX10_faultOf.cls ≠ "java/lang/invoke/VarHandle" ∧ (parseMethodDescriptor yX10_faultOf.desc).map (fun d => d.parameters.length) = some 1 := by decide +kernel
theorem im_M_faultOf : Cond.instanceMethod yX10_faultOf ∈ gT := gT_mem 1213 (by decide +kernel) (by decide +kernel)
theorem se_M_faultOf : Cond.selects RX10 yX10_faultOf yX10_faultOf ∈ gT := gT_mem 35 (by decide +kernel) (by decide +kernel)
theorem cw_M_fault : Cond.code yX10_fault cX10_fault 2 (some .int) ∈ gT := gT_mem 1210 (by decide +kernel) (by decide +kernel)
theorem hy_M_fault : yX10_fault.cls ≠ "java/lang/invoke/MethodHandle" ∧ yX10_fault.cls ≠ "java/lang/invoke/VarHandle" ∧ (parseMethodDescriptor yX10_fault.desc).map (fun d => d.parameters.length) = some 1 := by decide +kernel
theorem im_M_fault : Cond.instanceMethod yX10_fault ∈ gT := gT_mem 1208 (by decide +kernel) (by decide +kernel)
theorem se_M_fault : Cond.selects RX10 yX10_fault yX10_fault ∈ gT := gT_mem 1209 (by decide +kernel) (by decide +kernel)
theorem cw_M_delta : Cond.code yX10_delta cX10_delta 4 (some .int) ∈ gT := gT_mem 1248 (by decide +kernel) (by decide +kernel)
theorem hy_M_delta : yX10_delta.cls ≠ "java/lang/invoke/MethodHandle" ∧ yX10_delta.cls ≠ "java/lang/invoke/VarHandle" ∧ (parseMethodDescriptor yX10_delta.desc).map (fun d => d.parameters.length) = some 1 := by decide +kernel
theorem im_M_delta : Cond.instanceMethod yX10_delta ∈ gT := gT_mem 1246 (by decide +kernel) (by decide +kernel)
theorem se_M_delta : Cond.selects RX10 yX10_delta yX10_delta ∈ gT := gT_mem 1247 (by decide +kernel) (by decide +kernel)
theorem cw_M_isArm : Cond.code yX10_isArm cX10_isArm 2 (some .boolean) ∈ gT := gT_mem 1256 (by decide +kernel) (by decide +kernel)
theorem hy_M_isArm : yX10_isArm.cls ≠ "java/lang/invoke/MethodHandle" ∧ yX10_isArm.cls ≠ "java/lang/invoke/VarHandle" ∧ (parseMethodDescriptor yX10_isArm.desc).map (fun d => d.parameters.length) = some 1 := by decide +kernel
theorem im_M_isArm : Cond.instanceMethod yX10_isArm ∈ gT := gT_mem 1255 (by decide +kernel) (by decide +kernel)
theorem se_M_isArm : Cond.selects RX10 yX10_isArm yX10_isArm ∈ gT := gT_mem 42 (by decide +kernel) (by decide +kernel)
theorem cw_M_isDead : Cond.code yX10_isDead cX10_isDead 3 (some .boolean) ∈ gT := gT_mem 1268 (by decide +kernel) (by decide +kernel)
theorem hy_M_isDead : yX10_isDead.cls ≠ "java/lang/invoke/MethodHandle" ∧ yX10_isDead.cls ≠ "java/lang/invoke/VarHandle" ∧ (parseMethodDescriptor yX10_isDead.desc).map (fun d => d.parameters.length) = some 2 := by decide +kernel
theorem im_M_isDead : Cond.instanceMethod yX10_isDead ∈ gT := gT_mem 1267 (by decide +kernel) (by decide +kernel)
theorem se_M_isDead : Cond.selects RX10 yX10_isDead yX10_isDead ∈ gT := gT_mem 45 (by decide +kernel) (by decide +kernel)
theorem cw_M_isOpen : Cond.code yX10_isOpen cX10_isOpen 3 (some .boolean) ∈ gT := gT_mem 1272 (by decide +kernel) (by decide +kernel)
theorem hy_M_isOpen : yX10_isOpen.cls ≠ "java/lang/invoke/MethodHandle" ∧ yX10_isOpen.cls ≠ "java/lang/invoke/VarHandle" ∧ (parseMethodDescriptor yX10_isOpen.desc).map (fun d => d.parameters.length) = some 2 := by decide +kernel
theorem im_M_isOpen : Cond.instanceMethod yX10_isOpen ∈ gT := gT_mem 1271 (by decide +kernel) (by decide +kernel)
theorem se_M_isOpen : Cond.selects RX10 yX10_isOpen yX10_isOpen ∈ gT := gT_mem 46 (by decide +kernel) (by decide +kernel)
theorem cw_M_isBarge : Cond.code yX10_isBarge cX10_isBarge 3 (some .boolean) ∈ gT := gT_mem 1276 (by decide +kernel) (by decide +kernel)
theorem hy_M_isBarge : yX10_isBarge.cls ≠ "java/lang/invoke/MethodHandle" ∧ yX10_isBarge.cls ≠ "java/lang/invoke/VarHandle" ∧ (parseMethodDescriptor yX10_isBarge.desc).map (fun d => d.parameters.length) = some 2 := by decide +kernel
theorem im_M_isBarge : Cond.instanceMethod yX10_isBarge ∈ gT := gT_mem 1275 (by decide +kernel) (by decide +kernel)
theorem se_M_isBarge : Cond.selects RX10 yX10_isBarge yX10_isBarge ∈ gT := gT_mem 47 (by decide +kernel) (by decide +kernel)
theorem cw_M_openSet : Cond.code yX10_openSet cX10_openSet 4 (some .int) ∈ gT := gT_mem 1280 (by decide +kernel) (by decide +kernel)
theorem hy_M_openSet : yX10_openSet.cls ≠ "java/lang/invoke/MethodHandle" ∧ yX10_openSet.cls ≠ "java/lang/invoke/VarHandle" ∧ (parseMethodDescriptor yX10_openSet.desc).map (fun d => d.parameters.length) = some 1 := by decide +kernel
theorem im_M_openSet : Cond.instanceMethod yX10_openSet ∈ gT := gT_mem 1279 (by decide +kernel) (by decide +kernel)
theorem se_M_openSet : Cond.selects RX10 yX10_openSet yX10_openSet ∈ gT := gT_mem 48 (by decide +kernel) (by decide +kernel)
theorem cw_M_mayBe : Cond.code yX10_mayBe cX10_mayBe 3 (some .boolean) ∈ gT := gT_mem 1264 (by decide +kernel) (by decide +kernel)
theorem hy_M_mayBe : yX10_mayBe.cls ≠ "java/lang/invoke/MethodHandle" ∧ yX10_mayBe.cls ≠ "java/lang/invoke/VarHandle" ∧ (parseMethodDescriptor yX10_mayBe.desc).map (fun d => d.parameters.length) = some 2 := by decide +kernel
theorem im_M_mayBe : Cond.instanceMethod yX10_mayBe ∈ gT := gT_mem 1263 (by decide +kernel) (by decide +kernel)
theorem se_M_mayBe : Cond.selects RX10 yX10_mayBe yX10_mayBe ∈ gT := gT_mem 44 (by decide +kernel) (by decide +kernel)
theorem cw_M_armTells : Cond.code yX10_armTells cX10_armTells 3 (some .int) ∈ gT := gT_mem 1260 (by decide +kernel) (by decide +kernel)
theorem hy_M_armTells : yX10_armTells.cls ≠ "java/lang/invoke/MethodHandle" ∧ yX10_armTells.cls ≠ "java/lang/invoke/VarHandle" ∧ (parseMethodDescriptor yX10_armTells.desc).map (fun d => d.parameters.length) = some 2 := by decide +kernel
theorem im_M_armTells : Cond.instanceMethod yX10_armTells ∈ gT := gT_mem 1259 (by decide +kernel) (by decide +kernel)
theorem se_M_armTells : Cond.selects RX10 yX10_armTells yX10_armTells ∈ gT := gT_mem 43 (by decide +kernel) (by decide +kernel)
theorem cw_M_arm : Cond.code yX10_arm cX10_arm 3 (some .int) ∈ gT := gT_mem 1252 (by decide +kernel) (by decide +kernel)
theorem hy_M_arm : yX10_arm.cls ≠ "java/lang/invoke/MethodHandle" ∧ yX10_arm.cls ≠ "java/lang/invoke/VarHandle" ∧ (parseMethodDescriptor yX10_arm.desc).map (fun d => d.parameters.length) = some 2 := by decide +kernel
theorem im_M_arm : Cond.instanceMethod yX10_arm ∈ gT := gT_mem 1250 (by decide +kernel) (by decide +kernel)
theorem se_M_arm : Cond.selects RX10 yX10_arm yX10_arm ∈ gT := gT_mem 1251 (by decide +kernel) (by decide +kernel)
theorem cw_M_greater : Cond.code yX10_greater cX10_greater 2 (some .int) ∈ gT := gT_mem 1287 (by decide +kernel) (by decide +kernel)
theorem hy_M_greater : yX10_greater.cls ≠ "java/lang/invoke/MethodHandle" ∧ yX10_greater.cls ≠ "java/lang/invoke/VarHandle" ∧ (parseMethodDescriptor yX10_greater.desc).map (fun d => d.parameters.length) = some 2 := by decide +kernel
theorem st_M_greater : Cond.static yX10_greater ∈ gT := gT_mem 1286 (by decide +kernel) (by decide +kernel)
theorem cw_M_wideOpen : Cond.code yX10_wideOpen cX10_wideOpen 4 (some .int) ∈ gT := gT_mem 1295 (by decide +kernel) (by decide +kernel)
theorem hy_M_wideOpen : yX10_wideOpen.cls ≠ "java/lang/invoke/MethodHandle" ∧ yX10_wideOpen.cls ≠ "java/lang/invoke/VarHandle" ∧ (parseMethodDescriptor yX10_wideOpen.desc).map (fun d => d.parameters.length) = some 1 := by decide +kernel
theorem im_M_wideOpen : Cond.instanceMethod yX10_wideOpen ∈ gT := gT_mem 1294 (by decide +kernel) (by decide +kernel)
theorem se_M_wideOpen : Cond.selects RX10 yX10_wideOpen yX10_wideOpen ∈ gT := gT_mem 50 (by decide +kernel) (by decide +kernel)
theorem cw_M_waterOf : Cond.code yX10_waterOf cX10_waterOf 7 (some .int) ∈ gT := gT_mem 1291 (by decide +kernel) (by decide +kernel)
theorem hy_M_waterOf : yX10_waterOf.cls ≠ "java/lang/invoke/MethodHandle" ∧ yX10_waterOf.cls ≠ "java/lang/invoke/VarHandle" ∧ (parseMethodDescriptor yX10_waterOf.desc).map (fun d => d.parameters.length) = some 2 := by decide +kernel
theorem im_M_waterOf : Cond.instanceMethod yX10_waterOf ∈ gT := gT_mem 1290 (by decide +kernel) (by decide +kernel)
theorem se_M_waterOf : Cond.selects RX10 yX10_waterOf yX10_waterOf ∈ gT := gT_mem 49 (by decide +kernel) (by decide +kernel)
theorem cw_M_married : Cond.code yX10_married cX10_married 4 (some .int) ∈ gT := gT_mem 1299 (by decide +kernel) (by decide +kernel)
theorem hy_M_married : yX10_married.cls ≠ "java/lang/invoke/MethodHandle" ∧ yX10_married.cls ≠ "java/lang/invoke/VarHandle" ∧ (parseMethodDescriptor yX10_married.desc).map (fun d => d.parameters.length) = some 2 := by decide +kernel
theorem im_M_married : Cond.instanceMethod yX10_married ∈ gT := gT_mem 1298 (by decide +kernel) (by decide +kernel)
theorem se_M_married : Cond.selects RX10 yX10_married yX10_married ∈ gT := gT_mem 51 (by decide +kernel) (by decide +kernel)
theorem cw_M_mark : Cond.code yX10_mark cX10_mark 4 (some .int) ∈ gT := gT_mem 1284 (by decide +kernel) (by decide +kernel)
theorem hy_M_mark : yX10_mark.cls ≠ "java/lang/invoke/MethodHandle" ∧ yX10_mark.cls ≠ "java/lang/invoke/VarHandle" ∧ (parseMethodDescriptor yX10_mark.desc).map (fun d => d.parameters.length) = some 2 := by decide +kernel
theorem im_M_mark : Cond.instanceMethod yX10_mark ∈ gT := gT_mem 1282 (by decide +kernel) (by decide +kernel)
theorem se_M_mark : Cond.selects RX10 yX10_mark yX10_mark ∈ gT := gT_mem 1283 (by decide +kernel) (by decide +kernel)
theorem cw_M_need : Cond.code yX10_need cX10_need 4 (some .int) ∈ gT := gT_mem 1303 (by decide +kernel) (by decide +kernel)
theorem hy_M_need : yX10_need.cls ≠ "java/lang/invoke/MethodHandle" ∧ yX10_need.cls ≠ "java/lang/invoke/VarHandle" ∧ (parseMethodDescriptor yX10_need.desc).map (fun d => d.parameters.length) = some 2 := by decide +kernel
theorem im_M_need : Cond.instanceMethod yX10_need ∈ gT := gT_mem 1301 (by decide +kernel) (by decide +kernel)
theorem se_M_need : Cond.selects RX10 yX10_need yX10_need ∈ gT := gT_mem 1302 (by decide +kernel) (by decide +kernel)
theorem cw_M_awaits : Cond.code yX10_awaits cX10_awaits 5 (some .int) ∈ gT := gT_mem 1307 (by decide +kernel) (by decide +kernel)
theorem hy_M_awaits : yX10_awaits.cls ≠ "java/lang/invoke/MethodHandle" ∧ yX10_awaits.cls ≠ "java/lang/invoke/VarHandle" ∧ (parseMethodDescriptor yX10_awaits.desc).map (fun d => d.parameters.length) = some 3 := by decide +kernel
theorem im_M_awaits : Cond.instanceMethod yX10_awaits ∈ gT := gT_mem 1305 (by decide +kernel) (by decide +kernel)
theorem se_M_awaits : Cond.selects RX10 yX10_awaits yX10_awaits ∈ gT := gT_mem 1306 (by decide +kernel) (by decide +kernel)
theorem cw_M_remember : Cond.code yX10_remember cX10_remember 2 (none) ∈ gT := gT_mem 1315 (by decide +kernel) (by decide +kernel)
theorem hy_M_remember : yX10_remember.cls ≠ "java/lang/invoke/MethodHandle" ∧ yX10_remember.cls ≠ "java/lang/invoke/VarHandle" ∧ (parseMethodDescriptor yX10_remember.desc).map (fun d => d.parameters.length) = some 0 := by decide +kernel
theorem im_M_remember : Cond.instanceMethod yX10_remember ∈ gT := gT_mem 1314 (by decide +kernel) (by decide +kernel)
theorem se_M_remember : Cond.selects RX10 yX10_remember yX10_remember ∈ gT := gT_mem 52 (by decide +kernel) (by decide +kernel)
theorem cw_M_stamps : Cond.code yX10_stamps cX10_stamps 5 (none) ∈ gT := gT_mem 1319 (by decide +kernel) (by decide +kernel)
theorem hy_M_stamps : yX10_stamps.cls ≠ "java/lang/invoke/MethodHandle" ∧ yX10_stamps.cls ≠ "java/lang/invoke/VarHandle" ∧ (parseMethodDescriptor yX10_stamps.desc).map (fun d => d.parameters.length) = some 2 := by decide +kernel
theorem im_M_stamps : Cond.instanceMethod yX10_stamps ∈ gT := gT_mem 1318 (by decide +kernel) (by decide +kernel)
theorem se_M_stamps : Cond.selects RX10 yX10_stamps yX10_stamps ∈ gT := gT_mem 53 (by decide +kernel) (by decide +kernel)
theorem cw_M_stamp : Cond.code yX10_stamp cX10_stamp 2 (some .int) ∈ gT := gT_mem 1311 (by decide +kernel) (by decide +kernel)
theorem hy_M_stamp : yX10_stamp.cls ≠ "java/lang/invoke/MethodHandle" ∧ yX10_stamp.cls ≠ "java/lang/invoke/VarHandle" ∧ (parseMethodDescriptor yX10_stamp.desc).map (fun d => d.parameters.length) = some 1 := by decide +kernel
theorem im_M_stamp : Cond.instanceMethod yX10_stamp ∈ gT := gT_mem 1309 (by decide +kernel) (by decide +kernel)
theorem se_M_stamp : Cond.selects RX10 yX10_stamp yX10_stamp ∈ gT := gT_mem 1310 (by decide +kernel) (by decide +kernel)
theorem cw_M_lesser : Cond.code yX10_lesser cX10_lesser 2 (some .int) ∈ gT := gT_mem 1330 (by decide +kernel) (by decide +kernel)
theorem hy_M_lesser : yX10_lesser.cls ≠ "java/lang/invoke/MethodHandle" ∧ yX10_lesser.cls ≠ "java/lang/invoke/VarHandle" ∧ (parseMethodDescriptor yX10_lesser.desc).map (fun d => d.parameters.length) = some 2 := by decide +kernel
theorem st_M_lesser : Cond.static yX10_lesser ∈ gT := gT_mem 1329 (by decide +kernel) (by decide +kernel)
theorem cw_M_isSilty : Cond.code yX10_isSilty cX10_isSilty 2 (some .boolean) ∈ gT := gT_mem 1334 (by decide +kernel) (by decide +kernel)
theorem hy_M_isSilty : yX10_isSilty.cls ≠ "java/lang/invoke/MethodHandle" ∧ yX10_isSilty.cls ≠ "java/lang/invoke/VarHandle" ∧ (parseMethodDescriptor yX10_isSilty.desc).map (fun d => d.parameters.length) = some 1 := by decide +kernel
theorem im_M_isSilty : Cond.instanceMethod yX10_isSilty ∈ gT := gT_mem 1333 (by decide +kernel) (by decide +kernel)
theorem se_M_isSilty : Cond.selects RX10 yX10_isSilty yX10_isSilty ∈ gT := gT_mem 55 (by decide +kernel) (by decide +kernel)
theorem cw_M_bits : Cond.code yX10_bits cX10_bits 3 (some .int) ∈ gT := gT_mem 1337 (by decide +kernel) (by decide +kernel)
theorem hy_M_bits : yX10_bits.cls ≠ "java/lang/invoke/MethodHandle" ∧ yX10_bits.cls ≠ "java/lang/invoke/VarHandle" ∧ (parseMethodDescriptor yX10_bits.desc).map (fun d => d.parameters.length) = some 1 := by decide +kernel
theorem st_M_bits : Cond.static yX10_bits ∈ gT := gT_mem 1336 (by decide +kernel) (by decide +kernel)
theorem cw_M_passes : Cond.code yX10_passes cX10_passes 7 (some .int) ∈ gT := gT_mem 1327 (by decide +kernel) (by decide +kernel)
theorem hy_M_passes : yX10_passes.cls ≠ "java/lang/invoke/MethodHandle" ∧ yX10_passes.cls ≠ "java/lang/invoke/VarHandle" ∧ (parseMethodDescriptor yX10_passes.desc).map (fun d => d.parameters.length) = some 1 := by decide +kernel
theorem im_M_passes : Cond.instanceMethod yX10_passes ∈ gT := gT_mem 1326 (by decide +kernel) (by decide +kernel)
theorem se_M_passes : Cond.selects RX10 yX10_passes yX10_passes ∈ gT := gT_mem 54 (by decide +kernel) (by decide +kernel)
theorem cw_M_season : Cond.code yX10_season cX10_season 2 (some .int) ∈ gT := gT_mem 1323 (by decide +kernel) (by decide +kernel)
theorem hy_M_season : yX10_season.cls ≠ "java/lang/invoke/MethodHandle" ∧ yX10_season.cls ≠ "java/lang/invoke/VarHandle" ∧ (parseMethodDescriptor yX10_season.desc).map (fun d => d.parameters.length) = some 0 := by decide +kernel
theorem im_M_season : Cond.instanceMethod yX10_season ∈ gT := gT_mem 1321 (by decide +kernel) (by decide +kernel)
theorem se_M_season : Cond.selects RX10 yX10_season yX10_season ∈ gT := gT_mem 1322 (by decide +kernel) (by decide +kernel)
theorem cw_M_leaves : Cond.code yX10_leaves cX10_leaves 3 (none) ∈ gT := gT_mem 1345 (by decide +kernel) (by decide +kernel)
theorem hy_M_leaves : yX10_leaves.cls ≠ "java/lang/invoke/MethodHandle" ∧ yX10_leaves.cls ≠ "java/lang/invoke/VarHandle" ∧ (parseMethodDescriptor yX10_leaves.desc).map (fun d => d.parameters.length) = some 2 := by decide +kernel
theorem im_M_leaves : Cond.instanceMethod yX10_leaves ∈ gT := gT_mem 1344 (by decide +kernel) (by decide +kernel)
theorem se_M_leaves : Cond.selects RX10 yX10_leaves yX10_leaves ∈ gT := gT_mem 56 (by decide +kernel) (by decide +kernel)
theorem cw_M_leave : Cond.code yX10_leave cX10_leave 2 (some .int) ∈ gT := gT_mem 1341 (by decide +kernel) (by decide +kernel)
theorem hy_M_leave : yX10_leave.cls ≠ "java/lang/invoke/MethodHandle" ∧ yX10_leave.cls ≠ "java/lang/invoke/VarHandle" ∧ (parseMethodDescriptor yX10_leave.desc).map (fun d => d.parameters.length) = some 1 := by decide +kernel
theorem im_M_leave : Cond.instanceMethod yX10_leave ∈ gT := gT_mem 1339 (by decide +kernel) (by decide +kernel)
theorem se_M_leave : Cond.selects RX10 yX10_leave yX10_leave ∈ gT := gT_mem 1340 (by decide +kernel) (by decide +kernel)
theorem cw_M_undo : Cond.code yX10_undo cX10_undo 4 (some .int) ∈ gT := gT_mem 1349 (by decide +kernel) (by decide +kernel)
theorem hy_M_undo : yX10_undo.cls ≠ "java/lang/invoke/MethodHandle" ∧ yX10_undo.cls ≠ "java/lang/invoke/VarHandle" ∧ (parseMethodDescriptor yX10_undo.desc).map (fun d => d.parameters.length) = some 1 := by decide +kernel
theorem im_M_undo : Cond.instanceMethod yX10_undo ∈ gT := gT_mem 1347 (by decide +kernel) (by decide +kernel)
theorem se_M_undo : Cond.selects RX10 yX10_undo yX10_undo ∈ gT := gT_mem 1348 (by decide +kernel) (by decide +kernel)
theorem cw_M_now : Cond.code yX10_now cX10_now 1 (some .int) ∈ gT := gT_mem 1353 (by decide +kernel) (by decide +kernel)
theorem hy_M_now : yX10_now.cls ≠ "java/lang/invoke/MethodHandle" ∧ yX10_now.cls ≠ "java/lang/invoke/VarHandle" ∧ (parseMethodDescriptor yX10_now.desc).map (fun d => d.parameters.length) = some 0 := by decide +kernel
theorem im_M_now : Cond.instanceMethod yX10_now ∈ gT := gT_mem 1351 (by decide +kernel) (by decide +kernel)
theorem se_M_now : Cond.selects RX10 yX10_now yX10_now ∈ gT := gT_mem 1352 (by decide +kernel) (by decide +kernel)
theorem cw_M_water : Cond.code yX10_water cX10_water 2 (some .int) ∈ gT := gT_mem 1357 (by decide +kernel) (by decide +kernel)
theorem hy_M_water : yX10_water.cls ≠ "java/lang/invoke/MethodHandle" ∧ yX10_water.cls ≠ "java/lang/invoke/VarHandle" ∧ (parseMethodDescriptor yX10_water.desc).map (fun d => d.parameters.length) = some 1 := by decide +kernel
theorem im_M_water : Cond.instanceMethod yX10_water ∈ gT := gT_mem 1355 (by decide +kernel) (by decide +kernel)
theorem se_M_water : Cond.selects RX10 yX10_water yX10_water ∈ gT := gT_mem 1356 (by decide +kernel) (by decide +kernel)
theorem cw_M_keep : Cond.code yX10_keep cX10_keep 3 (some .int) ∈ gT := gT_mem 1361 (by decide +kernel) (by decide +kernel)
theorem hy_M_keep : yX10_keep.cls ≠ "java/lang/invoke/MethodHandle" ∧ yX10_keep.cls ≠ "java/lang/invoke/VarHandle" ∧ (parseMethodDescriptor yX10_keep.desc).map (fun d => d.parameters.length) = some 1 := by decide +kernel
theorem im_M_keep : Cond.instanceMethod yX10_keep ∈ gT := gT_mem 1359 (by decide +kernel) (by decide +kernel)
theorem se_M_keep : Cond.selects RX10 yX10_keep yX10_keep ∈ gT := gT_mem 1360 (by decide +kernel) (by decide +kernel)
theorem cw_M_on : Cond.code yX10_on cX10_on 3 (some .int) ∈ gT := gT_mem 1365 (by decide +kernel) (by decide +kernel)
theorem hy_M_on : yX10_on.cls ≠ "java/lang/invoke/MethodHandle" ∧ yX10_on.cls ≠ "java/lang/invoke/VarHandle" ∧ (parseMethodDescriptor yX10_on.desc).map (fun d => d.parameters.length) = some 1 := by decide +kernel
theorem im_M_on : Cond.instanceMethod yX10_on ∈ gT := gT_mem 1363 (by decide +kernel) (by decide +kernel)
theorem se_M_on : Cond.selects RX10 yX10_on yX10_on ∈ gT := gT_mem 1364 (by decide +kernel) (by decide +kernel)
theorem cw_M_setMany : Cond.code yX10_setMany cX10_setMany 1 (some .int) ∈ gT := gT_mem 1373 (by decide +kernel) (by decide +kernel)
theorem hy_M_setMany : yX10_setMany.cls ≠ "java/lang/invoke/MethodHandle" ∧ yX10_setMany.cls ≠ "java/lang/invoke/VarHandle" ∧ (parseMethodDescriptor yX10_setMany.desc).map (fun d => d.parameters.length) = some 0 := by decide +kernel
theorem im_M_setMany : Cond.instanceMethod yX10_setMany ∈ gT := gT_mem 1372 (by decide +kernel) (by decide +kernel)
theorem se_M_setMany : Cond.selects RX10 yX10_setMany yX10_setMany ∈ gT := gT_mem 57 (by decide +kernel) (by decide +kernel)
theorem cw_M_copyTo : Cond.code yX10_copyTo cX10_copyTo 4 (none) ∈ gT := gT_mem 1377 (by decide +kernel) (by decide +kernel)
theorem hy_M_copyTo : yX10_copyTo.cls ≠ "java/lang/invoke/MethodHandle" ∧ yX10_copyTo.cls ≠ "java/lang/invoke/VarHandle" ∧ (parseMethodDescriptor yX10_copyTo.desc).map (fun d => d.parameters.length) = some 2 := by decide +kernel
theorem im_M_copyTo : Cond.instanceMethod yX10_copyTo ∈ gT := gT_mem 1376 (by decide +kernel) (by decide +kernel)
theorem se_M_copyTo : Cond.selects RX10 yX10_copyTo yX10_copyTo ∈ gT := gT_mem 58 (by decide +kernel) (by decide +kernel)
theorem cw_M_stampsOf : Cond.code yX10_stampsOf cX10_stampsOf 5 (some .int) ∈ gT := gT_mem 1381 (by decide +kernel) (by decide +kernel)
theorem hy_M_stampsOf : yX10_stampsOf.cls ≠ "java/lang/invoke/MethodHandle" ∧ yX10_stampsOf.cls ≠ "java/lang/invoke/VarHandle" ∧ (parseMethodDescriptor yX10_stampsOf.desc).map (fun d => d.parameters.length) = some 2 := by decide +kernel
theorem im_M_stampsOf : Cond.instanceMethod yX10_stampsOf ∈ gT := gT_mem 1380 (by decide +kernel) (by decide +kernel)
theorem se_M_stampsOf : Cond.selects RX10 yX10_stampsOf yX10_stampsOf ∈ gT := gT_mem 59 (by decide +kernel) (by decide +kernel)
theorem cw_M_run : Cond.code yX10_run cX10_run 6 (some .int) ∈ gT := gT_mem 1369 (by decide +kernel) (by decide +kernel)
theorem hy_M_run : yX10_run.cls ≠ "java/lang/invoke/MethodHandle" ∧ yX10_run.cls ≠ "java/lang/invoke/VarHandle" ∧ (parseMethodDescriptor yX10_run.desc).map (fun d => d.parameters.length) = some 1 := by decide +kernel
theorem im_M_run : Cond.instanceMethod yX10_run ∈ gT := gT_mem 1367 (by decide +kernel) (by decide +kernel)
theorem se_M_run : Cond.selects RX10 yX10_run yX10_run ∈ gT := gT_mem 1368 (by decide +kernel) (by decide +kernel)
theorem cw_M_takes : Cond.code yX10_takes cX10_takes 5 (none) ∈ gT := gT_mem 1397 (by decide +kernel) (by decide +kernel)
theorem hy_M_takes : yX10_takes.cls ≠ "java/lang/invoke/MethodHandle" ∧ yX10_takes.cls ≠ "java/lang/invoke/VarHandle" ∧ (parseMethodDescriptor yX10_takes.desc).map (fun d => d.parameters.length) = some 3 := by decide +kernel
theorem im_M_takes : Cond.instanceMethod yX10_takes ∈ gT := gT_mem 1396 (by decide +kernel) (by decide +kernel)
theorem se_M_takes : Cond.selects RX10 yX10_takes yX10_takes ∈ gT := gT_mem 62 (by decide +kernel) (by decide +kernel)
theorem cw_M_layPlans : Cond.code yX10_layPlans cX10_layPlans 9 (none) ∈ gT := gT_mem 1393 (by decide +kernel) (by decide +kernel)
theorem hy_M_layPlans : yX10_layPlans.cls ≠ "java/lang/invoke/MethodHandle" ∧ yX10_layPlans.cls ≠ "java/lang/invoke/VarHandle" ∧ (parseMethodDescriptor yX10_layPlans.desc).map (fun d => d.parameters.length) = some 5 := by decide +kernel
theorem im_M_layPlans : Cond.instanceMethod yX10_layPlans ∈ gT := gT_mem 1392 (by decide +kernel) (by decide +kernel)
theorem se_M_layPlans : Cond.selects RX10 yX10_layPlans yX10_layPlans ∈ gT := gT_mem 61 (by decide +kernel) (by decide +kernel)
theorem cw_M_allPlans : Cond.code yX10_allPlans cX10_allPlans 3 (none) ∈ gT := gT_mem 1389 (by decide +kernel) (by decide +kernel)
theorem hy_M_allPlans : yX10_allPlans.cls ≠ "java/lang/invoke/MethodHandle" ∧ yX10_allPlans.cls ≠ "java/lang/invoke/VarHandle" ∧ (parseMethodDescriptor yX10_allPlans.desc).map (fun d => d.parameters.length) = some 2 := by decide +kernel
theorem im_M_allPlans : Cond.instanceMethod yX10_allPlans ∈ gT := gT_mem 1388 (by decide +kernel) (by decide +kernel)
theorem se_M_allPlans : Cond.selects RX10 yX10_allPlans yX10_allPlans ∈ gT := gT_mem 60 (by decide +kernel) (by decide +kernel)
theorem cw_M_layRow : Cond.code yX10_layRow cX10_layRow 5 (none) ∈ gT := gT_mem 1401 (by decide +kernel) (by decide +kernel)
theorem hy_M_layRow : yX10_layRow.cls ≠ "java/lang/invoke/MethodHandle" ∧ yX10_layRow.cls ≠ "java/lang/invoke/VarHandle" ∧ (parseMethodDescriptor yX10_layRow.desc).map (fun d => d.parameters.length) = some 3 := by decide +kernel
theorem im_M_layRow : Cond.instanceMethod yX10_layRow ∈ gT := gT_mem 1400 (by decide +kernel) (by decide +kernel)
theorem se_M_layRow : Cond.selects RX10 yX10_layRow yX10_layRow ∈ gT := gT_mem 63 (by decide +kernel) (by decide +kernel)
theorem cw_M_best : Cond.code yX10_best cX10_best 3 (some .int) ∈ gT := gT_mem 1385 (by decide +kernel) (by decide +kernel)
theorem hy_M_best : yX10_best.cls ≠ "java/lang/invoke/MethodHandle" ∧ yX10_best.cls ≠ "java/lang/invoke/VarHandle" ∧ (parseMethodDescriptor yX10_best.desc).map (fun d => d.parameters.length) = some 2 := by decide +kernel
theorem im_M_best : Cond.instanceMethod yX10_best ∈ gT := gT_mem 1383 (by decide +kernel) (by decide +kernel)
theorem se_M_best : Cond.selects RX10 yX10_best yX10_best ∈ gT := gT_mem 1384 (by decide +kernel) (by decide +kernel)
theorem cw_M_fewest : Cond.code yX10_fewest cX10_fewest 4 (some .int) ∈ gT := gT_mem 1405 (by decide +kernel) (by decide +kernel)
theorem hy_M_fewest : yX10_fewest.cls ≠ "java/lang/invoke/MethodHandle" ∧ yX10_fewest.cls ≠ "java/lang/invoke/VarHandle" ∧ (parseMethodDescriptor yX10_fewest.desc).map (fun d => d.parameters.length) = some 3 := by decide +kernel
theorem im_M_fewest : Cond.instanceMethod yX10_fewest ∈ gT := gT_mem 1403 (by decide +kernel) (by decide +kernel)
theorem se_M_fewest : Cond.selects RX10 yX10_fewest yX10_fewest ∈ gT := gT_mem 1404 (by decide +kernel) (by decide +kernel)
theorem cw_M_dies : Cond.code yX10_dies cX10_dies 3 (some .int) ∈ gT := gT_mem 1409 (by decide +kernel) (by decide +kernel)
theorem hy_M_dies : yX10_dies.cls ≠ "java/lang/invoke/MethodHandle" ∧ yX10_dies.cls ≠ "java/lang/invoke/VarHandle" ∧ (parseMethodDescriptor yX10_dies.desc).map (fun d => d.parameters.length) = some 0 := by decide +kernel
theorem im_M_dies : Cond.instanceMethod yX10_dies ∈ gT := gT_mem 1407 (by decide +kernel) (by decide +kernel)
theorem se_M_dies : Cond.selects RX10 yX10_dies yX10_dies ∈ gT := gT_mem 1408 (by decide +kernel) (by decide +kernel)
theorem cw_M_passesOf : Cond.code yX10_passesOf cX10_passesOf 5 (some .int) ∈ gT := gT_mem 1417 (by decide +kernel) (by decide +kernel)
theorem hy_M_passesOf : yX10_passesOf.cls ≠ "java/lang/invoke/MethodHandle" ∧ yX10_passesOf.cls ≠ "java/lang/invoke/VarHandle" ∧ (parseMethodDescriptor yX10_passesOf.desc).map (fun d => d.parameters.length) = some 2 := by decide +kernel
theorem im_M_passesOf : Cond.instanceMethod yX10_passesOf ∈ gT := gT_mem 1416 (by decide +kernel) (by decide +kernel)
theorem se_M_passesOf : Cond.selects RX10 yX10_passesOf yX10_passesOf ∈ gT := gT_mem 64 (by decide +kernel) (by decide +kernel)
theorem cw_M_barge : Cond.code yX10_barge cX10_barge 3 (some .int) ∈ gT := gT_mem 1413 (by decide +kernel) (by decide +kernel)
theorem hy_M_barge : yX10_barge.cls ≠ "java/lang/invoke/MethodHandle" ∧ yX10_barge.cls ≠ "java/lang/invoke/VarHandle" ∧ (parseMethodDescriptor yX10_barge.desc).map (fun d => d.parameters.length) = some 2 := by decide +kernel
theorem im_M_barge : Cond.instanceMethod yX10_barge ∈ gT := gT_mem 1411 (by decide +kernel) (by decide +kernel)
theorem se_M_barge : Cond.selects RX10 yX10_barge yX10_barge ∈ gT := gT_mem 1412 (by decide +kernel) (by decide +kernel)
theorem cw_M_needArms : Cond.code yX10_needArms cX10_needArms 2 (some .int) ∈ gT := gT_mem 1425 (by decide +kernel) (by decide +kernel)
theorem hy_M_needArms : yX10_needArms.cls ≠ "java/lang/invoke/MethodHandle" ∧ yX10_needArms.cls ≠ "java/lang/invoke/VarHandle" ∧ (parseMethodDescriptor yX10_needArms.desc).map (fun d => d.parameters.length) = some 1 := by decide +kernel
theorem im_M_needArms : Cond.instanceMethod yX10_needArms ∈ gT := gT_mem 1424 (by decide +kernel) (by decide +kernel)
theorem se_M_needArms : Cond.selects RX10 yX10_needArms yX10_needArms ∈ gT := gT_mem 65 (by decide +kernel) (by decide +kernel)
theorem cw_M_saltBy : Cond.code yX10_saltBy cX10_saltBy 6 (some .int) ∈ gT := gT_mem 1429 (by decide +kernel) (by decide +kernel)
theorem hy_M_saltBy : yX10_saltBy.cls ≠ "java/lang/invoke/MethodHandle" ∧ yX10_saltBy.cls ≠ "java/lang/invoke/VarHandle" ∧ (parseMethodDescriptor yX10_saltBy.desc).map (fun d => d.parameters.length) = some 2 := by decide +kernel
theorem im_M_saltBy : Cond.instanceMethod yX10_saltBy ∈ gT := gT_mem 1428 (by decide +kernel) (by decide +kernel)
theorem se_M_saltBy : Cond.selects RX10 yX10_saltBy yX10_saltBy ∈ gT := gT_mem 66 (by decide +kernel) (by decide +kernel)
theorem cw_M_fits : Cond.code yX10_fits cX10_fits 7 (some .int) ∈ gT := gT_mem 1421 (by decide +kernel) (by decide +kernel)
theorem hy_M_fits : yX10_fits.cls ≠ "java/lang/invoke/MethodHandle" ∧ yX10_fits.cls ≠ "java/lang/invoke/VarHandle" ∧ (parseMethodDescriptor yX10_fits.desc).map (fun d => d.parameters.length) = some 1 := by decide +kernel
theorem im_M_fits : Cond.instanceMethod yX10_fits ∈ gT := gT_mem 1419 (by decide +kernel) (by decide +kernel)
theorem se_M_fits : Cond.selects RX10 yX10_fits yX10_fits ∈ gT := gT_mem 1420 (by decide +kernel) (by decide +kernel)
theorem cw_M_opened : Cond.code yX10_opened cX10_opened 7 (some .int) ∈ gT := gT_mem 1433 (by decide +kernel) (by decide +kernel)
theorem hy_M_opened : yX10_opened.cls ≠ "java/lang/invoke/MethodHandle" ∧ yX10_opened.cls ≠ "java/lang/invoke/VarHandle" ∧ (parseMethodDescriptor yX10_opened.desc).map (fun d => d.parameters.length) = some 1 := by decide +kernel
theorem im_M_opened : Cond.instanceMethod yX10_opened ∈ gT := gT_mem 1431 (by decide +kernel) (by decide +kernel)
theorem se_M_opened : Cond.selects RX10 yX10_opened yX10_opened ∈ gT := gT_mem 1432 (by decide +kernel) (by decide +kernel)
theorem cw_M_owedBy : Cond.code yX10_owedBy cX10_owedBy 6 (some .long) ∈ gT := gT_mem 1441 (by decide +kernel) (by decide +kernel)
theorem hy_M_owedBy : yX10_owedBy.cls ≠ "java/lang/invoke/MethodHandle" ∧ yX10_owedBy.cls ≠ "java/lang/invoke/VarHandle" ∧ (parseMethodDescriptor yX10_owedBy.desc).map (fun d => d.parameters.length) = some 2 := by decide +kernel
theorem im_M_owedBy : Cond.instanceMethod yX10_owedBy ∈ gT := gT_mem 1440 (by decide +kernel) (by decide +kernel)
theorem se_M_owedBy : Cond.selects RX10 yX10_owedBy yX10_owedBy ∈ gT := gT_mem 67 (by decide +kernel) (by decide +kernel)
theorem cw_M_parts : Cond.code yX10_parts cX10_parts 5 (some .int) ∈ gT := gT_mem 1445 (by decide +kernel) (by decide +kernel)
theorem hy_M_parts : yX10_parts.cls ≠ "java/lang/invoke/MethodHandle" ∧ yX10_parts.cls ≠ "java/lang/invoke/VarHandle" ∧ (parseMethodDescriptor yX10_parts.desc).map (fun d => d.parameters.length) = some 2 := by decide +kernel
theorem im_M_parts : Cond.instanceMethod yX10_parts ∈ gT := gT_mem 1444 (by decide +kernel) (by decide +kernel)
theorem se_M_parts : Cond.selects RX10 yX10_parts yX10_parts ∈ gT := gT_mem 68 (by decide +kernel) (by decide +kernel)
theorem cw_M_settle : Cond.code yX10_settle cX10_settle 5 (some .int) ∈ gT := gT_mem 1437 (by decide +kernel) (by decide +kernel)
theorem hy_M_settle : yX10_settle.cls ≠ "java/lang/invoke/MethodHandle" ∧ yX10_settle.cls ≠ "java/lang/invoke/VarHandle" ∧ (parseMethodDescriptor yX10_settle.desc).map (fun d => d.parameters.length) = some 1 := by decide +kernel
theorem im_M_settle : Cond.instanceMethod yX10_settle ∈ gT := gT_mem 1435 (by decide +kernel) (by decide +kernel)
theorem se_M_settle : Cond.selects RX10 yX10_settle yX10_settle ∈ gT := gT_mem 1436 (by decide +kernel) (by decide +kernel)
theorem cw_M_waitMany : Cond.code yX10_waitMany cX10_waitMany 3 (some .int) ∈ gT := gT_mem 1453 (by decide +kernel) (by decide +kernel)
theorem hy_M_waitMany : yX10_waitMany.cls ≠ "java/lang/invoke/MethodHandle" ∧ yX10_waitMany.cls ≠ "java/lang/invoke/VarHandle" ∧ (parseMethodDescriptor yX10_waitMany.desc).map (fun d => d.parameters.length) = some 0 := by decide +kernel
theorem im_M_waitMany : Cond.instanceMethod yX10_waitMany ∈ gT := gT_mem 1452 (by decide +kernel) (by decide +kernel)
theorem se_M_waitMany : Cond.selects RX10 yX10_waitMany yX10_waitMany ∈ gT := gT_mem 69 (by decide +kernel) (by decide +kernel)
theorem cw_M_stalled : Cond.code yX10_stalled cX10_stalled 6 (some .int) ∈ gT := gT_mem 1449 (by decide +kernel) (by decide +kernel)
theorem hy_M_stalled : yX10_stalled.cls ≠ "java/lang/invoke/MethodHandle" ∧ yX10_stalled.cls ≠ "java/lang/invoke/VarHandle" ∧ (parseMethodDescriptor yX10_stalled.desc).map (fun d => d.parameters.length) = some 0 := by decide +kernel
theorem im_M_stalled : Cond.instanceMethod yX10_stalled ∈ gT := gT_mem 1447 (by decide +kernel) (by decide +kernel)
theorem se_M_stalled : Cond.selects RX10 yX10_stalled yX10_stalled ∈ gT := gT_mem 1448 (by decide +kernel) (by decide +kernel)
theorem cw_M_layBack : Cond.code yX10_layBack cX10_layBack 5 (some .int) ∈ gT := gT_mem 1465 (by decide +kernel) (by decide +kernel)
theorem hy_M_layBack : yX10_layBack.cls ≠ "java/lang/invoke/MethodHandle" ∧ yX10_layBack.cls ≠ "java/lang/invoke/VarHandle" ∧ (parseMethodDescriptor yX10_layBack.desc).map (fun d => d.parameters.length) = some 0 := by decide +kernel
theorem im_M_layBack : Cond.instanceMethod yX10_layBack ∈ gT := gT_mem 1464 (by decide +kernel) (by decide +kernel)
theorem se_M_layBack : Cond.selects RX10 yX10_layBack yX10_layBack ∈ gT := gT_mem 71 (by decide +kernel) (by decide +kernel)
theorem cw_M_isAhead : Cond.code yX10_isAhead cX10_isAhead 3 (some .boolean) ∈ gT := gT_mem 1469 (by decide +kernel) (by decide +kernel)
theorem hy_M_isAhead : yX10_isAhead.cls ≠ "java/lang/invoke/MethodHandle" ∧ yX10_isAhead.cls ≠ "java/lang/invoke/VarHandle" ∧ (parseMethodDescriptor yX10_isAhead.desc).map (fun d => d.parameters.length) = some 1 := by decide +kernel
theorem im_M_isAhead : Cond.instanceMethod yX10_isAhead ∈ gT := gT_mem 1468 (by decide +kernel) (by decide +kernel)
theorem se_M_isAhead : Cond.selects RX10 yX10_isAhead yX10_isAhead ∈ gT := gT_mem 72 (by decide +kernel) (by decide +kernel)
theorem cw_M_layOrders : Cond.code yX10_layOrders cX10_layOrders 5 (none) ∈ gT := gT_mem 1461 (by decide +kernel) (by decide +kernel)
theorem hy_M_layOrders : yX10_layOrders.cls ≠ "java/lang/invoke/MethodHandle" ∧ yX10_layOrders.cls ≠ "java/lang/invoke/VarHandle" ∧ (parseMethodDescriptor yX10_layOrders.desc).map (fun d => d.parameters.length) = some 2 := by decide +kernel
theorem im_M_layOrders : Cond.instanceMethod yX10_layOrders ∈ gT := gT_mem 1460 (by decide +kernel) (by decide +kernel)
theorem se_M_layOrders : Cond.selects RX10 yX10_layOrders yX10_layOrders ∈ gT := gT_mem 70 (by decide +kernel) (by decide +kernel)
theorem cw_M_loosen : Cond.code yX10_loosen cX10_loosen 2 (some .int) ∈ gT := gT_mem 1457 (by decide +kernel) (by decide +kernel)
theorem hy_M_loosen : yX10_loosen.cls ≠ "java/lang/invoke/MethodHandle" ∧ yX10_loosen.cls ≠ "java/lang/invoke/VarHandle" ∧ (parseMethodDescriptor yX10_loosen.desc).map (fun d => d.parameters.length) = some 1 := by decide +kernel
theorem im_M_loosen : Cond.instanceMethod yX10_loosen ∈ gT := gT_mem 1455 (by decide +kernel) (by decide +kernel)
theorem se_M_loosen : Cond.selects RX10 yX10_loosen yX10_loosen ∈ gT := gT_mem 1456 (by decide +kernel) (by decide +kernel)
theorem cw_M_eels : Cond.code yX10_eels cX10_eels 5 (some .int) ∈ gT := gT_mem 1473 (by decide +kernel) (by decide +kernel)
theorem hy_M_eels : yX10_eels.cls ≠ "java/lang/invoke/MethodHandle" ∧ yX10_eels.cls ≠ "java/lang/invoke/VarHandle" ∧ (parseMethodDescriptor yX10_eels.desc).map (fun d => d.parameters.length) = some 2 := by decide +kernel
theorem im_M_eels : Cond.instanceMethod yX10_eels ∈ gT := gT_mem 1471 (by decide +kernel) (by decide +kernel)
theorem se_M_eels : Cond.selects RX10 yX10_eels yX10_eels ∈ gT := gT_mem 1472 (by decide +kernel) (by decide +kernel)
theorem cw_M_part : Cond.code yX10_part cX10_part 6 (some .int) ∈ gT := gT_mem 1481 (by decide +kernel) (by decide +kernel)
theorem hy_M_part : yX10_part.cls ≠ "java/lang/invoke/MethodHandle" ∧ yX10_part.cls ≠ "java/lang/invoke/VarHandle" ∧ (parseMethodDescriptor yX10_part.desc).map (fun d => d.parameters.length) = some 2 := by decide +kernel
theorem im_M_part : Cond.instanceMethod yX10_part ∈ gT := gT_mem 1480 (by decide +kernel) (by decide +kernel)
theorem se_M_part : Cond.selects RX10 yX10_part yX10_part ∈ gT := gT_mem 73 (by decide +kernel) (by decide +kernel)
theorem cw_M_odds : Cond.code yX10_odds cX10_odds 6 (some .int) ∈ gT := gT_mem 1477 (by decide +kernel) (by decide +kernel)
theorem hy_M_odds : yX10_odds.cls ≠ "java/lang/invoke/MethodHandle" ∧ yX10_odds.cls ≠ "java/lang/invoke/VarHandle" ∧ (parseMethodDescriptor yX10_odds.desc).map (fun d => d.parameters.length) = some 1 := by decide +kernel
theorem im_M_odds : Cond.instanceMethod yX10_odds ∈ gT := gT_mem 1475 (by decide +kernel) (by decide +kernel)
theorem se_M_odds : Cond.selects RX10 yX10_odds yX10_odds ∈ gT := gT_mem 1476 (by decide +kernel) (by decide +kernel)
theorem cw_M_lots : Cond.code yX10_lots cX10_lots 9 (some .int) ∈ gT := gT_mem 1485 (by decide +kernel) (by decide +kernel)
theorem hy_M_lots : yX10_lots.cls ≠ "java/lang/invoke/MethodHandle" ∧ yX10_lots.cls ≠ "java/lang/invoke/VarHandle" ∧ (parseMethodDescriptor yX10_lots.desc).map (fun d => d.parameters.length) = some 2 := by decide +kernel
theorem im_M_lots : Cond.instanceMethod yX10_lots ∈ gT := gT_mem 1483 (by decide +kernel) (by decide +kernel)
theorem se_M_lots : Cond.selects RX10 yX10_lots yX10_lots ∈ gT := gT_mem 1484 (by decide +kernel) (by decide +kernel)
theorem cw_M_counted : Cond.code yX10_counted cX10_counted 4 (some .int) ∈ gT := gT_mem 1498 (by decide +kernel) (by decide +kernel)
theorem hy_M_counted : yX10_counted.cls ≠ "java/lang/invoke/MethodHandle" ∧ yX10_counted.cls ≠ "java/lang/invoke/VarHandle" ∧ (parseMethodDescriptor yX10_counted.desc).map (fun d => d.parameters.length) = some 1 := by decide +kernel
theorem im_M_counted : Cond.instanceMethod yX10_counted ∈ gT := gT_mem 1497 (by decide +kernel) (by decide +kernel)
theorem se_M_counted : Cond.selects RX10 yX10_counted yX10_counted ∈ gT := gT_mem 74 (by decide +kernel) (by decide +kernel)
theorem cw_M_count : Cond.code yX10_count cX10_count 2 (some .int) ∈ gT := gT_mem 1494 (by decide +kernel) (by decide +kernel)
theorem hy_M_count : yX10_count.cls ≠ "java/lang/invoke/MethodHandle" ∧ yX10_count.cls ≠ "java/lang/invoke/VarHandle" ∧ (parseMethodDescriptor yX10_count.desc).map (fun d => d.parameters.length) = some 1 := by decide +kernel
theorem im_M_count : Cond.instanceMethod yX10_count ∈ gT := gT_mem 1492 (by decide +kernel) (by decide +kernel)
theorem se_M_count : Cond.selects RX10 yX10_count yX10_count ∈ gT := gT_mem 1493 (by decide +kernel) (by decide +kernel)
theorem cw_M_mix : Cond.code yX10_mix cX10_mix 3 (none) ∈ gT := gT_mem 1507 (by decide +kernel) (by decide +kernel)
theorem hy_M_mix : yX10_mix.cls ≠ "java/lang/invoke/MethodHandle" ∧ yX10_mix.cls ≠ "java/lang/invoke/VarHandle" ∧ (parseMethodDescriptor yX10_mix.desc).map (fun d => d.parameters.length) = some 1 := by decide +kernel
theorem im_M_mix : Cond.instanceMethod yX10_mix ∈ gT := gT_mem 1506 (by decide +kernel) (by decide +kernel)
theorem se_M_mix : Cond.selects RX10 yX10_mix yX10_mix ∈ gT := gT_mem 75 (by decide +kernel) (by decide +kernel)
theorem cw_M_mixDelta : Cond.code yX10_mixDelta cX10_mixDelta 3 (none) ∈ gT := gT_mem 1512 (by decide +kernel) (by decide +kernel)
theorem hy_M_mixDelta : yX10_mixDelta.cls ≠ "java/lang/invoke/MethodHandle" ∧ yX10_mixDelta.cls ≠ "java/lang/invoke/VarHandle" ∧ (parseMethodDescriptor yX10_mixDelta.desc).map (fun d => d.parameters.length) = some 0 := by decide +kernel
theorem im_M_mixDelta : Cond.instanceMethod yX10_mixDelta ∈ gT := gT_mem 1511 (by decide +kernel) (by decide +kernel)
theorem se_M_mixDelta : Cond.selects RX10 yX10_mixDelta yX10_mixDelta ∈ gT := gT_mem 76 (by decide +kernel) (by decide +kernel)
theorem cw_M_digest : Cond.code yX10_digest cX10_digest 3 (some .long) ∈ gT := gT_mem 1502 (by decide +kernel) (by decide +kernel)
theorem hy_M_digest : yX10_digest.cls ≠ "java/lang/invoke/MethodHandle" ∧ yX10_digest.cls ≠ "java/lang/invoke/VarHandle" ∧ (parseMethodDescriptor yX10_digest.desc).map (fun d => d.parameters.length) = some 0 := by decide +kernel
theorem im_M_digest : Cond.instanceMethod yX10_digest ∈ gT := gT_mem 1500 (by decide +kernel) (by decide +kernel)
theorem se_M_digest : Cond.selects RX10 yX10_digest yX10_digest ∈ gT := gT_mem 1501 (by decide +kernel) (by decide +kernel)
