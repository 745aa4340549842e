theorem lkJ0_coder_7d493 : Cond.code yJ0_coder_7d493 cJ0_coder_7d493 1 (some .byte) ∈ gd_tbl := in_I 567 (by decide +kernel)
theorem ldJ0_coder_7d493 : okD yJ0_coder_7d493 0 := ⟨by decide +kernel, by decide +kernel, by decide +kernel⟩
theorem lnJ0_coder_7d493 : Cond.instanceMethod yJ0_coder_7d493 ∈ gd_tbl := in_I 565 (by decide +kernel)
theorem leJ0_coder_7d493 : Cond.selects RJ0 yJ0_coder_7d493 yJ0_coder_7d493 ∈ gd_tbl := in_I 566 (by decide +kernel)
theorem liRJ0 : Cond.initialized RJ0 ∈ gd_tbl := in_I 116 (by decide +kernel)
theorem lkJ1_canEncode_9a6ad : Cond.code yJ1_canEncode_9a6ad cJ1_canEncode_9a6ad 1 (some .boolean) ∈ gd_tbl := in_I 573 (by decide +kernel)
theorem ldJ1_canEncode_9a6ad : okD yJ1_canEncode_9a6ad 1 := ⟨by decide +kernel, by decide +kernel, by decide +kernel⟩
theorem ltJ1_canEncode_9a6ad : Cond.static yJ1_canEncode_9a6ad ∈ gd_tbl := in_I 572 (by decide +kernel)
theorem liRJ1 : Cond.initialized RJ1 ∈ gd_tbl := in_I 117 (by decide +kernel)
theorem lkJ1_indexOfChar_4cfef : Cond.code yJ1_indexOfChar_4cfef cJ1_indexOfChar_4cfef 6 (some .int) ∈ gd_tbl := in_I 582 (by decide +kernel)
theorem ldJ1_indexOfChar_4cfef : okD yJ1_indexOfChar_4cfef 4 := ⟨by decide +kernel, by decide +kernel, by decide +kernel⟩
theorem ltJ1_indexOfChar_4cfef : Cond.static yJ1_indexOfChar_4cfef ∈ gd_tbl := in_I 581 (by decide +kernel)
theorem lkJ0_isLatin1_aae02 : Cond.code yJ0_isLatin1_aae02 cJ0_isLatin1_aae02 1 (some .boolean) ∈ gd_tbl := in_I 557 (by decide +kernel)
theorem ldJ0_isLatin1_aae02 : okD yJ0_isLatin1_aae02 0 := ⟨by decide +kernel, by decide +kernel, by decide +kernel⟩
theorem lnJ0_isLatin1_aae02 : Cond.instanceMethod yJ0_isLatin1_aae02 ∈ gd_tbl := in_I 555 (by decide +kernel)
theorem leJ0_isLatin1_aae02 : Cond.selects RJ0 yJ0_isLatin1_aae02 yJ0_isLatin1_aae02 ∈ gd_tbl := in_I 556 (by decide +kernel)
theorem lkJ0_length_8abf5 : Cond.code yJ0_length_8abf5 cJ0_length_8abf5 1 (some .int) ∈ gd_tbl := in_I 563 (by decide +kernel)
theorem ldJ0_length_8abf5 : okD yJ0_length_8abf5 0 := ⟨by decide +kernel, by decide +kernel, by decide +kernel⟩
theorem lnJ0_length_8abf5 : Cond.instanceMethod yJ0_length_8abf5 ∈ gd_tbl := in_I 561 (by decide +kernel)
theorem leJ0_length_8abf5 : Cond.selects RJ0 yJ0_length_8abf5 yJ0_length_8abf5 ∈ gd_tbl := in_I 562 (by decide +kernel)
theorem lkJ1_indexOf_4cfef : Cond.code yJ1_indexOf_4cfef cJ1_indexOf_4cfef 4 (some .int) ∈ gd_tbl := in_I 570 (by decide +kernel)
theorem ldJ1_indexOf_4cfef : okD yJ1_indexOf_4cfef 4 := ⟨by decide +kernel, by decide +kernel, by decide +kernel⟩
theorem ltJ1_indexOf_4cfef : Cond.static yJ1_indexOf_4cfef ∈ gd_tbl := in_I 569 (by decide +kernel)
theorem lkJ0_indexOf_7cf53 : Cond.code yJ0_indexOf_7cf53 cJ0_indexOf_7cf53 3 (some .int) ∈ gd_tbl := in_I 553 (by decide +kernel)
theorem ldJ0_indexOf_7cf53 : okD yJ0_indexOf_7cf53 2 := ⟨by decide +kernel, by decide +kernel, by decide +kernel⟩
theorem lnJ0_indexOf_7cf53 : Cond.instanceMethod yJ0_indexOf_7cf53 ∈ gd_tbl := in_I 551 (by decide +kernel)
theorem leJ0_indexOf_7cf53 : Cond.selects RJ0 yJ0_indexOf_7cf53 yJ0_indexOf_7cf53 ∈ gd_tbl := in_I 552 (by decide +kernel)
theorem lkJ6_bitCount_0f7a4 : Cond.code yJ6_bitCount_0f7a4 cJ6_bitCount_0f7a4 1 (some .int) ∈ gd_tbl := in_I 774 (by decide +kernel)
theorem ldJ6_bitCount_0f7a4 : okD yJ6_bitCount_0f7a4 1 := ⟨by decide +kernel, by decide +kernel, by decide +kernel⟩
theorem ltJ6_bitCount_0f7a4 : Cond.static yJ6_bitCount_0f7a4 ∈ gd_tbl := in_I 773 (by decide +kernel)
theorem liRJ6 : Cond.initialized RJ6 ∈ gd_tbl := in_I 123 (by decide +kernel)
theorem lkX0_sharedWord : Cond.code yX0_sharedWord cX0_sharedWord 6 (some .long) ∈ gd_tbl := in_I 736 (by decide +kernel)
theorem ldX0_sharedWord : okD yX0_sharedWord 2 := ⟨by decide +kernel, by decide +kernel, by decide +kernel⟩
theorem lnX0_sharedWord : Cond.instanceMethod yX0_sharedWord ∈ gd_tbl := in_I 734 (by decide +kernel)
theorem leX0_sharedWord : Cond.selects RX0 yX0_sharedWord yX0_sharedWord ∈ gd_tbl := in_I 735 (by decide +kernel)
theorem liRX0 : Cond.initialized RX0 ∈ gd_tbl := in_I 106 (by decide +kernel)
theorem lkX8_at : Cond.code yX8_at cX8_at 2 (some .int) ∈ gd_tbl := in_I 526 (by decide +kernel)
theorem ldX8_at : okD yX8_at 1 := ⟨by decide +kernel, by decide +kernel, by decide +kernel⟩
theorem lnX8_at : Cond.instanceMethod yX8_at ∈ gd_tbl := in_I 524 (by decide +kernel)
theorem leX8_at : Cond.selects RX8 yX8_at yX8_at ∈ gd_tbl := in_I 525 (by decide +kernel)
theorem liRX8 : Cond.initialized RX8 ∈ gd_tbl := in_I 103 (by decide +kernel)
theorem lkX4_fail : Cond.code yX4_fail cX4_fail 2 none ∈ gd_tbl := in_I 532 (by decide +kernel)
theorem ldX4_fail : okD yX4_fail 1 := ⟨by decide +kernel, by decide +kernel, by decide +kernel⟩
theorem lnX4_fail : Cond.instanceMethod yX4_fail ∈ gd_tbl := in_I 531 (by decide +kernel)
theorem liRX4 : Cond.initialized RX4 ∈ gd_tbl := in_I 104 (by decide +kernel)
theorem lkX4_here : Cond.code yX4_here cX4_here 1 (some .int) ∈ gd_tbl := in_I 522 (by decide +kernel)
theorem ldX4_here : okD yX4_here 0 := ⟨by decide +kernel, by decide +kernel, by decide +kernel⟩
theorem lnX4_here : Cond.instanceMethod yX4_here ∈ gd_tbl := in_I 521 (by decide +kernel)
theorem lkX1_piece : Cond.code yX1_piece cX1_piece 5 (some .long) ∈ gd_tbl := in_I 685 (by decide +kernel)
theorem ldX1_piece : okD yX1_piece 1 := ⟨by decide +kernel, by decide +kernel, by decide +kernel⟩
theorem lnX1_piece : Cond.instanceMethod yX1_piece ∈ gd_tbl := in_I 684 (by decide +kernel)
theorem leX1_piece : Cond.selects RX1 yX1_piece yX1_piece ∈ gd_tbl := in_I 13 (by decide +kernel)
theorem liRX1 : Cond.initialized RX1 ∈ gd_tbl := in_I 105 (by decide +kernel)
theorem lkX1_canBegin : Cond.code yX1_canBegin cX1_canBegin 1 (some .boolean) ∈ gd_tbl := in_I 691 (by decide +kernel)
theorem ldX1_canBegin : okD yX1_canBegin 1 := ⟨by decide +kernel, by decide +kernel, by decide +kernel⟩
theorem ltX1_canBegin : Cond.static yX1_canBegin ∈ gd_tbl := in_I 690 (by decide +kernel)
theorem lkX7_soWord : Cond.code yX7_soWord cX7_soWord 2 (some .long) ∈ gd_tbl := in_I 697 (by decide +kernel)
theorem ldX7_soWord : okD yX7_soWord 2 := ⟨by decide +kernel, by decide +kernel, by decide +kernel⟩
theorem ltX7_soWord : Cond.static yX7_soWord ∈ gd_tbl := in_I 696 (by decide +kernel)
theorem liRX7 : Cond.initialized RX7 ∈ gd_tbl := in_I 108 (by decide +kernel)
theorem lkX4_open : Cond.code yX4_open cX4_open 2 none ∈ gd_tbl := in_I 637 (by decide +kernel)
theorem ldX4_open : okD yX4_open 1 := ⟨by decide +kernel, by decide +kernel, by decide +kernel⟩
theorem lnX4_open : Cond.instanceMethod yX4_open ∈ gd_tbl := in_I 636 (by decide +kernel)
theorem lkX1_formula : Cond.code yX1_formula cX1_formula 12 (some .long) ∈ gd_tbl := in_I 681 (by decide +kernel)
theorem ldX1_formula : okD yX1_formula 1 := ⟨by decide +kernel, by decide +kernel, by decide +kernel⟩
theorem lnX1_formula : Cond.instanceMethod yX1_formula ∈ gd_tbl := in_I 680 (by decide +kernel)
theorem leX1_formula : Cond.selects RX1 yX1_formula yX1_formula ∈ gd_tbl := in_I 12 (by decide +kernel)
theorem lkX4_expect : Cond.code yX4_expect cX4_expect 2 none ∈ gd_tbl := in_I 644 (by decide +kernel)
theorem ldX4_expect : okD yX4_expect 1 := ⟨by decide +kernel, by decide +kernel, by decide +kernel⟩
theorem lnX4_expect : Cond.instanceMethod yX4_expect ∈ gd_tbl := in_I 643 (by decide +kernel)
theorem lkX1_soMany : Cond.code yX1_soMany cX1_soMany 18 (some .long) ∈ gd_tbl := in_I 707 (by decide +kernel)
theorem ldX1_soMany : okD yX1_soMany 2 := ⟨by decide +kernel, by decide +kernel, by decide +kernel⟩
theorem lnX1_soMany : Cond.instanceMethod yX1_soMany ∈ gd_tbl := in_I 706 (by decide +kernel)
theorem leX1_soMany : Cond.selects RX1 yX1_soMany yX1_soMany ∈ gd_tbl := in_I 14 (by decide +kernel)
theorem lkX4_begin : Cond.code yX4_begin cX4_begin 2 none ∈ gd_tbl := in_I 512 (by decide +kernel)
theorem ldX4_begin : okD yX4_begin 1 := ⟨by decide +kernel, by decide +kernel, by decide +kernel⟩
theorem lnX4_begin : Cond.instanceMethod yX4_begin ∈ gd_tbl := in_I 511 (by decide +kernel)
theorem lkX2_emit : Cond.code yX2_emit cX2_emit 2 none ∈ gd_tbl := in_I 536 (by decide +kernel)
theorem ldX2_emit : okD yX2_emit 1 := ⟨by decide +kernel, by decide +kernel, by decide +kernel⟩
theorem lnX2_emit : Cond.instanceMethod yX2_emit ∈ gd_tbl := in_I 535 (by decide +kernel)
theorem leX2_emit : Cond.selects RX2 yX2_emit yX2_emit ∈ gd_tbl := in_I 4 (by decide +kernel)
theorem liRX2 : Cond.initialized RX2 ∈ gd_tbl := in_I 111 (by decide +kernel)
theorem lkX2_readFactor : Cond.code yX2_readFactor cX2_readFactor 4 none ∈ gd_tbl := in_I 544 (by decide +kernel)
theorem ldX2_readFactor : okD yX2_readFactor 1 := ⟨by decide +kernel, by decide +kernel, by decide +kernel⟩
theorem lnX2_readFactor : Cond.instanceMethod yX2_readFactor ∈ gd_tbl := in_I 543 (by decide +kernel)
theorem leX2_readFactor : Cond.selects RX2 yX2_readFactor yX2_readFactor ∈ gd_tbl := in_I 6 (by decide +kernel)
theorem lkX2_readSum : Cond.code yX2_readSum cX2_readSum 5 none ∈ gd_tbl := in_I 540 (by decide +kernel)
theorem ldX2_readSum : okD yX2_readSum 1 := ⟨by decide +kernel, by decide +kernel, by decide +kernel⟩
theorem lnX2_readSum : Cond.instanceMethod yX2_readSum ∈ gd_tbl := in_I 539 (by decide +kernel)
theorem leX2_readSum : Cond.selects RX2 yX2_readSum yX2_readSum ∈ gd_tbl := in_I 5 (by decide +kernel)
theorem lkX2_readNumber : Cond.code yX2_readNumber cX2_readNumber 4 none ∈ gd_tbl := in_I 649 (by decide +kernel)
theorem ldX2_readNumber : okD yX2_readNumber 0 := ⟨by decide +kernel, by decide +kernel, by decide +kernel⟩
theorem lnX2_readNumber : Cond.instanceMethod yX2_readNumber ∈ gd_tbl := in_I 648 (by decide +kernel)
theorem leX2_readNumber : Cond.selects RX2 yX2_readNumber yX2_readNumber ∈ gd_tbl := in_I 7 (by decide +kernel)
theorem lkJ0_indexOf_0f7a4 : Cond.code yJ0_indexOf_0f7a4 cJ0_indexOf_0f7a4 2 (some .int) ∈ gd_tbl := in_I 549 (by decide +kernel)
theorem ldJ0_indexOf_0f7a4 : okD yJ0_indexOf_0f7a4 1 := ⟨by decide +kernel, by decide +kernel, by decide +kernel⟩
theorem lnJ0_indexOf_0f7a4 : Cond.instanceMethod yJ0_indexOf_0f7a4 ∈ gd_tbl := in_I 547 (by decide +kernel)
theorem leJ0_indexOf_0f7a4 : Cond.selects RJ0 yJ0_indexOf_0f7a4 yJ0_indexOf_0f7a4 ∈ gd_tbl := in_I 548 (by decide +kernel)
theorem lkX2_readTest : Cond.code yX2_readTest cX2_readTest 4 none ∈ gd_tbl := in_I 658 (by decide +kernel)
theorem ldX2_readTest : okD yX2_readTest 1 := ⟨by decide +kernel, by decide +kernel, by decide +kernel⟩
theorem lnX2_readTest : Cond.instanceMethod yX2_readTest ∈ gd_tbl := in_I 657 (by decide +kernel)
theorem leX2_readTest : Cond.selects RX2 yX2_readTest yX2_readTest ∈ gd_tbl := in_I 9 (by decide +kernel)
theorem lkX2_landSkip : Cond.code yX2_landSkip cX2_landSkip 2 none ∈ gd_tbl := in_I 662 (by decide +kernel)
theorem ldX2_landSkip : okD yX2_landSkip 1 := ⟨by decide +kernel, by decide +kernel, by decide +kernel⟩
theorem lnX2_landSkip : Cond.instanceMethod yX2_landSkip ∈ gd_tbl := in_I 661 (by decide +kernel)
theorem leX2_landSkip : Cond.selects RX2 yX2_landSkip yX2_landSkip ∈ gd_tbl := in_I 10 (by decide +kernel)
theorem lkX2_readSome : Cond.code yX2_readSome cX2_readSome 6 none ∈ gd_tbl := in_I 654 (by decide +kernel)
theorem ldX2_readSome : okD yX2_readSome 1 := ⟨by decide +kernel, by decide +kernel, by decide +kernel⟩
theorem lnX2_readSome : Cond.instanceMethod yX2_readSome ∈ gd_tbl := in_I 653 (by decide +kernel)
theorem leX2_readSome : Cond.selects RX2 yX2_readSome yX2_readSome ∈ gd_tbl := in_I 8 (by decide +kernel)
theorem lkX2_readRule : Cond.code yX2_readRule cX2_readRule 3 none ∈ gd_tbl := in_I 516 (by decide +kernel)
theorem ldX2_readRule : okD yX2_readRule 1 := ⟨by decide +kernel, by decide +kernel, by decide +kernel⟩
theorem lnX2_readRule : Cond.instanceMethod yX2_readRule ∈ gd_tbl := in_I 515 (by decide +kernel)
theorem leX2_readRule : Cond.selects RX2 yX2_readRule yX2_readRule ∈ gd_tbl := in_I 3 (by decide +kernel)
theorem lkX6_month : Cond.code yX6_month cX6_month 1 (some .int) ∈ gd_tbl := in_I 790 (by decide +kernel)
theorem ldX6_month : okD yX6_month 0 := ⟨by decide +kernel, by decide +kernel, by decide +kernel⟩
theorem lnX6_month : Cond.instanceMethod yX6_month ∈ gd_tbl := in_I 788 (by decide +kernel)
theorem leX6_month : Cond.selects RX6 yX6_month yX6_month ∈ gd_tbl := in_I 789 (by decide +kernel)
theorem liRX6 : Cond.initialized RX6 ∈ gd_tbl := in_I 112 (by decide +kernel)
theorem lkX2_reckon : Cond.code yX2_reckon cX2_reckon 4 (some .int) ∈ gd_tbl := in_I 803 (by decide +kernel)
theorem ldX2_reckon : okD yX2_reckon 3 := ⟨by decide +kernel, by decide +kernel, by decide +kernel⟩
theorem lnX2_reckon : Cond.instanceMethod yX2_reckon ∈ gd_tbl := in_I 802 (by decide +kernel)
theorem leX2_reckon : Cond.selects RX2 yX2_reckon yX2_reckon ∈ gd_tbl := in_I 17 (by decide +kernel)
theorem lkX2_run : Cond.code yX2_run cX2_run 7 (some .int) ∈ gd_tbl := in_I 798 (by decide +kernel)
theorem ldX2_run : okD yX2_run 1 := ⟨by decide +kernel, by decide +kernel, by decide +kernel⟩
theorem lnX2_run : Cond.instanceMethod yX2_run ∈ gd_tbl := in_I 797 (by decide +kernel)
theorem leX2_run : Cond.selects RX2 yX2_run yX2_run ∈ gd_tbl := in_I 16 (by decide +kernel)
theorem lkJ13_bitCount_95d88 : Cond.code yJ13_bitCount_95d88 cJ13_bitCount_95d88 2 (some .int) ∈ gd_tbl := in_I 222 (by decide +kernel)
theorem ldJ13_bitCount_95d88 : okD yJ13_bitCount_95d88 1 := ⟨by decide +kernel, by decide +kernel, by decide +kernel⟩
theorem ltJ13_bitCount_95d88 : Cond.static yJ13_bitCount_95d88 ∈ gd_tbl := in_I 221 (by decide +kernel)
theorem liRJ13 : Cond.initialized RJ13 ∈ gd_tbl := in_I 109 (by decide +kernel)
theorem lkX3_sortIn : Cond.code yX3_sortIn cX3_sortIn 4 none ∈ gd_tbl := in_I 233 (by decide +kernel)
theorem ldX3_sortIn : okD yX3_sortIn 1 := ⟨by decide +kernel, by decide +kernel, by decide +kernel⟩
theorem lnX3_sortIn : Cond.instanceMethod yX3_sortIn ∈ gd_tbl := in_I 232 (by decide +kernel)
theorem leX3_sortIn : Cond.selects RX3 yX3_sortIn yX3_sortIn ∈ gd_tbl := in_I 2 (by decide +kernel)
theorem liRX3 : Cond.initialized RX3 ∈ gd_tbl := in_I 107 (by decide +kernel)
theorem lkX7_lowestBit : Cond.code yX7_lowestBit cX7_lowestBit 2 (some .int) ∈ gd_tbl := in_I 219 (by decide +kernel)
theorem ldX7_lowestBit : okD yX7_lowestBit 1 := ⟨by decide +kernel, by decide +kernel, by decide +kernel⟩
theorem ltX7_lowestBit : Cond.static yX7_lowestBit ∈ gd_tbl := in_I 218 (by decide +kernel)
theorem lkX3_step : Cond.code yX3_step cX3_step 2 (some .int) ∈ gd_tbl := in_I 229 (by decide +kernel)
theorem ldX3_step : okD yX3_step 1 := ⟨by decide +kernel, by decide +kernel, by decide +kernel⟩
theorem lnX3_step : Cond.instanceMethod yX3_step ∈ gd_tbl := in_I 228 (by decide +kernel)
theorem leX3_step : Cond.selects RX3 yX3_step yX3_step ∈ gd_tbl := in_I 1 (by decide +kernel)
theorem lkX3_reckon : Cond.code yX3_reckon cX3_reckon 2 none ∈ gd_tbl := in_I 216 (by decide +kernel)
theorem ldX3_reckon : okD yX3_reckon 0 := ⟨by decide +kernel, by decide +kernel, by decide +kernel⟩
theorem lnX3_reckon : Cond.instanceMethod yX3_reckon ∈ gd_tbl := in_I 215 (by decide +kernel)
theorem leX3_reckon : Cond.selects RX3 yX3_reckon yX3_reckon ∈ gd_tbl := in_I 0 (by decide +kernel)
theorem lkX6_isFetched : Cond.code yX6_isFetched cX6_isFetched 1 (some .boolean) ∈ gd_tbl := in_I 765 (by decide +kernel)
theorem ldX6_isFetched : okD yX6_isFetched 0 := ⟨by decide +kernel, by decide +kernel, by decide +kernel⟩
theorem lnX6_isFetched : Cond.instanceMethod yX6_isFetched ∈ gd_tbl := in_I 763 (by decide +kernel)
theorem leX6_isFetched : Cond.selects RX6 yX6_isFetched yX6_isFetched ∈ gd_tbl := in_I 764 (by decide +kernel)
theorem lkX6_isOver : Cond.code yX6_isOver cX6_isOver 1 (some .boolean) ∈ gd_tbl := in_I 761 (by decide +kernel)
theorem ldX6_isOver : okD yX6_isOver 0 := ⟨by decide +kernel, by decide +kernel, by decide +kernel⟩
theorem lnX6_isOver : Cond.instanceMethod yX6_isOver ∈ gd_tbl := in_I 759 (by decide +kernel)
theorem leX6_isOver : Cond.selects RX6 yX6_isOver yX6_isOver ∈ gd_tbl := in_I 760 (by decide +kernel)
theorem lkX3_nearest : Cond.code yX3_nearest cX3_nearest 13 (some .int) ∈ gd_tbl := in_I 769 (by decide +kernel)
theorem ldX3_nearest : okD yX3_nearest 3 := ⟨by decide +kernel, by decide +kernel, by decide +kernel⟩
theorem lnX3_nearest : Cond.instanceMethod yX3_nearest ∈ gd_tbl := in_I 767 (by decide +kernel)
theorem leX3_nearest : Cond.selects RX3 yX3_nearest yX3_nearest ∈ gd_tbl := in_I 768 (by decide +kernel)
theorem lkX3_of : Cond.code yX3_of cX3_of 2 (some .int) ∈ gd_tbl := in_I 781 (by decide +kernel)
theorem ldX3_of : okD yX3_of 1 := ⟨by decide +kernel, by decide +kernel, by decide +kernel⟩
theorem lnX3_of : Cond.instanceMethod yX3_of ∈ gd_tbl := in_I 779 (by decide +kernel)
theorem leX3_of : Cond.selects RX3 yX3_of yX3_of ∈ gd_tbl := in_I 780 (by decide +kernel)
theorem lkX2_look : Cond.code yX2_look cX2_look 5 none ∈ gd_tbl := in_I 785 (by decide +kernel)
theorem ldX2_look : okD yX2_look 4 := ⟨by decide +kernel, by decide +kernel, by decide +kernel⟩
theorem lnX2_look : Cond.instanceMethod yX2_look ∈ gd_tbl := in_I 783 (by decide +kernel)
theorem leX2_look : Cond.selects RX2 yX2_look yX2_look ∈ gd_tbl := in_I 784 (by decide +kernel)
theorem lkX2_worth : Cond.code yX2_worth cX2_worth 4 (some .int) ∈ gd_tbl := in_I 794 (by decide +kernel)
theorem ldX2_worth : okD yX2_worth 2 := ⟨by decide +kernel, by decide +kernel, by decide +kernel⟩
theorem lnX2_worth : Cond.instanceMethod yX2_worth ∈ gd_tbl := in_I 792 (by decide +kernel)
theorem leX2_worth : Cond.selects RX2 yX2_worth yX2_worth ∈ gd_tbl := in_I 793 (by decide +kernel)
theorem lkX6_passDays : Cond.code yX6_passDays cX6_passDays 2 none ∈ gd_tbl := in_I 812 (by decide +kernel)
theorem ldX6_passDays : okD yX6_passDays 1 := ⟨by decide +kernel, by decide +kernel, by decide +kernel⟩
theorem lnX6_passDays : Cond.instanceMethod yX6_passDays ∈ gd_tbl := in_I 810 (by decide +kernel)
theorem leX6_passDays : Cond.selects RX6 yX6_passDays yX6_passDays ∈ gd_tbl := in_I 811 (by decide +kernel)
theorem lkX6_addSins : Cond.code yX6_addSins cX6_addSins 2 none ∈ gd_tbl := in_I 817 (by decide +kernel)
theorem ldX6_addSins : okD yX6_addSins 1 := ⟨by decide +kernel, by decide +kernel, by decide +kernel⟩
theorem lnX6_addSins : Cond.instanceMethod yX6_addSins ∈ gd_tbl := in_I 815 (by decide +kernel)
theorem leX6_addSins : Cond.selects RX6 yX6_addSins yX6_addSins ∈ gd_tbl := in_I 816 (by decide +kernel)
theorem lkX5_plan : Cond.code yX5_plan cX5_plan 5 none ∈ gd_tbl := in_I 757 (by decide +kernel)
theorem ldX5_plan : okD yX5_plan 2 := ⟨by decide +kernel, by decide +kernel, by decide +kernel⟩
theorem lnX5_plan : Cond.instanceMethod yX5_plan ∈ gd_tbl := in_I 755 (by decide +kernel)
theorem leX5_plan : Cond.selects RX5 yX5_plan yX5_plan ∈ gd_tbl := in_I 756 (by decide +kernel)
theorem liRX5 : Cond.initialized RX5 ∈ gd_tbl := in_I 110 (by decide +kernel)
theorem lkX6_take : Cond.code yX6_take cX6_take 2 none ∈ gd_tbl := in_I 910 (by decide +kernel)
theorem ldX6_take : okD yX6_take 1 := ⟨by decide +kernel, by decide +kernel, by decide +kernel⟩
theorem lnX6_take : Cond.instanceMethod yX6_take ∈ gd_tbl := in_I 908 (by decide +kernel)
theorem leX6_take : Cond.selects RX6 yX6_take yX6_take ∈ gd_tbl := in_I 909 (by decide +kernel)
theorem lkX5_grant : Cond.code yX5_grant cX5_grant 3 none ∈ gd_tbl := in_I 808 (by decide +kernel)
theorem ldX5_grant : okD yX5_grant 2 := ⟨by decide +kernel, by decide +kernel, by decide +kernel⟩
theorem lnX5_grant : Cond.instanceMethod yX5_grant ∈ gd_tbl := in_I 806 (by decide +kernel)
theorem leX5_grant : Cond.selects RX5 yX5_grant yX5_grant ∈ gd_tbl := in_I 807 (by decide +kernel)
theorem lkX5_isGranted : Cond.code yX5_isGranted cX5_isGranted 3 (some .boolean) ∈ gd_tbl := in_I 919 (by decide +kernel)
theorem ldX5_isGranted : okD yX5_isGranted 2 := ⟨by decide +kernel, by decide +kernel, by decide +kernel⟩
theorem lnX5_isGranted : Cond.instanceMethod yX5_isGranted ∈ gd_tbl := in_I 918 (by decide +kernel)
theorem leX5_isGranted : Cond.selects RX5 yX5_isGranted yX5_isGranted ∈ gd_tbl := in_I 19 (by decide +kernel)
theorem lkX5_orderOn : Cond.code yX5_orderOn cX5_orderOn 5 none ∈ gd_tbl := in_I 914 (by decide +kernel)
theorem ldX5_orderOn : okD yX5_orderOn 3 := ⟨by decide +kernel, by decide +kernel, by decide +kernel⟩
theorem lnX5_orderOn : Cond.instanceMethod yX5_orderOn ∈ gd_tbl := in_I 913 (by decide +kernel)
theorem leX5_orderOn : Cond.selects RX5 yX5_orderOn yX5_orderOn ∈ gd_tbl := in_I 18 (by decide +kernel)
theorem lkX0_has : Cond.code yX0_has cX0_has 2 (some .boolean) ∈ gd_tbl := in_I 745 (by decide +kernel)
theorem ldX0_has : okD yX0_has 1 := ⟨by decide +kernel, by decide +kernel, by decide +kernel⟩
theorem lnX0_has : Cond.instanceMethod yX0_has ∈ gd_tbl := in_I 743 (by decide +kernel)
theorem leX0_has : Cond.selects RX0 yX0_has yX0_has ∈ gd_tbl := in_I 744 (by decide +kernel)
theorem lkX5_reachOn : Cond.code yX5_reachOn cX5_reachOn 5 (some .boolean) ∈ gd_tbl := in_I 933 (by decide +kernel)
theorem ldX5_reachOn : okD yX5_reachOn 3 := ⟨by decide +kernel, by decide +kernel, by decide +kernel⟩
theorem lnX5_reachOn : Cond.instanceMethod yX5_reachOn ∈ gd_tbl := in_I 932 (by decide +kernel)
theorem leX5_reachOn : Cond.selects RX5 yX5_reachOn yX5_reachOn ∈ gd_tbl := in_I 20 (by decide +kernel)
theorem lkX7_has : Cond.code yX7_has cX7_has 2 (some .boolean) ∈ gd_tbl := in_I 833 (by decide +kernel)
theorem ldX7_has : okD yX7_has 2 := ⟨by decide +kernel, by decide +kernel, by decide +kernel⟩
theorem ltX7_has : Cond.static yX7_has ∈ gd_tbl := in_I 832 (by decide +kernel)
theorem lkX7_size : Cond.code yX7_size cX7_size 3 (some .int) ∈ gd_tbl := in_I 720 (by decide +kernel)
theorem ldX7_size : okD yX7_size 1 := ⟨by decide +kernel, by decide +kernel, by decide +kernel⟩
theorem ltX7_size : Cond.static yX7_size ∈ gd_tbl := in_I 719 (by decide +kernel)
theorem lkX7_sizeWith : Cond.code yX7_sizeWith cX7_sizeWith 4 (some .int) ∈ gd_tbl := in_I 851 (by decide +kernel)
theorem ldX7_sizeWith : okD yX7_sizeWith 2 := ⟨by decide +kernel, by decide +kernel, by decide +kernel⟩
theorem ltX7_sizeWith : Cond.static yX7_sizeWith ∈ gd_tbl := in_I 850 (by decide +kernel)
theorem lkX7_changed : Cond.code yX7_changed cX7_changed 6 (some .long) ∈ gd_tbl := in_I 868 (by decide +kernel)
theorem ldX7_changed : okD yX7_changed 3 := ⟨by decide +kernel, by decide +kernel, by decide +kernel⟩
theorem ltX7_changed : Cond.static yX7_changed ∈ gd_tbl := in_I 867 (by decide +kernel)
theorem lkX7_swing : Cond.code yX7_swing cX7_swing 4 (some .int) ∈ gd_tbl := in_I 865 (by decide +kernel)
theorem ldX7_swing : okD yX7_swing 2 := ⟨by decide +kernel, by decide +kernel, by decide +kernel⟩
theorem ltX7_swing : Cond.static yX7_swing ∈ gd_tbl := in_I 864 (by decide +kernel)
theorem lkX7_dependsOn : Cond.code yX7_dependsOn cX7_dependsOn 3 (some .int) ∈ gd_tbl := in_I 862 (by decide +kernel)
theorem ldX7_dependsOn : okD yX7_dependsOn 1 := ⟨by decide +kernel, by decide +kernel, by decide +kernel⟩
theorem ltX7_dependsOn : Cond.static yX7_dependsOn ∈ gd_tbl := in_I 861 (by decide +kernel)
theorem lkX9_throughNext : Cond.code yX9_throughNext cX9_throughNext 6 (some .int) ∈ gd_tbl := in_I 1059 (by decide +kernel)
theorem ldX9_throughNext : okD yX9_throughNext 4 := ⟨by decide +kernel, by decide +kernel, by decide +kernel⟩
theorem lnX9_throughNext : Cond.instanceMethod yX9_throughNext ∈ gd_tbl := in_I 1058 (by decide +kernel)
theorem leX9_throughNext : Cond.selects RX9 yX9_throughNext yX9_throughNext ∈ gd_tbl := in_I 29 (by decide +kernel)
theorem liRX9 : Cond.initialized RX9 ∈ gd_tbl := in_I 114 (by decide +kernel)
theorem lkX9_nextOf : Cond.code yX9_nextOf cX9_nextOf 9 (some .int) ∈ gd_tbl := in_I 1054 (by decide +kernel)
theorem ldX9_nextOf : okD yX9_nextOf 4 := ⟨by decide +kernel, by decide +kernel, by decide +kernel⟩
theorem lnX9_nextOf : Cond.instanceMethod yX9_nextOf ∈ gd_tbl := in_I 1053 (by decide +kernel)
theorem leX9_nextOf : Cond.selects RX9 yX9_nextOf yX9_nextOf ∈ gd_tbl := in_I 28 (by decide +kernel)
theorem lkX9_walk : Cond.code yX9_walk cX9_walk 9 (some .int) ∈ gd_tbl := in_I 1064 (by decide +kernel)
theorem ldX9_walk : okD yX9_walk 3 := ⟨by decide +kernel, by decide +kernel, by decide +kernel⟩
theorem lnX9_walk : Cond.instanceMethod yX9_walk ∈ gd_tbl := in_I 1063 (by decide +kernel)
theorem leX9_walk : Cond.selects RX9 yX9_walk yX9_walk ∈ gd_tbl := in_I 30 (by decide +kernel)
theorem lkX7_isEmpty : Cond.code yX7_isEmpty cX7_isEmpty 4 (some .boolean) ∈ gd_tbl := in_I 836 (by decide +kernel)
theorem ldX7_isEmpty : okD yX7_isEmpty 1 := ⟨by decide +kernel, by decide +kernel, by decide +kernel⟩
theorem ltX7_isEmpty : Cond.static yX7_isEmpty ∈ gd_tbl := in_I 835 (by decide +kernel)
theorem lkX10_mayBeBetter : Cond.code yX10_mayBeBetter cX10_mayBeBetter 3 (some .boolean) ∈ gd_tbl := in_I 961 (by decide +kernel)
theorem ldX10_mayBeBetter : okD yX10_mayBeBetter 1 := ⟨by decide +kernel, by decide +kernel, by decide +kernel⟩
theorem lnX10_mayBeBetter : Cond.instanceMethod yX10_mayBeBetter ∈ gd_tbl := in_I 960 (by decide +kernel)
theorem leX10_mayBeBetter : Cond.selects RX10 yX10_mayBeBetter yX10_mayBeBetter ∈ gd_tbl := in_I 22 (by decide +kernel)
theorem liRX10 : Cond.initialized RX10 ∈ gd_tbl := in_I 113 (by decide +kernel)
theorem lkX7_first : Cond.code yX7_first cX7_first 2 (some .int) ∈ gd_tbl := in_I 839 (by decide +kernel)
theorem ldX7_first : okD yX7_first 1 := ⟨by decide +kernel, by decide +kernel, by decide +kernel⟩
theorem ltX7_first : Cond.static yX7_first ∈ gd_tbl := in_I 838 (by decide +kernel)
theorem lkX10_decide : Cond.code yX10_decide cX10_decide 7 none ∈ gd_tbl := in_I 957 (by decide +kernel)
theorem ldX10_decide : okD yX10_decide 2 := ⟨by decide +kernel, by decide +kernel, by decide +kernel⟩
theorem lnX10_decide : Cond.instanceMethod yX10_decide ∈ gd_tbl := in_I 956 (by decide +kernel)
theorem leX10_decide : Cond.selects RX10 yX10_decide yX10_decide ∈ gd_tbl := in_I 21 (by decide +kernel)
theorem lkX11_isFact : Cond.code yX11_isFact cX11_isFact 1 (some .boolean) ∈ gd_tbl := in_I 482 (by decide +kernel)
theorem ldX11_isFact : okD yX11_isFact 1 := ⟨by decide +kernel, by decide +kernel, by decide +kernel⟩
theorem ltX11_isFact : Cond.static yX11_isFact ∈ gd_tbl := in_I 481 (by decide +kernel)
theorem liRX11 : Cond.initialized RX11 ∈ gd_tbl := in_I 102 (by decide +kernel)
theorem lkX3_set : Cond.code yX3_set cX3_set 3 none ∈ gd_tbl := in_I 490 (by decide +kernel)
theorem ldX3_set : okD yX3_set 2 := ⟨by decide +kernel, by decide +kernel, by decide +kernel⟩
theorem lnX3_set : Cond.instanceMethod yX3_set ∈ gd_tbl := in_I 488 (by decide +kernel)
theorem leX3_set : Cond.selects RX3 yX3_set yX3_set ∈ gd_tbl := in_I 489 (by decide +kernel)
theorem lkX8_add : Cond.code yX8_add cX8_add 3 none ∈ gd_tbl := in_I 498 (by decide +kernel)
theorem ldX8_add : okD yX8_add 1 := ⟨by decide +kernel, by decide +kernel, by decide +kernel⟩
theorem lnX8_add : Cond.instanceMethod yX8_add ∈ gd_tbl := in_I 496 (by decide +kernel)
theorem leX8_add : Cond.selects RX8 yX8_add yX8_add ∈ gd_tbl := in_I 497 (by decide +kernel)
theorem lkX2_read : Cond.code yX2_read cX2_read 3 (some .int) ∈ gd_tbl := in_I 506 (by decide +kernel)
theorem ldX2_read : okD yX2_read 1 := ⟨by decide +kernel, by decide +kernel, by decide +kernel⟩
theorem lnX2_read : Cond.instanceMethod yX2_read ∈ gd_tbl := in_I 504 (by decide +kernel)
theorem leX2_read : Cond.selects RX2 yX2_read yX2_read ∈ gd_tbl := in_I 505 (by decide +kernel)
theorem lkX1_read : Cond.code yX1_read cX1_read 3 (some .int) ∈ gd_tbl := in_I 674 (by decide +kernel)
theorem ldX1_read : okD yX1_read 1 := ⟨by decide +kernel, by decide +kernel, by decide +kernel⟩
theorem lnX1_read : Cond.instanceMethod yX1_read ∈ gd_tbl := in_I 672 (by decide +kernel)
theorem leX1_read : Cond.selects RX1 yX1_read yX1_read ∈ gd_tbl := in_I 673 (by decide +kernel)
theorem lkX0_write : Cond.code yX0_write cX0_write 3 none ∈ gd_tbl := in_I 714 (by decide +kernel)
theorem ldX0_write : okD yX0_write 2 := ⟨by decide +kernel, by decide +kernel, by decide +kernel⟩
theorem lnX0_write : Cond.instanceMethod yX0_write ∈ gd_tbl := in_I 712 (by decide +kernel)
theorem leX0_write : Cond.selects RX0 yX0_write yX0_write ∈ gd_tbl := in_I 713 (by decide +kernel)
theorem lkX11_tell : Cond.code yX11_tell cX11_tell 5 (some .int) ∈ gd_tbl := in_I 670 (by decide +kernel)
theorem ldX11_tell : okD yX11_tell 3 := ⟨by decide +kernel, by decide +kernel, by decide +kernel⟩
theorem lnX11_tell : Cond.instanceMethod yX11_tell ∈ gd_tbl := in_I 669 (by decide +kernel)
theorem leX11_tell : Cond.selects RX11 yX11_tell yX11_tell ∈ gd_tbl := in_I 11 (by decide +kernel)
theorem lkX0_meet : Cond.code yX0_meet cX0_meet 4 none ∈ gd_tbl := in_I 732 (by decide +kernel)
theorem ldX0_meet : okD yX0_meet 2 := ⟨by decide +kernel, by decide +kernel, by decide +kernel⟩
theorem lnX0_meet : Cond.instanceMethod yX0_meet ∈ gd_tbl := in_I 730 (by decide +kernel)
theorem leX0_meet : Cond.selects RX0 yX0_meet yX0_meet ∈ gd_tbl := in_I 731 (by decide +kernel)
theorem lkX11_gatherFit : Cond.code yX11_gatherFit cX11_gatherFit 1 none ∈ gd_tbl := in_I 728 (by decide +kernel)
theorem ldX11_gatherFit : okD yX11_gatherFit 0 := ⟨by decide +kernel, by decide +kernel, by decide +kernel⟩
theorem lnX11_gatherFit : Cond.instanceMethod yX11_gatherFit ∈ gd_tbl := in_I 727 (by decide +kernel)
theorem leX11_gatherFit : Cond.selects RX11 yX11_gatherFit yX11_gatherFit ∈ gd_tbl := in_I 15 (by decide +kernel)
theorem lkX0_erase : Cond.code yX0_erase cX0_erase 2 none ∈ gd_tbl := in_I 749 (by decide +kernel)
theorem ldX0_erase : okD yX0_erase 1 := ⟨by decide +kernel, by decide +kernel, by decide +kernel⟩
theorem lnX0_erase : Cond.instanceMethod yX0_erase ∈ gd_tbl := in_I 747 (by decide +kernel)
theorem leX0_erase : Cond.selects RX0 yX0_erase yX0_erase ∈ gd_tbl := in_I 748 (by decide +kernel)
theorem lkX7_last : Cond.code yX7_last cX7_last 2 (some .int) ∈ gd_tbl := in_I 843 (by decide +kernel)
theorem ldX7_last : okD yX7_last 1 := ⟨by decide +kernel, by decide +kernel, by decide +kernel⟩
theorem ltX7_last : Cond.static yX7_last ∈ gd_tbl := in_I 842 (by decide +kernel)
theorem lkX7_sure : Cond.code yX7_sure cX7_sure 5 (some .int) ∈ gd_tbl := in_I 847 (by decide +kernel)
theorem ldX7_sure : okD yX7_sure 2 := ⟨by decide +kernel, by decide +kernel, by decide +kernel⟩
theorem ltX7_sure : Cond.static yX7_sure ∈ gd_tbl := in_I 846 (by decide +kernel)
theorem lkX7_sharedSize : Cond.code yX7_sharedSize cX7_sharedSize 4 (some .int) ∈ gd_tbl := in_I 859 (by decide +kernel)
theorem ldX7_sharedSize : okD yX7_sharedSize 2 := ⟨by decide +kernel, by decide +kernel, by decide +kernel⟩
theorem ltX7_sharedSize : Cond.static yX7_sharedSize ∈ gd_tbl := in_I 858 (by decide +kernel)
theorem lkX7_rising : Cond.code yX7_rising cX7_rising 4 (some .int) ∈ gd_tbl := in_I 871 (by decide +kernel)
theorem ldX7_rising : okD yX7_rising 1 := ⟨by decide +kernel, by decide +kernel, by decide +kernel⟩
theorem ltX7_rising : Cond.static yX7_rising ∈ gd_tbl := in_I 870 (by decide +kernel)
theorem lkX0_leavesSome : Cond.code yX0_leavesSome cX0_leavesSome 4 (some .boolean) ∈ gd_tbl := in_I 883 (by decide +kernel)
theorem ldX0_leavesSome : okD yX0_leavesSome 2 := ⟨by decide +kernel, by decide +kernel, by decide +kernel⟩
theorem lnX0_leavesSome : Cond.instanceMethod yX0_leavesSome ∈ gd_tbl := in_I 881 (by decide +kernel)
theorem leX0_leavesSome : Cond.selects RX0 yX0_leavesSome yX0_leavesSome ∈ gd_tbl := in_I 882 (by decide +kernel)
theorem lkX11_fewestAgainst : Cond.code yX11_fewestAgainst cX11_fewestAgainst 7 (some .int) ∈ gd_tbl := in_I 879 (by decide +kernel)
theorem ldX11_fewestAgainst : okD yX11_fewestAgainst 4 := ⟨by decide +kernel, by decide +kernel, by decide +kernel⟩
theorem ltX11_fewestAgainst : Cond.static yX11_fewestAgainst ∈ gd_tbl := in_I 878 (by decide +kernel)
theorem lkX0_howMany : Cond.code yX0_howMany cX0_howMany 2 (some .int) ∈ gd_tbl := in_I 900 (by decide +kernel)
theorem ldX0_howMany : okD yX0_howMany 1 := ⟨by decide +kernel, by decide +kernel, by decide +kernel⟩
theorem lnX0_howMany : Cond.instanceMethod yX0_howMany ∈ gd_tbl := in_I 898 (by decide +kernel)
theorem leX0_howMany : Cond.selects RX0 yX0_howMany yX0_howMany ∈ gd_tbl := in_I 899 (by decide +kernel)
theorem lkX5_order : Cond.code yX5_order cX5_order 3 (some .boolean) ∈ gd_tbl := in_I 905 (by decide +kernel)
theorem ldX5_order : okD yX5_order 2 := ⟨by decide +kernel, by decide +kernel, by decide +kernel⟩
theorem lnX5_order : Cond.instanceMethod yX5_order ∈ gd_tbl := in_I 903 (by decide +kernel)
theorem leX5_order : Cond.selects RX5 yX5_order yX5_order ∈ gd_tbl := in_I 904 (by decide +kernel)
theorem lkX5_reach : Cond.code yX5_reach cX5_reach 4 (some .int) ∈ gd_tbl := in_I 929 (by decide +kernel)
theorem ldX5_reach : okD yX5_reach 2 := ⟨by decide +kernel, by decide +kernel, by decide +kernel⟩
theorem lnX5_reach : Cond.instanceMethod yX5_reach ∈ gd_tbl := in_I 927 (by decide +kernel)
theorem leX5_reach : Cond.selects RX5 yX5_reach yX5_reach ∈ gd_tbl := in_I 928 (by decide +kernel)
theorem lkX7_loneSize : Cond.code yX7_loneSize cX7_loneSize 5 (some .int) ∈ gd_tbl := in_I 942 (by decide +kernel)
theorem ldX7_loneSize : okD yX7_loneSize 3 := ⟨by decide +kernel, by decide +kernel, by decide +kernel⟩
theorem ltX7_loneSize : Cond.static yX7_loneSize ∈ gd_tbl := in_I 941 (by decide +kernel)
theorem lkX10_find : Cond.code yX10_find cX10_find 2 (some .boolean) ∈ gd_tbl := in_I 950 (by decide +kernel)
theorem ldX10_find : okD yX10_find 1 := ⟨by decide +kernel, by decide +kernel, by decide +kernel⟩
theorem lnX10_find : Cond.instanceMethod yX10_find ∈ gd_tbl := in_I 948 (by decide +kernel)
theorem leX10_find : Cond.selects RX10 yX10_find yX10_find ∈ gd_tbl := in_I 949 (by decide +kernel)
theorem lkX7_mayChangePlaces : Cond.code yX7_mayChangePlaces cX7_mayChangePlaces 8 (some .boolean) ∈ gd_tbl := in_I 976 (by decide +kernel)
theorem ldX7_mayChangePlaces : okD yX7_mayChangePlaces 3 := ⟨by decide +kernel, by decide +kernel, by decide +kernel⟩
theorem ltX7_mayChangePlaces : Cond.static yX7_mayChangePlaces ∈ gd_tbl := in_I 975 (by decide +kernel)
theorem lkX11_lowestFactInto : Cond.code yX11_lowestFactInto cX11_lowestFactInto 3 (some .int) ∈ gd_tbl := in_I 984 (by decide +kernel)
theorem ldX11_lowestFactInto : okD yX11_lowestFactInto 1 := ⟨by decide +kernel, by decide +kernel, by decide +kernel⟩
theorem lnX11_lowestFactInto : Cond.instanceMethod yX11_lowestFactInto ∈ gd_tbl := in_I 983 (by decide +kernel)
theorem leX11_lowestFactInto : Cond.selects RX11 yX11_lowestFactInto yX11_lowestFactInto ∈ gd_tbl := in_I 23 (by decide +kernel)
theorem lkX11_growByOneStep : Cond.code yX11_growByOneStep cX11_growByOneStep 6 (some .boolean) ∈ gd_tbl := in_I 988 (by decide +kernel)
theorem ldX11_growByOneStep : okD yX11_growByOneStep 0 := ⟨by decide +kernel, by decide +kernel, by decide +kernel⟩
theorem lnX11_growByOneStep : Cond.instanceMethod yX11_growByOneStep ∈ gd_tbl := in_I 987 (by decide +kernel)
theorem leX11_growByOneStep : Cond.selects RX11 yX11_growByOneStep yX11_growByOneStep ∈ gd_tbl := in_I 24 (by decide +kernel)
theorem lkX11_chances : Cond.code yX11_chances cX11_chances 8 (some .long) ∈ gd_tbl := in_I 1001 (by decide +kernel)
theorem ldX11_chances : okD yX11_chances 3 := ⟨by decide +kernel, by decide +kernel, by decide +kernel⟩
theorem lnX11_chances : Cond.instanceMethod yX11_chances ∈ gd_tbl := in_I 1000 (by decide +kernel)
theorem leX11_chances : Cond.selects RX11 yX11_chances yX11_chances ∈ gd_tbl := in_I 25 (by decide +kernel)
theorem lkX11_commonDivisor : Cond.code yX11_commonDivisor cX11_commonDivisor 11 (some .long) ∈ gd_tbl := in_I 1005 (by decide +kernel)
theorem ldX11_commonDivisor : okD yX11_commonDivisor 2 := ⟨by decide +kernel, by decide +kernel, by decide +kernel⟩
theorem ltX11_commonDivisor : Cond.static yX11_commonDivisor ∈ gd_tbl := in_I 1004 (by decide +kernel)
theorem lkX7_narrow : Cond.code yX7_narrow cX7_narrow 6 none ∈ gd_tbl := in_I 1022 (by decide +kernel)
theorem ldX7_narrow : okD yX7_narrow 3 := ⟨by decide +kernel, by decide +kernel, by decide +kernel⟩
theorem ltX7_narrow : Cond.static yX7_narrow ∈ gd_tbl := in_I 1021 (by decide +kernel)
theorem lkX11_areFacts : Cond.code yX11_areFacts cX11_areFacts 1 (some .boolean) ∈ gd_tbl := in_I 1015 (by decide +kernel)
theorem ldX11_areFacts : okD yX11_areFacts 1 := ⟨by decide +kernel, by decide +kernel, by decide +kernel⟩
theorem ltX11_areFacts : Cond.static yX11_areFacts ∈ gd_tbl := in_I 1014 (by decide +kernel)
theorem lkX11_gatherAsked : Cond.code yX11_gatherAsked cX11_gatherAsked 4 none ∈ gd_tbl := in_I 1019 (by decide +kernel)
theorem ldX11_gatherAsked : okD yX11_gatherAsked 2 := ⟨by decide +kernel, by decide +kernel, by decide +kernel⟩
theorem lnX11_gatherAsked : Cond.instanceMethod yX11_gatherAsked ∈ gd_tbl := in_I 1018 (by decide +kernel)
theorem leX11_gatherAsked : Cond.selects RX11 yX11_gatherAsked yX11_gatherAsked ∈ gd_tbl := in_I 26 (by decide +kernel)
theorem lkX11_nextQuestion : Cond.code yX11_nextQuestion cX11_nextQuestion 8 (some .int) ∈ gd_tbl := in_I 1026 (by decide +kernel)
theorem ldX11_nextQuestion : okD yX11_nextQuestion 1 := ⟨by decide +kernel, by decide +kernel, by decide +kernel⟩
theorem lnX11_nextQuestion : Cond.instanceMethod yX11_nextQuestion ∈ gd_tbl := in_I 1025 (by decide +kernel)
theorem leX11_nextQuestion : Cond.selects RX11 yX11_nextQuestion yX11_nextQuestion ∈ gd_tbl := in_I 27 (by decide +kernel)
theorem lkX9_find : Cond.code yX9_find cX9_find 9 (some .int) ∈ gd_tbl := in_I 1048 (by decide +kernel)
theorem ldX9_find : okD yX9_find 3 := ⟨by decide +kernel, by decide +kernel, by decide +kernel⟩
theorem lnX9_find : Cond.instanceMethod yX9_find ∈ gd_tbl := in_I 1046 (by decide +kernel)
theorem leX9_find : Cond.selects RX9 yX9_find yX9_find ∈ gd_tbl := in_I 1047 (by decide +kernel)
theorem lkX7_forbidden : Cond.code yX7_forbidden cX7_forbidden 2 (some .int) ∈ gd_tbl := in_I 1078 (by decide +kernel)
theorem ldX7_forbidden : okD yX7_forbidden 2 := ⟨by decide +kernel, by decide +kernel, by decide +kernel⟩
theorem ltX7_forbidden : Cond.static yX7_forbidden ∈ gd_tbl := in_I 1077 (by decide +kernel)
theorem lcRJ6_265 : Cond.constant RJ6 265 (1431655765 : Int32) ∈ gd_tbl := in_I 775 (by decide +kernel)
theorem lcRJ6_266 : Cond.constant RJ6 266 (858993459 : Int32) ∈ gd_tbl := in_I 776 (by decide +kernel)
theorem lcRJ6_267 : Cond.constant RJ6 267 (252645135 : Int32) ∈ gd_tbl := in_I 777 (by decide +kernel)
theorem lcRJ13_314 : Cond.constantLong RJ13 314 (6148914691236517205 : Int64) ∈ gd_tbl := in_I 223 (by decide +kernel)
theorem lcRJ13_316 : Cond.constantLong RJ13 316 (3689348814741910323 : Int64) ∈ gd_tbl := in_I 224 (by decide +kernel)
theorem lcRJ13_318 : Cond.constantLong RJ13 318 (1085102592571150095 : Int64) ∈ gd_tbl := in_I 225 (by decide +kernel)
theorem lqRJ0_38 : Cond.fieldLink RJ0 38 "java/lang/String" "COMPACT_STRINGS" "Z" ∈ gd_tbl := in_I 558 (by decide +kernel)
theorem lqRJ0_15 : Cond.fieldLink RJ0 15 "java/lang/String" "coder" "B" ∈ gd_tbl := in_I 1775 (by decide +kernel)
theorem lqRJ0_9 : Cond.fieldLink RJ0 9 "java/lang/String" "value" "[B" ∈ gd_tbl := in_I 1776 (by decide +kernel)
theorem lmRJ0_335 : okV RJ0 335 RJ0 yJ0_coder_7d493 cJ0_coder_7d493 1 (some .byte) 0 := ⟨in_I 564 (by decide +kernel), lnJ0_coder_7d493, leJ0_coder_7d493, liRJ0, lkJ0_coder_7d493, ⟨rfl, ldJ0_coder_7d493⟩, by decide⟩
theorem lmRJ1_88 : okS RJ1 88 yJ1_canEncode_9a6ad cJ1_canEncode_9a6ad 1 (some .boolean) 1 := ⟨in_I 571 (by decide +kernel), ltJ1_canEncode_9a6ad, liRJ1, lkJ1_canEncode_9a6ad, ldJ1_canEncode_9a6ad, by decide⟩
theorem laRJ1_92 : Cond.methodLink RJ1 92 Lib.Math.max.name ∈ gd_tbl := in_I 574 (by decide +kernel)
theorem laRJ1_38 : Cond.methodLink RJ1 38 Lib.Math.min.name ∈ gd_tbl := in_I 577 (by decide +kernel)
theorem lmRJ1_95 : okS RJ1 95 yJ1_indexOfChar_4cfef cJ1_indexOfChar_4cfef 6 (some .int) 4 := ⟨in_I 580 (by decide +kernel), ltJ1_indexOfChar_4cfef, liRJ1, lkJ1_indexOfChar_4cfef, ldJ1_indexOfChar_4cfef, by decide⟩
theorem lmRJ0_492 : okV RJ0 492 RJ0 yJ0_isLatin1_aae02 cJ0_isLatin1_aae02 1 (some .boolean) 0 := ⟨in_I 554 (by decide +kernel), lnJ0_isLatin1_aae02, leJ0_isLatin1_aae02, liRJ0, lkJ0_isLatin1_aae02, ⟨rfl, ldJ0_isLatin1_aae02⟩, by decide⟩
theorem lmRJ0_505 : okV RJ0 505 RJ0 yJ0_length_8abf5 cJ0_length_8abf5 1 (some .int) 0 := ⟨in_I 560 (by decide +kernel), lnJ0_length_8abf5, leJ0_length_8abf5, liRJ0, lkJ0_length_8abf5, ⟨rfl, ldJ0_length_8abf5⟩, by decide⟩
theorem lmRJ0_637 : okS RJ0 637 yJ1_indexOf_4cfef cJ1_indexOf_4cfef 4 (some .int) 4 := ⟨in_I 568 (by decide +kernel), ltJ1_indexOf_4cfef, liRJ1, lkJ1_indexOf_4cfef, ldJ1_indexOf_4cfef, by decide⟩
theorem lmRJ0_633 : okV RJ0 633 RJ0 yJ0_indexOf_7cf53 cJ0_indexOf_7cf53 3 (some .int) 2 := ⟨in_I 550 (by decide +kernel), lnJ0_indexOf_7cf53, leJ0_indexOf_7cf53, liRJ0, lkJ0_indexOf_7cf53, ⟨rfl, ldJ0_indexOf_7cf53⟩, by decide⟩
theorem lfRX0_16_0 : lkF RX0 16 0 1 RX0 TX0 2 "PactYears$Book" := ⟨rfl, by decide, iX0, in_I 200 (by decide +kernel), Or.inl rfl⟩
theorem lgRX0_16 : lkA RX0 16 1 [0] := fun ci h => by
  simp only [List.mem_cons, List.not_mem_nil, or_false] at h
  subst h; exact ⟨_, _, _, _, lfRX0_16_0⟩
theorem lmRX0_20 : okS RX0 20 yJ6_bitCount_0f7a4 cJ6_bitCount_0f7a4 1 (some .int) 1 := ⟨in_I 901 (by decide +kernel), ltJ6_bitCount_0f7a4, liRJ6, lkJ6_bitCount_0f7a4, ldJ6_bitCount_0f7a4, by decide⟩
theorem lfRX0_11_0 : lkF RX0 11 0 0 RX0 TX0 2 "PactYears$Book" := ⟨rfl, by decide, iX0, in_I 197 (by decide +kernel), Or.inl rfl⟩
theorem lgRX0_11 : lkA RX0 11 0 [0] := fun ci h => by
  simp only [List.mem_cons, List.not_mem_nil, or_false] at h
  subst h; exact ⟨_, _, _, _, lfRX0_11_0⟩
theorem laRX0_26 : Cond.methodLink RX0 26 arraycopyName ∈ gd_tbl := in_I 715 (by decide +kernel)
theorem lpRX0_16 : lkP RX0 16 1 [0] .int := fun ci h => by
  simp only [List.mem_cons, List.not_mem_nil, or_false] at h
  subst h; exact ⟨_, _, _, _, tyX0, lfRX0_16_0, rfl, by decide +kernel, tyX0_ok, nmX0⟩
theorem lcRX0_32 : Cond.constantLong RX0 32 (-1 : Int64) ∈ gd_tbl := in_I 737 (by decide +kernel)
theorem lmRX0_34 : okV RX0 34 RX0 yX0_sharedWord cX0_sharedWord 6 (some .long) 2 := ⟨in_I 733 (by decide +kernel), lnX0_sharedWord, leX0_sharedWord, liRX0, lkX0_sharedWord, ⟨rfl, ldX0_sharedWord⟩, by decide⟩
theorem lfRX4_15_1 : lkF RX4 15 1 1 RX1 TX1 6 "PactYears$Reader" := ⟨rfl, by decide, iX1, in_I 160 (by decide +kernel), Or.inl rfl⟩
theorem lfRX4_15_2 : lkF RX4 15 2 1 RX2 TX2 13 "PactYears$Reader" := ⟨rfl, by decide, iX2, in_I 160 (by decide +kernel), Or.inl rfl⟩
theorem lpRX4_15 : lkP RX4 15 1 [1, 2] .int := fun ci h => by
  simp only [List.mem_cons, List.not_mem_nil, or_false] at h
  rcases h with h | h <;> subst h
  · exact ⟨_, _, _, _, tyX1, lfRX4_15_1, rfl, by decide +kernel, tyX1_ok, nmX1⟩
  · exact ⟨_, _, _, _, tyX2, lfRX4_15_2, rfl, by decide +kernel, tyX2_ok, nmX2⟩
theorem lfRX4_19_1 : lkF RX4 19 1 2 RX1 TX1 6 "PactYears$Reader" := ⟨rfl, by decide, iX1, in_I 165 (by decide +kernel), Or.inl rfl⟩
theorem lfRX4_19_2 : lkF RX4 19 2 2 RX2 TX2 13 "PactYears$Reader" := ⟨rfl, by decide, iX2, in_I 165 (by decide +kernel), Or.inl rfl⟩
theorem lpRX4_19 : lkP RX4 19 2 [1, 2] .int := fun ci h => by
  simp only [List.mem_cons, List.not_mem_nil, or_false] at h
  rcases h with h | h <;> subst h
  · exact ⟨_, _, _, _, tyX1, lfRX4_19_1, rfl, by decide +kernel, tyX1_ok, nmX1⟩
  · exact ⟨_, _, _, _, tyX2, lfRX4_19_2, rfl, by decide +kernel, tyX2_ok, nmX2⟩
theorem lfRX4_22_1 : lkF RX4 22 1 3 RX1 TX1 6 "PactYears$Reader" := ⟨rfl, by decide, iX1, in_I 170 (by decide +kernel), Or.inl rfl⟩
theorem lfRX4_22_2 : lkF RX4 22 2 3 RX2 TX2 13 "PactYears$Reader" := ⟨rfl, by decide, iX2, in_I 170 (by decide +kernel), Or.inl rfl⟩
theorem lpRX4_22 : lkP RX4 22 3 [1, 2] .int := fun ci h => by
  simp only [List.mem_cons, List.not_mem_nil, or_false] at h
  rcases h with h | h <;> subst h
  · exact ⟨_, _, _, _, tyX1, lfRX4_22_1, rfl, by decide +kernel, tyX1_ok, nmX1⟩
  · exact ⟨_, _, _, _, tyX2, lfRX4_22_2, rfl, by decide +kernel, tyX2_ok, nmX2⟩
theorem lfRX8_9_8 : lkF RX8 9 8 0 RX8 TX8 2 "PactYears$Tape" := ⟨rfl, by decide, iX8, in_I 138 (by decide +kernel), Or.inl rfl⟩
theorem lgRX8_9 : lkA RX8 9 0 [8] := fun ci h => by
  simp only [List.mem_cons, List.not_mem_nil, or_false] at h
  subst h; exact ⟨_, _, _, _, lfRX8_9_8⟩
theorem lgRX4_19 : lkA RX4 19 2 [1, 2] := fun ci h => by
  simp only [List.mem_cons, List.not_mem_nil, or_false] at h
  rcases h with h | h <;> subst h
  · exact ⟨_, _, _, _, lfRX4_19_1⟩
  · exact ⟨_, _, _, _, lfRX4_19_2⟩
theorem lgRX4_15 : lkA RX4 15 1 [1, 2] := fun ci h => by
  simp only [List.mem_cons, List.not_mem_nil, or_false] at h
  rcases h with h | h <;> subst h
  · exact ⟨_, _, _, _, lfRX4_15_1⟩
  · exact ⟨_, _, _, _, lfRX4_15_2⟩
theorem lfRX4_9_1 : lkF RX4 9 1 0 RX1 TX1 6 "PactYears$Reader" := ⟨rfl, by decide, iX1, in_I 159 (by decide +kernel), Or.inl rfl⟩
theorem lfRX4_9_2 : lkF RX4 9 2 0 RX2 TX2 13 "PactYears$Reader" := ⟨rfl, by decide, iX2, in_I 159 (by decide +kernel), Or.inl rfl⟩
theorem lgRX4_9 : lkA RX4 9 0 [1, 2] := fun ci h => by
  simp only [List.mem_cons, List.not_mem_nil, or_false] at h
  rcases h with h | h <;> subst h
  · exact ⟨_, _, _, _, lfRX4_9_1⟩
  · exact ⟨_, _, _, _, lfRX4_9_2⟩
theorem lmRX4_25 : okV RX4 25 RX8 yX8_at cX8_at 2 (some .int) 1 := ⟨in_I 523 (by decide +kernel), lnX8_at, leX8_at, liRX8, lkX8_at, ⟨rfl, ldX8_at⟩, by decide⟩
theorem lgRX4_22 : lkA RX4 22 3 [1, 2] := fun ci h => by
  simp only [List.mem_cons, List.not_mem_nil, or_false] at h
  rcases h with h | h <;> subst h
  · exact ⟨_, _, _, _, lfRX4_22_1⟩
  · exact ⟨_, _, _, _, lfRX4_22_2⟩
theorem lcRX7_15 : Cond.constantLong RX7 15 (-1 : Int64) ∈ gd_tbl := in_I 426 (by decide +kernel)
theorem lsRX7_11 : Cond.fieldLink RX7 11 "PactYears$Tables" "SO" "[J" ∈ gd_tbl := in_I 698 (by decide +kernel)
theorem lmRX4_34 : ∀ ci ∈ ([1, 2] : List Nat), ∃ (C0 : String) (T : u_T) (N : Nat), cls[ci]? = some (C0, T, N) ∧ okU RX4 34 C0 "PactYears$Reader" ⟨"PactYears$Reader", "fail", "(I)V"⟩ yX4_fail cX4_fail 2 none 1 := fun ci h => by
  simp only [List.mem_cons, List.not_mem_nil, or_false] at h
  rcases h with h | h <;> subst h
  · exact ⟨_, _, _, rfl, in_I 638 (by decide +kernel), in_I 1769 (by decide +kernel), in_I 1770 (by decide +kernel), lnX4_fail, liRX4, lkX4_fail, rfl, by decide +kernel, by decide⟩
  · exact ⟨_, _, _, rfl, in_I 638 (by decide +kernel), in_I 1769 (by decide +kernel), in_I 1771 (by decide +kernel), lnX4_fail, liRX4, lkX4_fail, rfl, by decide +kernel, by decide⟩
theorem lmRX4_30 : ∀ ci ∈ ([1, 2] : List Nat), ∃ (C0 : String) (T : u_T) (N : Nat), cls[ci]? = some (C0, T, N) ∧ okU RX4 30 C0 "PactYears$Reader" ⟨"PactYears$Reader", "here", "()I"⟩ yX4_here cX4_here 1 (some .int) 0 := fun ci h => by
  simp only [List.mem_cons, List.not_mem_nil, or_false] at h
  rcases h with h | h <;> subst h
  · exact ⟨_, _, _, rfl, in_I 645 (by decide +kernel), in_I 1772 (by decide +kernel), in_I 1773 (by decide +kernel), lnX4_here, liRX4, lkX4_here, rfl, by decide +kernel, by decide⟩
  · exact ⟨_, _, _, rfl, in_I 645 (by decide +kernel), in_I 1772 (by decide +kernel), in_I 1774 (by decide +kernel), lnX4_here, liRX4, lkX4_here, rfl, by decide +kernel, by decide⟩
theorem lmRX1_37 : okV RX1 37 RX1 yX1_piece cX1_piece 5 (some .long) 1 := ⟨in_I 682 (by decide +kernel), lnX1_piece, leX1_piece, liRX1, lkX1_piece, ⟨rfl, ldX1_piece⟩, by decide⟩
theorem lfRX1_40_1 : lkF RX1 40 1 1 RX1 TX1 6 "PactYears$FormulaReader" := ⟨rfl, by decide, iX1, in_I 161 (by decide +kernel), Or.inr (in_I 162 (by decide +kernel))⟩
theorem lgRX1_40 : lkA RX1 40 1 [1] := fun ci h => by
  simp only [List.mem_cons, List.not_mem_nil, or_false] at h
  subst h; exact ⟨_, _, _, _, lfRX1_40_1⟩
theorem lfRX1_34_1 : lkF RX1 34 1 3 RX1 TX1 6 "PactYears$FormulaReader" := ⟨rfl, by decide, iX1, in_I 173 (by decide +kernel), Or.inr (in_I 174 (by decide +kernel))⟩
theorem lgRX1_34 : lkA RX1 34 3 [1] := fun ci h => by
  simp only [List.mem_cons, List.not_mem_nil, or_false] at h
  subst h; exact ⟨_, _, _, _, lfRX1_34_1⟩
theorem lmRX1_27 : ∀ ci ∈ ([1] : List Nat), ∃ (C0 : String) (T : u_T) (N : Nat), cls[ci]? = some (C0, T, N) ∧ okU RX1 27 C0 "PactYears$Reader" ⟨"PactYears$FormulaReader", "here", "()I"⟩ yX4_here cX4_here 1 (some .int) 0 := fun ci h => by
  simp only [List.mem_cons, List.not_mem_nil, or_false] at h
  subst h; exact ⟨_, _, _, rfl, in_I 686 (by decide +kernel), in_I 687 (by decide +kernel), in_I 688 (by decide +kernel), lnX4_here, liRX4, lkX4_here, rfl, by decide +kernel, by decide⟩
theorem lfRX1_43_1 : lkF RX1 43 1 2 RX1 TX1 6 "PactYears$FormulaReader" := ⟨rfl, by decide, iX1, in_I 168 (by decide +kernel), Or.inr (in_I 169 (by decide +kernel))⟩
theorem lgRX1_43 : lkA RX1 43 2 [1] := fun ci h => by
  simp only [List.mem_cons, List.not_mem_nil, or_false] at h
  subst h; exact ⟨_, _, _, _, lfRX1_43_1⟩
theorem lpRX1_43 : lkP RX1 43 2 [1] .int := fun ci h => by
  simp only [List.mem_cons, List.not_mem_nil, or_false] at h
  subst h; exact ⟨_, _, _, _, tyX1, lfRX1_43_1, rfl, by decide +kernel, tyX1_ok, nmX1⟩
theorem lmRX1_46 : okS RX1 46 yX1_canBegin cX1_canBegin 1 (some .boolean) 1 := ⟨in_I 689 (by decide +kernel), ltX1_canBegin, liRX1, lkX1_canBegin, ldX1_canBegin, by decide⟩
theorem lmRX1_31 : ∀ ci ∈ ([1] : List Nat), ∃ (C0 : String) (T : u_T) (N : Nat), cls[ci]? = some (C0, T, N) ∧ okU RX1 31 C0 "PactYears$Reader" ⟨"PactYears$FormulaReader", "fail", "(I)V"⟩ yX4_fail cX4_fail 2 none 1 := fun ci h => by
  simp only [List.mem_cons, List.not_mem_nil, or_false] at h
  subst h; exact ⟨_, _, _, rfl, in_I 692 (by decide +kernel), in_I 693 (by decide +kernel), in_I 694 (by decide +kernel), lnX4_fail, liRX4, lkX4_fail, rfl, by decide +kernel, by decide⟩
theorem lfRX1_15_1 : lkF RX1 15 1 5 RX1 TX1 6 "PactYears$FormulaReader" := ⟨rfl, by decide, iX1, in_I 158 (by decide +kernel), Or.inl rfl⟩
theorem lgRX1_15 : lkA RX1 15 5 [1] := fun ci h => by
  simp only [List.mem_cons, List.not_mem_nil, or_false] at h
  subst h; exact ⟨_, _, _, _, lfRX1_15_1⟩
theorem lmRX1_50 : okS RX1 50 yX7_soWord cX7_soWord 2 (some .long) 2 := ⟨in_I 695 (by decide +kernel), ltX7_soWord, liRX7, lkX7_soWord, ldX7_soWord, by decide⟩
theorem lmRX1_56 : ∀ ci ∈ ([1] : List Nat), ∃ (C0 : String) (T : u_T) (N : Nat), cls[ci]? = some (C0, T, N) ∧ okU RX1 56 C0 "PactYears$Reader" ⟨"PactYears$FormulaReader", "open", "(I)V"⟩ yX4_open cX4_open 2 none 1 := fun ci h => by
  simp only [List.mem_cons, List.not_mem_nil, or_false] at h
  subst h; exact ⟨_, _, _, rfl, in_I 700 (by decide +kernel), in_I 701 (by decide +kernel), in_I 702 (by decide +kernel), lnX4_open, liRX4, lkX4_open, rfl, by decide +kernel, by decide⟩
theorem lcRX1_59 : Cond.constantLong RX1 59 (-1 : Int64) ∈ gd_tbl := in_I 703 (by decide +kernel)
theorem lmRX1_23 : okV RX1 23 RX1 yX1_formula cX1_formula 12 (some .long) 1 := ⟨in_I 678 (by decide +kernel), lnX1_formula, leX1_formula, liRX1, lkX1_formula, ⟨rfl, ldX1_formula⟩, by decide⟩
theorem lmRX1_64 : ∀ ci ∈ ([1] : List Nat), ∃ (C0 : String) (T : u_T) (N : Nat), cls[ci]? = some (C0, T, N) ∧ okU RX1 64 C0 "PactYears$Reader" ⟨"PactYears$FormulaReader", "expect", "(I)V"⟩ yX4_expect cX4_expect 2 none 1 := fun ci h => by
  simp only [List.mem_cons, List.not_mem_nil, or_false] at h
  subst h; exact ⟨_, _, _, rfl, in_I 708 (by decide +kernel), in_I 709 (by decide +kernel), in_I 710 (by decide +kernel), lnX4_expect, liRX4, lkX4_expect, rfl, by decide +kernel, by decide⟩
theorem lmRX1_61 : okV RX1 61 RX1 yX1_soMany cX1_soMany 18 (some .long) 2 := ⟨in_I 704 (by decide +kernel), lnX1_soMany, leX1_soMany, liRX1, lkX1_soMany, ⟨rfl, ldX1_soMany⟩, by decide⟩
theorem lpRX1_15 : lkP RX1 15 5 [1] .int := fun ci h => by
  simp only [List.mem_cons, List.not_mem_nil, or_false] at h
  subst h; exact ⟨_, _, _, _, tyX1, lfRX1_15_1, rfl, by decide +kernel, tyX1_ok, nmX1⟩
theorem lmRX1_19 : ∀ ci ∈ ([1] : List Nat), ∃ (C0 : String) (T : u_T) (N : Nat), cls[ci]? = some (C0, T, N) ∧ okU RX1 19 C0 "PactYears$Reader" ⟨"PactYears$FormulaReader", "begin", "(I)V"⟩ yX4_begin cX4_begin 2 none 1 := fun ci h => by
  simp only [List.mem_cons, List.not_mem_nil, or_false] at h
  subst h; exact ⟨_, _, _, rfl, in_I 675 (by decide +kernel), in_I 676 (by decide +kernel), in_I 677 (by decide +kernel), lnX4_begin, liRX4, lkX4_begin, rfl, by decide +kernel, by decide⟩
theorem lfRX1_9_1 : lkF RX1 9 1 4 RX1 TX1 6 "PactYears$FormulaReader" := ⟨rfl, by decide, iX1, in_I 156 (by decide +kernel), Or.inl rfl⟩
theorem lgRX1_9 : lkA RX1 9 4 [1] := fun ci h => by
  simp only [List.mem_cons, List.not_mem_nil, or_false] at h
  subst h; exact ⟨_, _, _, _, lfRX1_9_1⟩
theorem lfRX2_38_2 : lkF RX2 38 2 9 RX2 TX2 13 "PactYears$Law" := ⟨rfl, by decide, iX2, in_I 262 (by decide +kernel), Or.inl rfl⟩
theorem lgRX2_38 : lkA RX2 38 9 [2] := fun ci h => by
  simp only [List.mem_cons, List.not_mem_nil, or_false] at h
  subst h; exact ⟨_, _, _, _, lfRX2_38_2⟩
theorem lfRX2_21_2 : lkF RX2 21 2 8 RX2 TX2 13 "PactYears$Law" := ⟨rfl, by decide, iX2, in_I 261 (by decide +kernel), Or.inl rfl⟩
theorem lgRX2_21 : lkA RX2 21 8 [2] := fun ci h => by
  simp only [List.mem_cons, List.not_mem_nil, or_false] at h
  subst h; exact ⟨_, _, _, _, lfRX2_21_2⟩
theorem lpRX2_38 : lkP RX2 38 9 [2] .int := fun ci h => by
  simp only [List.mem_cons, List.not_mem_nil, or_false] at h
  subst h; exact ⟨_, _, _, _, tyX2, lfRX2_38_2, rfl, by decide +kernel, tyX2_ok, nmX2⟩
theorem lmRX2_60 : okV RX2 60 RX2 yX2_emit cX2_emit 2 none 1 := ⟨in_I 533 (by decide +kernel), lnX2_emit, leX2_emit, liRX2, lkX2_emit, ⟨rfl, ldX2_emit⟩, by decide⟩
theorem lmRX2_47 : ∀ ci ∈ ([2] : List Nat), ∃ (C0 : String) (T : u_T) (N : Nat), cls[ci]? = some (C0, T, N) ∧ okU RX2 47 C0 "PactYears$Reader" ⟨"PactYears$Law", "here", "()I"⟩ yX4_here cX4_here 1 (some .int) 0 := fun ci h => by
  simp only [List.mem_cons, List.not_mem_nil, or_false] at h
  subst h; exact ⟨_, _, _, rfl, in_I 517 (by decide +kernel), in_I 518 (by decide +kernel), in_I 520 (by decide +kernel), lnX4_here, liRX4, lkX4_here, rfl, by decide +kernel, by decide⟩
theorem lmRX2_54 : ∀ ci ∈ ([2] : List Nat), ∃ (C0 : String) (T : u_T) (N : Nat), cls[ci]? = some (C0, T, N) ∧ okU RX2 54 C0 "PactYears$Reader" ⟨"PactYears$Law", "fail", "(I)V"⟩ yX4_fail cX4_fail 2 none 1 := fun ci h => by
  simp only [List.mem_cons, List.not_mem_nil, or_false] at h
  subst h; exact ⟨_, _, _, rfl, in_I 527 (by decide +kernel), in_I 528 (by decide +kernel), in_I 530 (by decide +kernel), lnX4_fail, liRX4, lkX4_fail, rfl, by decide +kernel, by decide⟩
theorem lfRX2_57_2 : lkF RX2 57 2 2 RX2 TX2 13 "PactYears$Law" := ⟨rfl, by decide, iX2, in_I 166 (by decide +kernel), Or.inr (in_I 167 (by decide +kernel))⟩
theorem lgRX2_57 : lkA RX2 57 2 [2] := fun ci h => by
  simp only [List.mem_cons, List.not_mem_nil, or_false] at h
  subst h; exact ⟨_, _, _, _, lfRX2_57_2⟩
theorem lpRX2_57 : lkP RX2 57 2 [2] .int := fun ci h => by
  simp only [List.mem_cons, List.not_mem_nil, or_false] at h
  subst h; exact ⟨_, _, _, _, tyX2, lfRX2_57_2, rfl, by decide +kernel, tyX2_ok, nmX2⟩
theorem lmRX2_81 : okV RX2 81 RX2 yX2_readFactor cX2_readFactor 4 none 1 := ⟨in_I 541 (by decide +kernel), lnX2_readFactor, leX2_readFactor, liRX2, lkX2_readFactor, ⟨rfl, ldX2_readFactor⟩, by decide⟩
theorem lfRX2_72_2 : lkF RX2 72 2 1 RX2 TX2 13 "PactYears$Law" := ⟨rfl, by decide, iX2, in_I 163 (by decide +kernel), Or.inr (in_I 164 (by decide +kernel))⟩
theorem lgRX2_72 : lkA RX2 72 1 [2] := fun ci h => by
  simp only [List.mem_cons, List.not_mem_nil, or_false] at h
  subst h; exact ⟨_, _, _, _, lfRX2_72_2⟩
theorem lfRX2_41_2 : lkF RX2 41 2 3 RX2 TX2 13 "PactYears$Law" := ⟨rfl, by decide, iX2, in_I 171 (by decide +kernel), Or.inr (in_I 172 (by decide +kernel))⟩
theorem lgRX2_41 : lkA RX2 41 3 [2] := fun ci h => by
  simp only [List.mem_cons, List.not_mem_nil, or_false] at h
  subst h; exact ⟨_, _, _, _, lfRX2_41_2⟩
theorem lmRX2_78 : ∀ ci ∈ ([2] : List Nat), ∃ (C0 : String) (T : u_T) (N : Nat), cls[ci]? = some (C0, T, N) ∧ okU RX2 78 C0 "PactYears$Reader" ⟨"PactYears$Law", "open", "(I)V"⟩ yX4_open cX4_open 2 none 1 := fun ci h => by
  simp only [List.mem_cons, List.not_mem_nil, or_false] at h
  subst h; exact ⟨_, _, _, rfl, in_I 632 (by decide +kernel), in_I 633 (by decide +kernel), in_I 635 (by decide +kernel), lnX4_open, liRX4, lkX4_open, rfl, by decide +kernel, by decide⟩
theorem lmRX2_63 : okV RX2 63 RX2 yX2_readSum cX2_readSum 5 none 1 := ⟨in_I 537 (by decide +kernel), lnX2_readSum, leX2_readSum, liRX2, lkX2_readSum, ⟨rfl, ldX2_readSum⟩, by decide⟩
theorem lmRX2_51 : ∀ ci ∈ ([2] : List Nat), ∃ (C0 : String) (T : u_T) (N : Nat), cls[ci]? = some (C0, T, N) ∧ okU RX2 51 C0 "PactYears$Reader" ⟨"PactYears$Law", "expect", "(I)V"⟩ yX4_expect cX4_expect 2 none 1 := fun ci h => by
  simp only [List.mem_cons, List.not_mem_nil, or_false] at h
  subst h; exact ⟨_, _, _, rfl, in_I 639 (by decide +kernel), in_I 640 (by decide +kernel), in_I 642 (by decide +kernel), lnX4_expect, liRX4, lkX4_expect, rfl, by decide +kernel, by decide⟩
theorem lcRX2_96 : Cond.constant RX2 96 (100000 : Int32) ∈ gd_tbl := in_I 650 (by decide +kernel)
theorem lmRX2_92 : okV RX2 92 RX2 yX2_readNumber cX2_readNumber 4 none 0 := ⟨in_I 646 (by decide +kernel), lnX2_readNumber, leX2_readNumber, liRX2, lkX2_readNumber, ⟨rfl, ldX2_readNumber⟩, by decide⟩
theorem lmRX2_86 : okV RX2 86 RJ0 yJ0_indexOf_0f7a4 cJ0_indexOf_0f7a4 2 (some .int) 1 := ⟨in_I 546 (by decide +kernel), lnJ0_indexOf_0f7a4, leJ0_indexOf_0f7a4, liRJ0, lkJ0_indexOf_0f7a4, ⟨rfl, ldJ0_indexOf_0f7a4⟩, by decide⟩
theorem lmRX2_69 : okV RX2 69 RX2 yX2_readTest cX2_readTest 4 none 1 := ⟨in_I 655 (by decide +kernel), lnX2_readTest, leX2_readTest, liRX2, lkX2_readTest, ⟨rfl, ldX2_readTest⟩, by decide⟩
theorem lmRX2_75 : okV RX2 75 RX2 yX2_landSkip cX2_landSkip 2 none 1 := ⟨in_I 659 (by decide +kernel), lnX2_landSkip, leX2_landSkip, liRX2, lkX2_landSkip, ⟨rfl, ldX2_landSkip⟩, by decide⟩
theorem lmRX2_66 : okV RX2 66 RX2 yX2_readSome cX2_readSome 6 none 1 := ⟨in_I 651 (by decide +kernel), lnX2_readSome, leX2_readSome, liRX2, lkX2_readSome, ⟨rfl, ldX2_readSome⟩, by decide⟩
theorem lfRX2_9_2 : lkF RX2 9 2 5 RX2 TX2 13 "PactYears$Law" := ⟨rfl, by decide, iX2, in_I 258 (by decide +kernel), Or.inl rfl⟩
theorem lgRX2_9 : lkA RX2 9 5 [2] := fun ci h => by
  simp only [List.mem_cons, List.not_mem_nil, or_false] at h
  subst h; exact ⟨_, _, _, _, lfRX2_9_2⟩
theorem lfRX2_15_2 : lkF RX2 15 2 6 RX2 TX2 13 "PactYears$Law" := ⟨rfl, by decide, iX2, in_I 259 (by decide +kernel), Or.inl rfl⟩
theorem lgRX2_15 : lkA RX2 15 6 [2] := fun ci h => by
  simp only [List.mem_cons, List.not_mem_nil, or_false] at h
  subst h; exact ⟨_, _, _, _, lfRX2_15_2⟩
theorem lfRX2_34_2 : lkF RX2 34 2 4 RX2 TX2 13 "PactYears$Law" := ⟨rfl, by decide, iX2, in_I 256 (by decide +kernel), Or.inl rfl⟩
theorem lpRX2_34 : lkP RX2 34 4 [2] .int := fun ci h => by
  simp only [List.mem_cons, List.not_mem_nil, or_false] at h
  subst h; exact ⟨_, _, _, _, tyX2, lfRX2_34_2, rfl, by decide +kernel, tyX2_ok, nmX2⟩
theorem lfRX2_18_2 : lkF RX2 18 2 7 RX2 TX2 13 "PactYears$Law" := ⟨rfl, by decide, iX2, in_I 260 (by decide +kernel), Or.inl rfl⟩
theorem lgRX2_18 : lkA RX2 18 7 [2] := fun ci h => by
  simp only [List.mem_cons, List.not_mem_nil, or_false] at h
  subst h; exact ⟨_, _, _, _, lfRX2_18_2⟩
theorem lmRX2_30 : ∀ ci ∈ ([2] : List Nat), ∃ (C0 : String) (T : u_T) (N : Nat), cls[ci]? = some (C0, T, N) ∧ okU RX2 30 C0 "PactYears$Reader" ⟨"PactYears$Law", "begin", "(I)V"⟩ yX4_begin cX4_begin 2 none 1 := fun ci h => by
  simp only [List.mem_cons, List.not_mem_nil, or_false] at h
  subst h; exact ⟨_, _, _, rfl, in_I 507 (by decide +kernel), in_I 508 (by decide +kernel), in_I 510 (by decide +kernel), lnX4_begin, liRX4, lkX4_begin, rfl, by decide +kernel, by decide⟩
theorem lgRX2_34 : lkA RX2 34 4 [2] := fun ci h => by
  simp only [List.mem_cons, List.not_mem_nil, or_false] at h
  subst h; exact ⟨_, _, _, _, lfRX2_34_2⟩
theorem lmRX2_44 : okV RX2 44 RX2 yX2_readRule cX2_readRule 3 none 1 := ⟨in_I 513 (by decide +kernel), lnX2_readRule, leX2_readRule, liRX2, lkX2_readRule, ⟨rfl, ldX2_readRule⟩, by decide⟩
theorem lfRX6_15_6 : lkF RX6 15 6 1 RX6 TX6 6 "PactYears$Standing" := ⟨rfl, by decide, iX6, in_I 304 (by decide +kernel), Or.inl rfl⟩
theorem lgRX6_15 : lkA RX6 15 1 [6] := fun ci h => by
  simp only [List.mem_cons, List.not_mem_nil, or_false] at h
  subst h; exact ⟨_, _, _, _, lfRX6_15_6⟩
theorem lfRX2_24_2 : lkF RX2 24 2 10 RX2 TX2 13 "PactYears$Law" := ⟨rfl, by decide, iX2, in_I 263 (by decide +kernel), Or.inl rfl⟩
theorem lgRX2_24 : lkA RX2 24 10 [2] := fun ci h => by
  simp only [List.mem_cons, List.not_mem_nil, or_false] at h
  subst h; exact ⟨_, _, _, _, lfRX2_24_2⟩
theorem lfRX2_97_6 : lkF RX2 97 6 0 RX6 TX6 6 "PactYears$Standing" := ⟨rfl, by decide, iX6, in_I 303 (by decide +kernel), Or.inl rfl⟩
theorem lgRX2_97 : lkA RX2 97 0 [6] := fun ci h => by
  simp only [List.mem_cons, List.not_mem_nil, or_false] at h
  subst h; exact ⟨_, _, _, _, lfRX2_97_6⟩
theorem lmRX2_102 : okS RX2 102 yJ6_bitCount_0f7a4 cJ6_bitCount_0f7a4 1 (some .int) 1 := ⟨in_I 786 (by decide +kernel), ltJ6_bitCount_0f7a4, liRJ6, lkJ6_bitCount_0f7a4, ldJ6_bitCount_0f7a4, by decide⟩
theorem lfRX2_107_6 : lkF RX2 107 6 3 RX6 TX6 6 "PactYears$Standing" := ⟨rfl, by decide, iX6, in_I 312 (by decide +kernel), Or.inl rfl⟩
theorem lgRX2_107 : lkA RX2 107 3 [6] := fun ci h => by
  simp only [List.mem_cons, List.not_mem_nil, or_false] at h
  subst h; exact ⟨_, _, _, _, lfRX2_107_6⟩
theorem lfRX2_110_6 : lkF RX2 110 6 1 RX6 TX6 6 "PactYears$Standing" := ⟨rfl, by decide, iX6, in_I 306 (by decide +kernel), Or.inl rfl⟩
theorem lgRX2_110 : lkA RX2 110 1 [6] := fun ci h => by
  simp only [List.mem_cons, List.not_mem_nil, or_false] at h
  subst h; exact ⟨_, _, _, _, lfRX2_110_6⟩
theorem lmRX2_113 : okV RX2 113 RX6 yX6_month cX6_month 1 (some .int) 0 := ⟨in_I 787 (by decide +kernel), lnX6_month, leX6_month, liRX6, lkX6_month, ⟨rfl, ldX6_month⟩, by decide⟩
theorem lfRX2_116_6 : lkF RX2 116 6 2 RX6 TX6 6 "PactYears$Standing" := ⟨rfl, by decide, iX6, in_I 308 (by decide +kernel), Or.inl rfl⟩
theorem lgRX2_116 : lkA RX2 116 2 [6] := fun ci h => by
  simp only [List.mem_cons, List.not_mem_nil, or_false] at h
  subst h; exact ⟨_, _, _, _, lfRX2_116_6⟩
theorem lfRX2_131_2 : lkF RX2 131 2 12 RX2 TX2 13 "PactYears$Law" := ⟨rfl, by decide, iX2, in_I 265 (by decide +kernel), Or.inl rfl⟩
theorem lpRX2_131 : lkP RX2 131 12 [2] .boolean := fun ci h => by
  simp only [List.mem_cons, List.not_mem_nil, or_false] at h
  subst h; exact ⟨_, _, _, _, tyX2, lfRX2_131_2, rfl, by decide +kernel, tyX2_ok, nmX2⟩
theorem laRX2_128 : Cond.methodLink RX2 128 Lib.Math.max.name ∈ gd_tbl := in_I 799 (by decide +kernel)
theorem lgRX2_131 : lkA RX2 131 12 [2] := fun ci h => by
  simp only [List.mem_cons, List.not_mem_nil, or_false] at h
  subst h; exact ⟨_, _, _, _, lfRX2_131_2⟩
theorem lfRX2_27_2 : lkF RX2 27 2 11 RX2 TX2 13 "PactYears$Law" := ⟨rfl, by decide, iX2, in_I 264 (by decide +kernel), Or.inl rfl⟩
theorem lgRX2_27 : lkA RX2 27 11 [2] := fun ci h => by
  simp only [List.mem_cons, List.not_mem_nil, or_false] at h
  subst h; exact ⟨_, _, _, _, lfRX2_27_2⟩
theorem lmRX2_135 : okV RX2 135 RX2 yX2_reckon cX2_reckon 4 (some .int) 3 := ⟨in_I 800 (by decide +kernel), lnX2_reckon, leX2_reckon, liRX2, lkX2_reckon, ⟨rfl, ldX2_reckon⟩, by decide⟩
theorem lmRX2_119 : okV RX2 119 RX2 yX2_run cX2_run 7 (some .int) 1 := ⟨in_I 795 (by decide +kernel), lnX2_run, leX2_run, liRX2, lkX2_run, ⟨rfl, ldX2_run⟩, by decide⟩
theorem laRX2_122 : Cond.methodLink RX2 122 Lib.Math.min.name ∈ gd_tbl := in_I 804 (by decide +kernel)
theorem lmRX7_17 : okS RX7 17 yJ13_bitCount_95d88 cJ13_bitCount_95d88 2 (some .int) 1 := ⟨in_I 220 (by decide +kernel), ltJ13_bitCount_95d88, liRJ13, lkJ13_bitCount_95d88, ldJ13_bitCount_95d88, by decide⟩
theorem lfRX3_9_3 : lkF RX3 9 3 0 RX3 TX3 4 "PactYears$Prices" := ⟨rfl, by decide, iX3, in_I 234 (by decide +kernel), Or.inl rfl⟩
theorem lgRX3_9 : lkA RX3 9 0 [3] := fun ci h => by
  simp only [List.mem_cons, List.not_mem_nil, or_false] at h
  subst h; exact ⟨_, _, _, _, lfRX3_9_3⟩
theorem lfRX3_21_3 : lkF RX3 21 3 3 RX3 TX3 4 "PactYears$Prices" := ⟨rfl, by decide, iX3, in_I 237 (by decide +kernel), Or.inl rfl⟩
theorem lgRX3_21 : lkA RX3 21 3 [3] := fun ci h => by
  simp only [List.mem_cons, List.not_mem_nil, or_false] at h
  subst h; exact ⟨_, _, _, _, lfRX3_21_3⟩
theorem lfRX3_15_3 : lkF RX3 15 3 1 RX3 TX3 4 "PactYears$Prices" := ⟨rfl, by decide, iX3, in_I 235 (by decide +kernel), Or.inl rfl⟩
theorem lgRX3_15 : lkA RX3 15 1 [3] := fun ci h => by
  simp only [List.mem_cons, List.not_mem_nil, or_false] at h
  subst h; exact ⟨_, _, _, _, lfRX3_15_3⟩
theorem lmRX3_37 : okV RX3 37 RX3 yX3_sortIn cX3_sortIn 4 none 1 := ⟨in_I 230 (by decide +kernel), lnX3_sortIn, leX3_sortIn, liRX3, lkX3_sortIn, ⟨rfl, ldX3_sortIn⟩, by decide⟩
theorem lfRX3_18_3 : lkF RX3 18 3 2 RX3 TX3 4 "PactYears$Prices" := ⟨rfl, by decide, iX3, in_I 236 (by decide +kernel), Or.inl rfl⟩
theorem lgRX3_18 : lkA RX3 18 2 [3] := fun ci h => by
  simp only [List.mem_cons, List.not_mem_nil, or_false] at h
  subst h; exact ⟨_, _, _, _, lfRX3_18_3⟩
theorem lmRX3_27 : okS RX3 27 yX7_lowestBit cX7_lowestBit 2 (some .int) 1 := ⟨in_I 217 (by decide +kernel), ltX7_lowestBit, liRX7, lkX7_lowestBit, ldX7_lowestBit, by decide⟩
theorem lmRX3_33 : okV RX3 33 RX3 yX3_step cX3_step 2 (some .int) 1 := ⟨in_I 226 (by decide +kernel), lnX3_step, leX3_step, liRX3, lkX3_step, ⟨rfl, ldX3_step⟩, by decide⟩
theorem lmRX3_24 : okV RX3 24 RX3 yX3_reckon cX3_reckon 2 none 0 := ⟨in_I 213 (by decide +kernel), lnX3_reckon, leX3_reckon, liRX3, lkX3_reckon, ⟨rfl, ldX3_reckon⟩, by decide⟩
theorem lcRX3_41 : Cond.constant RX3 41 (1000000000 : Int32) ∈ gd_tbl := in_I 770 (by decide +kernel)
theorem laRX3_42 : Cond.methodLink RX3 42 Lib.Math.min.name ∈ gd_tbl := in_I 771 (by decide +kernel)
theorem lfRX6_27_6 : lkF RX6 27 6 5 RX6 TX6 6 "PactYears$Standing" := ⟨rfl, by decide, iX6, in_I 317 (by decide +kernel), Or.inl rfl⟩
theorem lgRX6_27 : lkA RX6 27 5 [6] := fun ci h => by
  simp only [List.mem_cons, List.not_mem_nil, or_false] at h
  subst h; exact ⟨_, _, _, _, lfRX6_27_6⟩
theorem lmRX6_31 : okV RX6 31 RX6 yX6_isFetched cX6_isFetched 1 (some .boolean) 0 := ⟨in_I 762 (by decide +kernel), lnX6_isFetched, leX6_isFetched, liRX6, lkX6_isFetched, ⟨rfl, ldX6_isFetched⟩, by decide⟩
theorem lfRX5_41_6 : lkF RX5 41 6 0 RX6 TX6 6 "PactYears$Standing" := ⟨rfl, by decide, iX6, in_I 300 (by decide +kernel), Or.inl rfl⟩
theorem lgRX5_41 : lkA RX5 41 0 [6] := fun ci h => by
  simp only [List.mem_cons, List.not_mem_nil, or_false] at h
  subst h; exact ⟨_, _, _, _, lfRX5_41_6⟩
theorem lfRX5_45_5 : lkF RX5 45 5 2 RX5 TX5 13 "PactYears$Spirit" := ⟨rfl, by decide, iX5, in_I 336 (by decide +kernel), Or.inl rfl⟩
theorem lpRX5_45 : lkP RX5 45 2 [5] .int := fun ci h => by
  simp only [List.mem_cons, List.not_mem_nil, or_false] at h
  subst h; exact ⟨_, _, _, _, tyX5, lfRX5_45_5, rfl, by decide +kernel, tyX5_ok, nmX5⟩
theorem lfRX5_46_5 : lkF RX5 46 5 3 RX5 TX5 13 "PactYears$Spirit" := ⟨rfl, by decide, iX5, in_I 338 (by decide +kernel), Or.inl rfl⟩
theorem lpRX5_46 : lkP RX5 46 3 [5] .int := fun ci h => by
  simp only [List.mem_cons, List.not_mem_nil, or_false] at h
  subst h; exact ⟨_, _, _, _, tyX5, lfRX5_46_5, rfl, by decide +kernel, tyX5_ok, nmX5⟩
theorem lfRX5_49_5 : lkF RX5 49 5 4 RX5 TX5 13 "PactYears$Spirit" := ⟨rfl, by decide, iX5, in_I 340 (by decide +kernel), Or.inl rfl⟩
theorem lpRX5_49 : lkP RX5 49 4 [5] .int := fun ci h => by
  simp only [List.mem_cons, List.not_mem_nil, or_false] at h
  subst h; exact ⟨_, _, _, _, tyX5, lfRX5_49_5, rfl, by decide +kernel, tyX5_ok, nmX5⟩
theorem lfRX5_52_5 : lkF RX5 52 5 5 RX5 TX5 13 "PactYears$Spirit" := ⟨rfl, by decide, iX5, in_I 342 (by decide +kernel), Or.inl rfl⟩
theorem lpRX5_52 : lkP RX5 52 5 [5] .int := fun ci h => by
  simp only [List.mem_cons, List.not_mem_nil, or_false] at h
  subst h; exact ⟨_, _, _, _, tyX5, lfRX5_52_5, rfl, by decide +kernel, tyX5_ok, nmX5⟩
theorem lmRX5_55 : okV RX5 55 RX6 yX6_isOver cX6_isOver 1 (some .boolean) 0 := ⟨in_I 758 (by decide +kernel), lnX6_isOver, leX6_isOver, liRX6, lkX6_isOver, ⟨rfl, ldX6_isOver⟩, by decide⟩
theorem lfRX5_62_6 : lkF RX5 62 6 4 RX6 TX6 6 "PactYears$Standing" := ⟨rfl, by decide, iX6, in_I 315 (by decide +kernel), Or.inl rfl⟩
theorem lgRX5_62 : lkA RX5 62 4 [6] := fun ci h => by
  simp only [List.mem_cons, List.not_mem_nil, or_false] at h
  subst h; exact ⟨_, _, _, _, lfRX5_62_6⟩
theorem lfRX5_36_5 : lkF RX5 36 5 11 RX5 TX5 13 "PactYears$Spirit" := ⟨rfl, by decide, iX5, in_I 352 (by decide +kernel), Or.inl rfl⟩
theorem lgRX5_36 : lkA RX5 36 11 [5] := fun ci h => by
  simp only [List.mem_cons, List.not_mem_nil, or_false] at h
  subst h; exact ⟨_, _, _, _, lfRX5_36_5⟩
theorem lfRX5_32_5 : lkF RX5 32 5 10 RX5 TX5 13 "PactYears$Spirit" := ⟨rfl, by decide, iX5, in_I 351 (by decide +kernel), Or.inl rfl⟩
theorem lgRX5_32 : lkA RX5 32 10 [5] := fun ci h => by
  simp only [List.mem_cons, List.not_mem_nil, or_false] at h
  subst h; exact ⟨_, _, _, _, lfRX5_32_5⟩
theorem lfRX5_28_5 : lkF RX5 28 5 9 RX5 TX5 13 "PactYears$Spirit" := ⟨rfl, by decide, iX5, in_I 350 (by decide +kernel), Or.inl rfl⟩
theorem lgRX5_28 : lkA RX5 28 9 [5] := fun ci h => by
  simp only [List.mem_cons, List.not_mem_nil, or_false] at h
  subst h; exact ⟨_, _, _, _, lfRX5_28_5⟩
theorem lfRX5_65_0 : lkF RX5 65 0 0 RX0 TX0 2 "PactYears$Book" := ⟨rfl, by decide, iX0, in_I 198 (by decide +kernel), Or.inl rfl⟩
theorem lgRX5_65 : lkA RX5 65 0 [0] := fun ci h => by
  simp only [List.mem_cons, List.not_mem_nil, or_false] at h
  subst h; exact ⟨_, _, _, _, lfRX5_65_0⟩
theorem lmRX5_71 : okV RX5 71 RX3 yX3_nearest cX3_nearest 13 (some .int) 3 := ⟨in_I 766 (by decide +kernel), lnX3_nearest, leX3_nearest, liRX3, lkX3_nearest, ⟨rfl, ldX3_nearest⟩, by decide⟩
theorem lfRX5_24_5 : lkF RX5 24 5 0 RX5 TX5 13 "PactYears$Spirit" := ⟨rfl, by decide, iX5, in_I 332 (by decide +kernel), Or.inl rfl⟩
theorem lgRX5_24 : lkA RX5 24 0 [5] := fun ci h => by
  simp only [List.mem_cons, List.not_mem_nil, or_false] at h
  subst h; exact ⟨_, _, _, _, lfRX5_24_5⟩
theorem lmRX5_77 : okS RX5 77 yJ6_bitCount_0f7a4 cJ6_bitCount_0f7a4 1 (some .int) 1 := ⟨in_I 772 (by decide +kernel), ltJ6_bitCount_0f7a4, liRJ6, lkJ6_bitCount_0f7a4, ldJ6_bitCount_0f7a4, by decide⟩
theorem lmRX5_83 : okV RX5 83 RX3 yX3_of cX3_of 2 (some .int) 1 := ⟨in_I 778 (by decide +kernel), lnX3_of, leX3_of, liRX3, lkX3_of, ⟨rfl, ldX3_of⟩, by decide⟩
theorem lmRX5_86 : okV RX5 86 RX2 yX2_look cX2_look 5 none 4 := ⟨in_I 782 (by decide +kernel), lnX2_look, leX2_look, liRX2, lkX2_look, ⟨rfl, ldX2_look⟩, by decide⟩
theorem lmRX5_92 : okV RX5 92 RX2 yX2_worth cX2_worth 4 (some .int) 2 := ⟨in_I 791 (by decide +kernel), lnX2_worth, leX2_worth, liRX2, lkX2_worth, ⟨rfl, ldX2_worth⟩, by decide⟩
theorem lfRX5_59_5 : lkF RX5 59 5 1 RX5 TX5 13 "PactYears$Spirit" := ⟨rfl, by decide, iX5, in_I 334 (by decide +kernel), Or.inl rfl⟩
theorem lpRX5_59 : lkP RX5 59 1 [5] .int := fun ci h => by
  simp only [List.mem_cons, List.not_mem_nil, or_false] at h
  subst h; exact ⟨_, _, _, _, tyX5, lfRX5_59_5, rfl, by decide +kernel, tyX5_ok, nmX5⟩
theorem laRX6_35 : Cond.methodLink RX6 35 Lib.Math.min.name ∈ gd_tbl := in_I 813 (by decide +kernel)
theorem lpRX6_15 : lkP RX6 15 1 [6] .int := fun ci h => by
  simp only [List.mem_cons, List.not_mem_nil, or_false] at h
  subst h; exact ⟨_, _, _, _, tyX6, lfRX6_15_6, rfl, by decide +kernel, tyX6_ok, nmX6⟩
theorem lfRX6_18_6 : lkF RX6 18 6 2 RX6 TX6 6 "PactYears$Standing" := ⟨rfl, by decide, iX6, in_I 307 (by decide +kernel), Or.inl rfl⟩
theorem lgRX6_18 : lkA RX6 18 2 [6] := fun ci h => by
  simp only [List.mem_cons, List.not_mem_nil, or_false] at h
  subst h; exact ⟨_, _, _, _, lfRX6_18_6⟩
theorem lpRX6_18 : lkP RX6 18 2 [6] .int := fun ci h => by
  simp only [List.mem_cons, List.not_mem_nil, or_false] at h
  subst h; exact ⟨_, _, _, _, tyX6, lfRX6_18_6, rfl, by decide +kernel, tyX6_ok, nmX6⟩
theorem lgRX5_45 : lkA RX5 45 2 [5] := fun ci h => by
  simp only [List.mem_cons, List.not_mem_nil, or_false] at h
  subst h; exact ⟨_, _, _, _, lfRX5_45_5⟩
theorem lpRX5_41 : lkP RX5 41 0 [6] .int := fun ci h => by
  simp only [List.mem_cons, List.not_mem_nil, or_false] at h
  subst h; exact ⟨_, _, _, _, tyX6, lfRX5_41_6, rfl, by decide +kernel, tyX6_ok, nmX6⟩
theorem lgRX5_59 : lkA RX5 59 1 [5] := fun ci h => by
  simp only [List.mem_cons, List.not_mem_nil, or_false] at h
  subst h; exact ⟨_, _, _, _, lfRX5_59_5⟩
theorem lmRX5_96 : okV RX5 96 RX6 yX6_passDays cX6_passDays 2 none 1 := ⟨in_I 809 (by decide +kernel), lnX6_passDays, leX6_passDays, liRX6, lkX6_passDays, ⟨rfl, ldX6_passDays⟩, by decide⟩
theorem lgRX5_52 : lkA RX5 52 5 [5] := fun ci h => by
  simp only [List.mem_cons, List.not_mem_nil, or_false] at h
  subst h; exact ⟨_, _, _, _, lfRX5_52_5⟩
theorem lmRX5_100 : okV RX5 100 RX6 yX6_addSins cX6_addSins 2 none 1 := ⟨in_I 814 (by decide +kernel), lnX6_addSins, leX6_addSins, liRX6, lkX6_addSins, ⟨rfl, ldX6_addSins⟩, by decide⟩
theorem lpRX5_62 : lkP RX5 62 4 [6] .int := fun ci h => by
  simp only [List.mem_cons, List.not_mem_nil, or_false] at h
  subst h; exact ⟨_, _, _, _, tyX6, lfRX5_62_6, rfl, by decide +kernel, tyX6_ok, nmX6⟩
theorem lfRX5_103_6 : lkF RX5 103 6 3 RX6 TX6 6 "PactYears$Standing" := ⟨rfl, by decide, iX6, in_I 311 (by decide +kernel), Or.inl rfl⟩
theorem lgRX5_103 : lkA RX5 103 3 [6] := fun ci h => by
  simp only [List.mem_cons, List.not_mem_nil, or_false] at h
  subst h; exact ⟨_, _, _, _, lfRX5_103_6⟩
theorem lpRX5_103 : lkP RX5 103 3 [6] .int := fun ci h => by
  simp only [List.mem_cons, List.not_mem_nil, or_false] at h
  subst h; exact ⟨_, _, _, _, tyX6, lfRX5_103_6, rfl, by decide +kernel, tyX6_ok, nmX6⟩
theorem lfRX6_9_6 : lkF RX6 9 6 0 RX6 TX6 6 "PactYears$Standing" := ⟨rfl, by decide, iX6, in_I 301 (by decide +kernel), Or.inl rfl⟩
theorem lgRX6_9 : lkA RX6 9 0 [6] := fun ci h => by
  simp only [List.mem_cons, List.not_mem_nil, or_false] at h
  subst h; exact ⟨_, _, _, _, lfRX6_9_6⟩
theorem lpRX6_9 : lkP RX6 9 0 [6] .int := fun ci h => by
  simp only [List.mem_cons, List.not_mem_nil, or_false] at h
  subst h; exact ⟨_, _, _, _, tyX6, lfRX6_9_6, rfl, by decide +kernel, tyX6_ok, nmX6⟩
theorem lfRX6_21_6 : lkF RX6 21 6 3 RX6 TX6 6 "PactYears$Standing" := ⟨rfl, by decide, iX6, in_I 310 (by decide +kernel), Or.inl rfl⟩
theorem lgRX6_21 : lkA RX6 21 3 [6] := fun ci h => by
  simp only [List.mem_cons, List.not_mem_nil, or_false] at h
  subst h; exact ⟨_, _, _, _, lfRX6_21_6⟩
theorem lpRX6_21 : lkP RX6 21 3 [6] .int := fun ci h => by
  simp only [List.mem_cons, List.not_mem_nil, or_false] at h
  subst h; exact ⟨_, _, _, _, tyX6, lfRX6_21_6, rfl, by decide +kernel, tyX6_ok, nmX6⟩
theorem lfRX6_24_6 : lkF RX6 24 6 4 RX6 TX6 6 "PactYears$Standing" := ⟨rfl, by decide, iX6, in_I 314 (by decide +kernel), Or.inl rfl⟩
theorem lgRX6_24 : lkA RX6 24 4 [6] := fun ci h => by
  simp only [List.mem_cons, List.not_mem_nil, or_false] at h
  subst h; exact ⟨_, _, _, _, lfRX6_24_6⟩
theorem lpRX6_24 : lkP RX6 24 4 [6] .int := fun ci h => by
  simp only [List.mem_cons, List.not_mem_nil, or_false] at h
  subst h; exact ⟨_, _, _, _, tyX6, lfRX6_24_6, rfl, by decide +kernel, tyX6_ok, nmX6⟩
theorem lpRX6_27 : lkP RX6 27 5 [6] .boolean := fun ci h => by
  simp only [List.mem_cons, List.not_mem_nil, or_false] at h
  subst h; exact ⟨_, _, _, _, tyX6, lfRX6_27_6, rfl, by decide +kernel, tyX6_ok, nmX6⟩
theorem lfRX5_20_5 : lkF RX5 20 5 12 RX5 TX5 13 "PactYears$Spirit" := ⟨rfl, by decide, iX5, in_I 353 (by decide +kernel), Or.inl rfl⟩
theorem lgRX5_20 : lkA RX5 20 12 [5] := fun ci h => by
  simp only [List.mem_cons, List.not_mem_nil, or_false] at h
  subst h; exact ⟨_, _, _, _, lfRX5_20_5⟩
theorem lmRX5_141 : okV RX5 141 RX5 yX5_plan cX5_plan 5 none 2 := ⟨in_I 920 (by decide +kernel), lnX5_plan, leX5_plan, liRX5, lkX5_plan, ⟨rfl, ldX5_plan⟩, by decide⟩
theorem lmRX5_110 : okV RX5 110 RX6 yX6_take cX6_take 2 none 1 := ⟨in_I 907 (by decide +kernel), lnX6_take, leX6_take, liRX6, lkX6_take, ⟨rfl, ldX6_take⟩, by decide⟩
theorem lmRX5_145 : okV RX5 145 RX5 yX5_grant cX5_grant 3 none 2 := ⟨in_I 921 (by decide +kernel), lnX5_grant, leX5_grant, liRX5, lkX5_grant, ⟨rfl, ldX5_grant⟩, by decide⟩
theorem lfRX5_107_5 : lkF RX5 107 5 6 RX5 TX5 13 "PactYears$Spirit" := ⟨rfl, by decide, iX5, in_I 344 (by decide +kernel), Or.inl rfl⟩
theorem lpRX5_107 : lkP RX5 107 6 [5] .int := fun ci h => by
  simp only [List.mem_cons, List.not_mem_nil, or_false] at h
  subst h; exact ⟨_, _, _, _, tyX5, lfRX5_107_5, rfl, by decide +kernel, tyX5_ok, nmX5⟩
theorem lfRX5_9_5 : lkF RX5 9 5 7 RX5 TX5 13 "PactYears$Spirit" := ⟨rfl, by decide, iX5, in_I 346 (by decide +kernel), Or.inl rfl⟩
theorem lgRX5_9 : lkA RX5 9 7 [5] := fun ci h => by
  simp only [List.mem_cons, List.not_mem_nil, or_false] at h
  subst h; exact ⟨_, _, _, _, lfRX5_9_5⟩
theorem lfRX5_15_5 : lkF RX5 15 5 8 RX5 TX5 13 "PactYears$Spirit" := ⟨rfl, by decide, iX5, in_I 348 (by decide +kernel), Or.inl rfl⟩
theorem lgRX5_15 : lkA RX5 15 8 [5] := fun ci h => by
  simp only [List.mem_cons, List.not_mem_nil, or_false] at h
  subst h; exact ⟨_, _, _, _, lfRX5_15_5⟩
theorem laRX5_118 : Cond.methodLink RX5 118 arraycopyName ∈ gd_tbl := in_I 915 (by decide +kernel)
theorem lmRX5_124 : okV RX5 124 RX5 yX5_isGranted cX5_isGranted 3 (some .boolean) 2 := ⟨in_I 916 (by decide +kernel), lnX5_isGranted, leX5_isGranted, liRX5, lkX5_isGranted, ⟨rfl, ldX5_isGranted⟩, by decide⟩
theorem lgRX5_107 : lkA RX5 107 6 [5] := fun ci h => by
  simp only [List.mem_cons, List.not_mem_nil, or_false] at h
  subst h; exact ⟨_, _, _, _, lfRX5_107_5⟩
theorem lmRX5_114 : okV RX5 114 RX5 yX5_orderOn cX5_orderOn 5 none 3 := ⟨in_I 911 (by decide +kernel), lnX5_orderOn, leX5_orderOn, liRX5, lkX5_orderOn, ⟨rfl, ldX5_orderOn⟩, by decide⟩
theorem lcRX5_106 : Cond.constant RX5 106 (1000000000 : Int32) ∈ gd_tbl := in_I 906 (by decide +kernel)
theorem lmRX5_138 : okV RX5 138 RX0 yX0_has cX0_has 2 (some .boolean) 1 := ⟨in_I 935 (by decide +kernel), lnX0_has, leX0_has, liRX0, lkX0_has, ⟨rfl, ldX0_has⟩, by decide⟩
theorem lmRX5_128 : okV RX5 128 RX5 yX5_reachOn cX5_reachOn 5 (some .boolean) 3 := ⟨in_I 930 (by decide +kernel), lnX5_reachOn, leX5_reachOn, liRX5, lkX5_reachOn, ⟨rfl, ldX5_reachOn⟩, by decide⟩
theorem lmRX5_132 : okS RX5 132 yX7_has cX7_has 2 (some .boolean) 2 := ⟨in_I 934 (by decide +kernel), ltX7_has, liRX7, lkX7_has, ldX7_has, by decide⟩
theorem lmRX7_23 : okS RX7 23 yX7_soWord cX7_soWord 2 (some .long) 2 := ⟨in_I 852 (by decide +kernel), ltX7_soWord, liRX7, lkX7_soWord, ldX7_soWord, by decide⟩
theorem lmRX7_27 : okS RX7 27 yX7_lowestBit cX7_lowestBit 2 (some .int) 1 := ⟨in_I 840 (by decide +kernel), ltX7_lowestBit, liRX7, lkX7_lowestBit, ldX7_lowestBit, by decide⟩
theorem lmRX7_30 : okS RX7 30 yX7_has cX7_has 2 (some .boolean) 2 := ⟨in_I 844 (by decide +kernel), ltX7_has, liRX7, lkX7_has, ldX7_has, by decide⟩
theorem lmRX7_34 : okS RX7 34 yX7_size cX7_size 3 (some .int) 1 := ⟨in_I 848 (by decide +kernel), ltX7_size, liRX7, lkX7_size, ldX7_size, by decide⟩
theorem lmRX7_38 : okS RX7 38 yX7_sizeWith cX7_sizeWith 4 (some .int) 2 := ⟨in_I 849 (by decide +kernel), ltX7_sizeWith, liRX7, lkX7_sizeWith, ldX7_sizeWith, by decide⟩
theorem lmRX7_42 : okS RX7 42 yX7_changed cX7_changed 6 (some .long) 3 := ⟨in_I 866 (by decide +kernel), ltX7_changed, liRX7, lkX7_changed, ldX7_changed, by decide⟩
theorem lmRX7_46 : okS RX7 46 yX7_swing cX7_swing 4 (some .int) 2 := ⟨in_I 863 (by decide +kernel), ltX7_swing, liRX7, lkX7_swing, ldX7_swing, by decide⟩
theorem lmRX7_49 : okS RX7 49 yX7_dependsOn cX7_dependsOn 3 (some .int) 1 := ⟨in_I 872 (by decide +kernel), ltX7_dependsOn, liRX7, lkX7_dependsOn, ldX7_dependsOn, by decide⟩
theorem lfRX8_15_8 : lkF RX8 15 8 1 RX8 TX8 2 "PactYears$Tape" := ⟨rfl, by decide, iX8, in_I 139 (by decide +kernel), Or.inl rfl⟩
theorem lgRX8_15 : lkA RX8 15 1 [8] := fun ci h => by
  simp only [List.mem_cons, List.not_mem_nil, or_false] at h
  subst h; exact ⟨_, _, _, _, lfRX8_15_8⟩
theorem lpRX8_15 : lkP RX8 15 1 [8] .int := fun ci h => by
  simp only [List.mem_cons, List.not_mem_nil, or_false] at h
  subst h; exact ⟨_, _, _, _, tyX8, lfRX8_15_8, rfl, by decide +kernel, tyX8_ok, nmX8⟩
theorem lfRX9_9_9 : lkF RX9 9 9 0 RX9 TX9 3 "PactYears$Tour" := ⟨rfl, by decide, iX9, in_I 409 (by decide +kernel), Or.inl rfl⟩
theorem lgRX9_9 : lkA RX9 9 0 [9] := fun ci h => by
  simp only [List.mem_cons, List.not_mem_nil, or_false] at h
  subst h; exact ⟨_, _, _, _, lfRX9_9_9⟩
theorem lmRX9_41 : okV RX9 41 RX3 yX3_of cX3_of 2 (some .int) 1 := ⟨in_I 1060 (by decide +kernel), lnX3_of, leX3_of, liRX3, lkX3_of, ⟨rfl, ldX3_of⟩, by decide⟩
theorem lfRX9_18_9 : lkF RX9 18 9 2 RX9 TX9 3 "PactYears$Tour" := ⟨rfl, by decide, iX9, in_I 413 (by decide +kernel), Or.inl rfl⟩
theorem lgRX9_18 : lkA RX9 18 2 [9] := fun ci h => by
  simp only [List.mem_cons, List.not_mem_nil, or_false] at h
  subst h; exact ⟨_, _, _, _, lfRX9_18_9⟩
theorem lcRX9_47 : Cond.constant RX9 47 (1000000000 : Int32) ∈ gd_tbl := in_I 1055 (by decide +kernel)
theorem lmRX9_34 : okV RX9 34 RX9 yX9_throughNext cX9_throughNext 6 (some .int) 4 := ⟨in_I 1056 (by decide +kernel), lnX9_throughNext, leX9_throughNext, liRX9, lkX9_throughNext, ⟨rfl, ldX9_throughNext⟩, by decide⟩
theorem lmRX9_30 : okV RX9 30 RX9 yX9_nextOf cX9_nextOf 9 (some .int) 4 := ⟨in_I 1051 (by decide +kernel), lnX9_nextOf, leX9_nextOf, liRX9, lkX9_nextOf, ⟨rfl, ldX9_nextOf⟩, by decide⟩
theorem lfRX9_15_9 : lkF RX9 15 9 1 RX9 TX9 3 "PactYears$Tour" := ⟨rfl, by decide, iX9, in_I 411 (by decide +kernel), Or.inl rfl⟩
theorem lgRX9_15 : lkA RX9 15 1 [9] := fun ci h => by
  simp only [List.mem_cons, List.not_mem_nil, or_false] at h
  subst h; exact ⟨_, _, _, _, lfRX9_15_9⟩
theorem laRX9_21 : Cond.methodLink RX9 21 Lib.Math.min.name ∈ gd_tbl := in_I 1049 (by decide +kernel)
theorem laRX9_27 : Cond.methodLink RX9 27 Lib.Math.max.name ∈ gd_tbl := in_I 1050 (by decide +kernel)
theorem lmRX9_37 : okV RX9 37 RX9 yX9_walk cX9_walk 9 (some .int) 3 := ⟨in_I 1061 (by decide +kernel), lnX9_walk, leX9_walk, liRX9, lkX9_walk, ⟨rfl, ldX9_walk⟩, by decide⟩
theorem lmRX10_57 : okS RX10 57 yJ6_bitCount_0f7a4 cJ6_bitCount_0f7a4 1 (some .int) 1 := ⟨in_I 962 (by decide +kernel), ltJ6_bitCount_0f7a4, liRJ6, lkJ6_bitCount_0f7a4, ldJ6_bitCount_0f7a4, by decide⟩
theorem lfRX10_16_10 : lkF RX10 16 10 0 RX10 TX10 4 "PactYears$WordSearch" := ⟨rfl, by decide, iX10, in_I 388 (by decide +kernel), Or.inl rfl⟩
theorem lgRX10_16 : lkA RX10 16 0 [10] := fun ci h => by
  simp only [List.mem_cons, List.not_mem_nil, or_false] at h
  subst h; exact ⟨_, _, _, _, lfRX10_16_10⟩
theorem lfRX10_11_10 : lkF RX10 11 10 3 RX10 TX10 4 "PactYears$WordSearch" := ⟨rfl, by decide, iX10, in_I 393 (by decide +kernel), Or.inl rfl⟩
theorem lgRX10_11 : lkA RX10 11 3 [10] := fun ci h => by
  simp only [List.mem_cons, List.not_mem_nil, or_false] at h
  subst h; exact ⟨_, _, _, _, lfRX10_11_10⟩
theorem lmRX10_20 : okS RX10 20 yX7_isEmpty cX7_isEmpty 4 (some .boolean) 1 := ⟨in_I 951 (by decide +kernel), ltX7_isEmpty, liRX7, lkX7_isEmpty, ldX7_isEmpty, by decide⟩
theorem lmRX10_43 : okV RX10 43 RX10 yX10_mayBeBetter cX10_mayBeBetter 3 (some .boolean) 1 := ⟨in_I 958 (by decide +kernel), lnX10_mayBeBetter, leX10_mayBeBetter, liRX10, lkX10_mayBeBetter, ⟨rfl, ldX10_mayBeBetter⟩, by decide⟩
theorem lpRX10_16 : lkP RX10 16 0 [10] .int := fun ci h => by
  simp only [List.mem_cons, List.not_mem_nil, or_false] at h
  subst h; exact ⟨_, _, _, _, tyX10, lfRX10_16_10, rfl, by decide +kernel, tyX10_ok, nmX10⟩
theorem lmRX10_47 : okS RX10 47 yX7_first cX7_first 2 (some .int) 1 := ⟨in_I 963 (by decide +kernel), ltX7_first, liRX7, lkX7_first, ldX7_first, by decide⟩
theorem lfRX10_50_10 : lkF RX10 50 10 1 RX10 TX10 4 "PactYears$WordSearch" := ⟨rfl, by decide, iX10, in_I 390 (by decide +kernel), Or.inl rfl⟩
theorem lpRX10_50 : lkP RX10 50 1 [10] .int := fun ci h => by
  simp only [List.mem_cons, List.not_mem_nil, or_false] at h
  subst h; exact ⟨_, _, _, _, tyX10, lfRX10_50_10, rfl, by decide +kernel, tyX10_ok, nmX10⟩
theorem lfRX10_30_10 : lkF RX10 30 10 2 RX10 TX10 4 "PactYears$WordSearch" := ⟨rfl, by decide, iX10, in_I 392 (by decide +kernel), Or.inl rfl⟩
theorem lgRX10_30 : lkA RX10 30 2 [10] := fun ci h => by
  simp only [List.mem_cons, List.not_mem_nil, or_false] at h
  subst h; exact ⟨_, _, _, _, lfRX10_30_10⟩
theorem lmRX10_39 : okV RX10 39 RX10 yX10_decide cX10_decide 7 none 2 := ⟨in_I 954 (by decide +kernel), lnX10_decide, leX10_decide, liRX10, lkX10_decide, ⟨rfl, ldX10_decide⟩, by decide⟩
theorem laRX10_33 : Cond.methodLink RX10 33 arraycopyName ∈ gd_tbl := in_I 953 (by decide +kernel)
theorem lmRX10_53 : okS RX10 53 yX7_changed cX7_changed 6 (some .long) 3 := ⟨in_I 964 (by decide +kernel), ltX7_changed, liRX7, lkX7_changed, ldX7_changed, by decide⟩
theorem lmRX10_26 : okS RX10 26 yX7_dependsOn cX7_dependsOn 3 (some .int) 1 := ⟨in_I 952 (by decide +kernel), ltX7_dependsOn, liRX7, lkX7_dependsOn, ldX7_dependsOn, by decide⟩
theorem lpRX10_30 : lkP RX10 30 2 [10] .int := fun ci h => by
  simp only [List.mem_cons, List.not_mem_nil, or_false] at h
  subst h; exact ⟨_, _, _, _, tyX10, lfRX10_30_10, rfl, by decide +kernel, tyX10_ok, nmX10⟩
theorem lmRX11_101 : okS RX11 101 yX11_isFact cX11_isFact 1 (some .boolean) 1 := ⟨in_I 480 (by decide +kernel), ltX11_isFact, liRX11, lkX11_isFact, ldX11_isFact, by decide⟩
theorem lfRX11_84_11 : lkF RX11 84 11 12 RX11 TX11 16 "PactYears" := ⟨rfl, by decide, iX11, in_I 439 (by decide +kernel), Or.inl rfl⟩
theorem lgRX11_84 : lkA RX11 84 12 [11] := fun ci h => by
  simp only [List.mem_cons, List.not_mem_nil, or_false] at h
  subst h; exact ⟨_, _, _, _, lfRX11_84_11⟩
theorem lfRX11_105_6 : lkF RX11 105 6 0 RX6 TX6 6 "PactYears$Standing" := ⟨rfl, by decide, iX6, in_I 302 (by decide +kernel), Or.inl rfl⟩
theorem lpRX11_105 : lkP RX11 105 0 [6] .int := fun ci h => by
  simp only [List.mem_cons, List.not_mem_nil, or_false] at h
  subst h; exact ⟨_, _, _, _, tyX6, lfRX11_105_6, rfl, by decide +kernel, tyX6_ok, nmX6⟩
theorem lgRX11_105 : lkA RX11 105 0 [6] := fun ci h => by
  simp only [List.mem_cons, List.not_mem_nil, or_false] at h
  subst h; exact ⟨_, _, _, _, lfRX11_105_6⟩
theorem lfRX11_38_11 : lkF RX11 38 11 4 RX11 TX11 16 "PactYears" := ⟨rfl, by decide, iX11, in_I 431 (by decide +kernel), Or.inl rfl⟩
theorem lgRX11_38 : lkA RX11 38 4 [11] := fun ci h => by
  simp only [List.mem_cons, List.not_mem_nil, or_false] at h
  subst h; exact ⟨_, _, _, _, lfRX11_38_11⟩
theorem lmRX11_109 : okV RX11 109 RX3 yX3_set cX3_set 3 none 2 := ⟨in_I 487 (by decide +kernel), lnX3_set, leX3_set, liRX3, lkX3_set, ⟨rfl, ldX3_set⟩, by decide⟩
theorem lfRX11_10_11 : lkF RX11 10 11 0 RX11 TX11 16 "PactYears" := ⟨rfl, by decide, iX11, in_I 427 (by decide +kernel), Or.inl rfl⟩
theorem lgRX11_10 : lkA RX11 10 0 [11] := fun ci h => by
  simp only [List.mem_cons, List.not_mem_nil, or_false] at h
  subst h; exact ⟨_, _, _, _, lfRX11_10_11⟩
theorem lfRX11_113_8 : lkF RX11 113 8 1 RX8 TX8 2 "PactYears$Tape" := ⟨rfl, by decide, iX8, in_I 140 (by decide +kernel), Or.inl rfl⟩
theorem lgRX11_113 : lkA RX11 113 1 [8] := fun ci h => by
  simp only [List.mem_cons, List.not_mem_nil, or_false] at h
  subst h; exact ⟨_, _, _, _, lfRX11_113_8⟩
theorem lmRX11_116 : okV RX11 116 RX8 yX8_add cX8_add 3 none 1 := ⟨in_I 495 (by decide +kernel), lnX8_add, leX8_add, liRX8, lkX8_add, ⟨rfl, ldX8_add⟩, by decide⟩
theorem lfRX11_91_11 : lkF RX11 91 11 15 RX11 TX11 16 "PactYears" := ⟨rfl, by decide, iX11, in_I 442 (by decide +kernel), Or.inl rfl⟩
theorem lgRX11_91 : lkA RX11 91 15 [11] := fun ci h => by
  simp only [List.mem_cons, List.not_mem_nil, or_false] at h
  subst h; exact ⟨_, _, _, _, lfRX11_91_11⟩
theorem lmRX11_120 : okV RX11 120 RX2 yX2_read cX2_read 3 (some .int) 1 := ⟨in_I 503 (by decide +kernel), lnX2_read, leX2_read, liRX2, lkX2_read, ⟨rfl, ldX2_read⟩, by decide⟩
theorem lpRX11_113 : lkP RX11 113 1 [8] .int := fun ci h => by
  simp only [List.mem_cons, List.not_mem_nil, or_false] at h
  subst h; exact ⟨_, _, _, _, tyX8, lfRX11_113_8, rfl, by decide +kernel, tyX8_ok, nmX8⟩
theorem lfRX11_63_11 : lkF RX11 63 11 9 RX11 TX11 16 "PactYears" := ⟨rfl, by decide, iX11, in_I 436 (by decide +kernel), Or.inl rfl⟩
theorem lgRX11_63 : lkA RX11 63 9 [11] := fun ci h => by
  simp only [List.mem_cons, List.not_mem_nil, or_false] at h
  subst h; exact ⟨_, _, _, _, lfRX11_63_11⟩
theorem lfRX11_124_5 : lkF RX11 124 5 0 RX5 TX5 13 "PactYears$Spirit" := ⟨rfl, by decide, iX5, in_I 333 (by decide +kernel), Or.inl rfl⟩
theorem lgRX11_124 : lkA RX11 124 0 [5] := fun ci h => by
  simp only [List.mem_cons, List.not_mem_nil, or_false] at h
  subst h; exact ⟨_, _, _, _, lfRX11_124_5⟩
theorem lpRX11_124 : lkP RX11 124 0 [5] (.object "PactYears$Law") := fun ci h => by
  simp only [List.mem_cons, List.not_mem_nil, or_false] at h
  subst h; exact ⟨_, _, _, _, tyX5, lfRX11_124_5, rfl, by decide +kernel, tyX5_ok, nmX5⟩
theorem lpRX11_91 : lkP RX11 91 15 [11] (.object "PactYears$Law") := fun ci h => by
  simp only [List.mem_cons, List.not_mem_nil, or_false] at h
  subst h; exact ⟨_, _, _, _, tyX11, lfRX11_91_11, rfl, by decide +kernel, tyX11_ok, nmX11⟩
theorem lfRX11_21_11 : lkF RX11 21 11 1 RX11 TX11 16 "PactYears" := ⟨rfl, by decide, iX11, in_I 428 (by decide +kernel), Or.inl rfl⟩
theorem lgRX11_21 : lkA RX11 21 1 [11] := fun ci h => by
  simp only [List.mem_cons, List.not_mem_nil, or_false] at h
  subst h; exact ⟨_, _, _, _, lfRX11_21_11⟩
theorem lmRX11_359 : okV RX11 359 RX1 yX1_read cX1_read 3 (some .int) 1 := ⟨in_I 671 (by decide +kernel), lnX1_read, leX1_read, liRX1, lkX1_read, ⟨rfl, ldX1_read⟩, by decide⟩
theorem lfRX11_360_1 : lkF RX11 360 1 4 RX1 TX1 6 "PactYears$FormulaReader" := ⟨rfl, by decide, iX1, in_I 157 (by decide +kernel), Or.inl rfl⟩
theorem lgRX11_360 : lkA RX11 360 4 [1] := fun ci h => by
  simp only [List.mem_cons, List.not_mem_nil, or_false] at h
  subst h; exact ⟨_, _, _, _, lfRX11_360_1⟩
theorem lmRX11_363 : okV RX11 363 RX0 yX0_write cX0_write 3 none 2 := ⟨in_I 711 (by decide +kernel), lnX0_write, leX0_write, liRX0, lkX0_write, ⟨rfl, ldX0_write⟩, by decide⟩
theorem lmRX11_173 : okS RX11 173 yX7_size cX7_size 3 (some .int) 1 := ⟨in_I 718 (by decide +kernel), ltX7_size, liRX7, lkX7_size, ldX7_size, by decide⟩
theorem lfRX11_28_11 : lkF RX11 28 11 2 RX11 TX11 16 "PactYears" := ⟨rfl, by decide, iX11, in_I 429 (by decide +kernel), Or.inl rfl⟩
theorem lgRX11_28 : lkA RX11 28 2 [11] := fun ci h => by
  simp only [List.mem_cons, List.not_mem_nil, or_false] at h
  subst h; exact ⟨_, _, _, _, lfRX11_28_11⟩
theorem lmRX11_127 : okV RX11 127 RX11 yX11_tell cX11_tell 5 (some .int) 3 := ⟨in_I 667 (by decide +kernel), lnX11_tell, leX11_tell, liRX11, lkX11_tell, ⟨rfl, ldX11_tell⟩, by decide⟩
theorem lfRX11_131_6 : lkF RX11 131 6 4 RX6 TX6 6 "PactYears$Standing" := ⟨rfl, by decide, iX6, in_I 316 (by decide +kernel), Or.inl rfl⟩
theorem lgRX11_131 : lkA RX11 131 4 [6] := fun ci h => by
  simp only [List.mem_cons, List.not_mem_nil, or_false] at h
  subst h; exact ⟨_, _, _, _, lfRX11_131_6⟩
theorem lpRX11_131 : lkP RX11 131 4 [6] .int := fun ci h => by
  simp only [List.mem_cons, List.not_mem_nil, or_false] at h
  subst h; exact ⟨_, _, _, _, tyX6, lfRX11_131_6, rfl, by decide +kernel, tyX6_ok, nmX6⟩
theorem lfRX11_32_11 : lkF RX11 32 11 3 RX11 TX11 16 "PactYears" := ⟨rfl, by decide, iX11, in_I 430 (by decide +kernel), Or.inl rfl⟩
theorem lgRX11_32 : lkA RX11 32 3 [11] := fun ci h => by
  simp only [List.mem_cons, List.not_mem_nil, or_false] at h
  subst h; exact ⟨_, _, _, _, lfRX11_32_11⟩
theorem lfRX11_207_0 : lkF RX11 207 0 1 RX0 TX0 2 "PactYears$Book" := ⟨rfl, by decide, iX0, in_I 201 (by decide +kernel), Or.inl rfl⟩
theorem lgRX11_207 : lkA RX11 207 1 [0] := fun ci h => by
  simp only [List.mem_cons, List.not_mem_nil, or_false] at h
  subst h; exact ⟨_, _, _, _, lfRX11_207_0⟩
theorem lfRX11_42_11 : lkF RX11 42 11 5 RX11 TX11 16 "PactYears" := ⟨rfl, by decide, iX11, in_I 432 (by decide +kernel), Or.inl rfl⟩
theorem lgRX11_42 : lkA RX11 42 5 [11] := fun ci h => by
  simp only [List.mem_cons, List.not_mem_nil, or_false] at h
  subst h; exact ⟨_, _, _, _, lfRX11_42_11⟩
theorem lmRX11_219 : okV RX11 219 RX0 yX0_meet cX0_meet 4 none 2 := ⟨in_I 729 (by decide +kernel), lnX0_meet, leX0_meet, liRX0, lkX0_meet, ⟨rfl, ldX0_meet⟩, by decide⟩
theorem lmRX11_134 : okV RX11 134 RX11 yX11_gatherFit cX11_gatherFit 1 none 0 := ⟨in_I 725 (by decide +kernel), lnX11_gatherFit, leX11_gatherFit, liRX11, lkX11_gatherFit, ⟨rfl, ldX11_gatherFit⟩, by decide⟩
theorem lmRX11_137 : okV RX11 137 RX0 yX0_has cX0_has 2 (some .boolean) 1 := ⟨in_I 742 (by decide +kernel), lnX0_has, leX0_has, liRX0, lkX0_has, ⟨rfl, ldX0_has⟩, by decide⟩
theorem lmRX11_140 : okV RX11 140 RX0 yX0_erase cX0_erase 2 none 1 := ⟨in_I 746 (by decide +kernel), lnX0_erase, leX0_erase, liRX0, lkX0_erase, ⟨rfl, ldX0_erase⟩, by decide⟩
theorem lmRX11_143 : okV RX11 143 RX5 yX5_plan cX5_plan 5 none 2 := ⟨in_I 754 (by decide +kernel), lnX5_plan, leX5_plan, liRX5, lkX5_plan, ⟨rfl, ldX5_plan⟩, by decide⟩
theorem lfRX11_147_5 : lkF RX11 147 5 1 RX5 TX5 13 "PactYears$Spirit" := ⟨rfl, by decide, iX5, in_I 335 (by decide +kernel), Or.inl rfl⟩
theorem lgRX11_147 : lkA RX11 147 1 [5] := fun ci h => by
  simp only [List.mem_cons, List.not_mem_nil, or_false] at h
  subst h; exact ⟨_, _, _, _, lfRX11_147_5⟩
theorem lfRX11_150_6 : lkF RX11 150 6 5 RX6 TX6 6 "PactYears$Standing" := ⟨rfl, by decide, iX6, in_I 318 (by decide +kernel), Or.inl rfl⟩
theorem lpRX11_150 : lkP RX11 150 5 [6] .boolean := fun ci h => by
  simp only [List.mem_cons, List.not_mem_nil, or_false] at h
  subst h; exact ⟨_, _, _, _, tyX6, lfRX11_150_6, rfl, by decide +kernel, tyX6_ok, nmX6⟩
theorem lmRX11_154 : okV RX11 154 RX5 yX5_grant cX5_grant 3 none 2 := ⟨in_I 805 (by decide +kernel), lnX5_grant, leX5_grant, liRX5, lkX5_grant, ⟨rfl, ldX5_grant⟩, by decide⟩
theorem lfRX11_157_5 : lkF RX11 157 5 2 RX5 TX5 13 "PactYears$Spirit" := ⟨rfl, by decide, iX5, in_I 337 (by decide +kernel), Or.inl rfl⟩
theorem lgRX11_157 : lkA RX11 157 2 [5] := fun ci h => by
  simp only [List.mem_cons, List.not_mem_nil, or_false] at h
  subst h; exact ⟨_, _, _, _, lfRX11_157_5⟩
theorem lfRX11_158_5 : lkF RX11 158 5 3 RX5 TX5 13 "PactYears$Spirit" := ⟨rfl, by decide, iX5, in_I 339 (by decide +kernel), Or.inl rfl⟩
theorem lgRX11_158 : lkA RX11 158 3 [5] := fun ci h => by
  simp only [List.mem_cons, List.not_mem_nil, or_false] at h
  subst h; exact ⟨_, _, _, _, lfRX11_158_5⟩
theorem lfRX11_161_5 : lkF RX11 161 5 4 RX5 TX5 13 "PactYears$Spirit" := ⟨rfl, by decide, iX5, in_I 341 (by decide +kernel), Or.inl rfl⟩
theorem lgRX11_161 : lkA RX11 161 4 [5] := fun ci h => by
  simp only [List.mem_cons, List.not_mem_nil, or_false] at h
  subst h; exact ⟨_, _, _, _, lfRX11_161_5⟩
theorem lfRX11_164_5 : lkF RX11 164 5 5 RX5 TX5 13 "PactYears$Spirit" := ⟨rfl, by decide, iX5, in_I 343 (by decide +kernel), Or.inl rfl⟩
theorem lgRX11_164 : lkA RX11 164 5 [5] := fun ci h => by
  simp only [List.mem_cons, List.not_mem_nil, or_false] at h
  subst h; exact ⟨_, _, _, _, lfRX11_164_5⟩
theorem lmRX11_167 : okV RX11 167 RX6 yX6_passDays cX6_passDays 2 none 1 := ⟨in_I 826 (by decide +kernel), lnX6_passDays, leX6_passDays, liRX6, lkX6_passDays, ⟨rfl, ldX6_passDays⟩, by decide⟩
theorem lfRX11_170_6 : lkF RX11 170 6 1 RX6 TX6 6 "PactYears$Standing" := ⟨rfl, by decide, iX6, in_I 305 (by decide +kernel), Or.inl rfl⟩
theorem lgRX11_170 : lkA RX11 170 1 [6] := fun ci h => by
  simp only [List.mem_cons, List.not_mem_nil, or_false] at h
  subst h; exact ⟨_, _, _, _, lfRX11_170_6⟩
theorem lmRX11_176 : okS RX11 176 yX7_has cX7_has 2 (some .boolean) 2 := ⟨in_I 831 (by decide +kernel), ltX7_has, liRX7, lkX7_has, ldX7_has, by decide⟩
theorem lmRX11_179 : okS RX11 179 yX7_isEmpty cX7_isEmpty 4 (some .boolean) 1 := ⟨in_I 834 (by decide +kernel), ltX7_isEmpty, liRX7, lkX7_isEmpty, ldX7_isEmpty, by decide⟩
theorem lmRX11_183 : okS RX11 183 yX7_first cX7_first 2 (some .int) 1 := ⟨in_I 837 (by decide +kernel), ltX7_first, liRX7, lkX7_first, ldX7_first, by decide⟩
theorem lmRX11_186 : okS RX11 186 yX7_last cX7_last 2 (some .int) 1 := ⟨in_I 841 (by decide +kernel), ltX7_last, liRX7, lkX7_last, ldX7_last, by decide⟩
theorem lmRX11_189 : okS RX11 189 yX7_sure cX7_sure 5 (some .int) 2 := ⟨in_I 845 (by decide +kernel), ltX7_sure, liRX7, lkX7_sure, ldX7_sure, by decide⟩
theorem lfRX11_193_0 : lkF RX11 193 0 0 RX0 TX0 2 "PactYears$Book" := ⟨rfl, by decide, iX0, in_I 199 (by decide +kernel), Or.inl rfl⟩
theorem lgRX11_193 : lkA RX11 193 0 [0] := fun ci h => by
  simp only [List.mem_cons, List.not_mem_nil, or_false] at h
  subst h; exact ⟨_, _, _, _, lfRX11_193_0⟩
theorem lmRX11_197 : okS RX11 197 yX7_sharedSize cX7_sharedSize 4 (some .int) 2 := ⟨in_I 857 (by decide +kernel), ltX7_sharedSize, liRX7, lkX7_sharedSize, ldX7_sharedSize, by decide⟩
theorem lmRX11_201 : okS RX11 201 yX7_dependsOn cX7_dependsOn 3 (some .int) 1 := ⟨in_I 860 (by decide +kernel), ltX7_dependsOn, liRX7, lkX7_dependsOn, ldX7_dependsOn, by decide⟩
theorem lmRX11_204 : okS RX11 204 yX7_rising cX7_rising 4 (some .int) 1 := ⟨in_I 869 (by decide +kernel), ltX7_rising, liRX7, lkX7_rising, ldX7_rising, by decide⟩
theorem lmRX11_366 : okV RX11 366 RX0 yX0_leavesSome cX0_leavesSome 4 (some .boolean) 2 := ⟨in_I 880 (by decide +kernel), lnX0_leavesSome, leX0_leavesSome, liRX0, lkX0_leavesSome, ⟨rfl, ldX0_leavesSome⟩, by decide⟩
theorem lmRX11_214 : okS RX11 214 yJ6_bitCount_0f7a4 cJ6_bitCount_0f7a4 1 (some .int) 1 := ⟨in_I 884 (by decide +kernel), ltJ6_bitCount_0f7a4, liRJ6, lkJ6_bitCount_0f7a4, ldJ6_bitCount_0f7a4, by decide⟩
theorem lmRX11_210 : okS RX11 210 yX11_fewestAgainst cX11_fewestAgainst 7 (some .int) 4 := ⟨in_I 877 (by decide +kernel), ltX11_fewestAgainst, liRX11, lkX11_fewestAgainst, ldX11_fewestAgainst, by decide⟩
theorem lfRX11_49_11 : lkF RX11 49 11 7 RX11 TX11 16 "PactYears" := ⟨rfl, by decide, iX11, in_I 434 (by decide +kernel), Or.inl rfl⟩
theorem lgRX11_49 : lkA RX11 49 7 [11] := fun ci h => by
  simp only [List.mem_cons, List.not_mem_nil, or_false] at h
  subst h; exact ⟨_, _, _, _, lfRX11_49_11⟩
theorem lmRX11_223 : okV RX11 223 RX0 yX0_howMany cX0_howMany 2 (some .int) 1 := ⟨in_I 897 (by decide +kernel), lnX0_howMany, leX0_howMany, liRX0, lkX0_howMany, ⟨rfl, ldX0_howMany⟩, by decide⟩
theorem lmRX11_226 : okV RX11 226 RX5 yX5_order cX5_order 3 (some .boolean) 2 := ⟨in_I 902 (by decide +kernel), lnX5_order, leX5_order, liRX5, lkX5_order, ⟨rfl, ldX5_order⟩, by decide⟩
theorem lfRX11_230_5 : lkF RX11 230 5 6 RX5 TX5 13 "PactYears$Spirit" := ⟨rfl, by decide, iX5, in_I 345 (by decide +kernel), Or.inl rfl⟩
theorem lgRX11_230 : lkA RX11 230 6 [5] := fun ci h => by
  simp only [List.mem_cons, List.not_mem_nil, or_false] at h
  subst h; exact ⟨_, _, _, _, lfRX11_230_5⟩
theorem lfRX11_233_5 : lkF RX11 233 5 8 RX5 TX5 13 "PactYears$Spirit" := ⟨rfl, by decide, iX5, in_I 349 (by decide +kernel), Or.inl rfl⟩
theorem lgRX11_233 : lkA RX11 233 8 [5] := fun ci h => by
  simp only [List.mem_cons, List.not_mem_nil, or_false] at h
  subst h; exact ⟨_, _, _, _, lfRX11_233_5⟩
theorem lmRX11_237 : okV RX11 237 RX5 yX5_reach cX5_reach 4 (some .int) 2 := ⟨in_I 926 (by decide +kernel), lnX5_reach, leX5_reach, liRX5, lkX5_reach, ⟨rfl, ldX5_reach⟩, by decide⟩
theorem lfRX11_241_5 : lkF RX11 241 5 7 RX5 TX5 13 "PactYears$Spirit" := ⟨rfl, by decide, iX5, in_I 347 (by decide +kernel), Or.inl rfl⟩
theorem lgRX11_241 : lkA RX11 241 7 [5] := fun ci h => by
  simp only [List.mem_cons, List.not_mem_nil, or_false] at h
  subst h; exact ⟨_, _, _, _, lfRX11_241_5⟩
theorem lmRX11_244 : okS RX11 244 yX7_loneSize cX7_loneSize 5 (some .int) 3 := ⟨in_I 940 (by decide +kernel), ltX7_loneSize, liRX7, lkX7_loneSize, ldX7_loneSize, by decide⟩
theorem lfRX11_70_11 : lkF RX11 70 11 10 RX11 TX11 16 "PactYears" := ⟨rfl, by decide, iX11, in_I 437 (by decide +kernel), Or.inl rfl⟩
theorem lgRX11_70 : lkA RX11 70 10 [11] := fun ci h => by
  simp only [List.mem_cons, List.not_mem_nil, or_false] at h
  subst h; exact ⟨_, _, _, _, lfRX11_70_11⟩
theorem lmRX11_248 : okV RX11 248 RX10 yX10_find cX10_find 2 (some .boolean) 1 := ⟨in_I 947 (by decide +kernel), lnX10_find, leX10_find, liRX10, lkX10_find, ⟨rfl, ldX10_find⟩, by decide⟩
theorem lfRX11_251_10 : lkF RX11 251 10 0 RX10 TX10 4 "PactYears$WordSearch" := ⟨rfl, by decide, iX10, in_I 389 (by decide +kernel), Or.inl rfl⟩
theorem lgRX11_251 : lkA RX11 251 0 [10] := fun ci h => by
  simp only [List.mem_cons, List.not_mem_nil, or_false] at h
  subst h; exact ⟨_, _, _, _, lfRX11_251_10⟩
theorem lfRX11_254_10 : lkF RX11 254 10 1 RX10 TX10 4 "PactYears$WordSearch" := ⟨rfl, by decide, iX10, in_I 391 (by decide +kernel), Or.inl rfl⟩
theorem lgRX11_254 : lkA RX11 254 1 [10] := fun ci h => by
  simp only [List.mem_cons, List.not_mem_nil, or_false] at h
  subst h; exact ⟨_, _, _, _, lfRX11_254_10⟩
theorem lmRX11_257 : okS RX11 257 yX7_swing cX7_swing 4 (some .int) 2 := ⟨in_I 969 (by decide +kernel), ltX7_swing, liRX7, lkX7_swing, ldX7_swing, by decide⟩
theorem lmRX11_261 : okS RX11 261 yX7_mayChangePlaces cX7_mayChangePlaces 8 (some .boolean) 3 := ⟨in_I 974 (by decide +kernel), ltX7_mayChangePlaces, liRX7, lkX7_mayChangePlaces, ldX7_mayChangePlaces, by decide⟩
theorem lfRX11_52_11 : lkF RX11 52 11 8 RX11 TX11 16 "PactYears" := ⟨rfl, by decide, iX11, in_I 435 (by decide +kernel), Or.inl rfl⟩
theorem lgRX11_52 : lkA RX11 52 8 [11] := fun ci h => by
  simp only [List.mem_cons, List.not_mem_nil, or_false] at h
  subst h; exact ⟨_, _, _, _, lfRX11_52_11⟩
theorem laRX11_310 : Cond.methodLink RX11 310 arraycopyName ∈ gd_tbl := in_I 990 (by decide +kernel)
theorem lmRX11_369 : okS RX11 369 yX7_changed cX7_changed 6 (some .long) 3 := ⟨in_I 989 (by decide +kernel), ltX7_changed, liRX7, lkX7_changed, ldX7_changed, by decide⟩
theorem lmRX11_265 : okV RX11 265 RX11 yX11_lowestFactInto cX11_lowestFactInto 3 (some .int) 1 := ⟨in_I 981 (by decide +kernel), lnX11_lowestFactInto, leX11_lowestFactInto, liRX11, lkX11_lowestFactInto, ⟨rfl, ldX11_lowestFactInto⟩, by decide⟩
theorem lmRX11_268 : okV RX11 268 RX11 yX11_growByOneStep cX11_growByOneStep 6 (some .boolean) 0 := ⟨in_I 985 (by decide +kernel), lnX11_growByOneStep, leX11_growByOneStep, liRX11, lkX11_growByOneStep, ⟨rfl, ldX11_growByOneStep⟩, by decide⟩
theorem lmRX11_274 : okV RX11 274 RX8 yX8_at cX8_at 2 (some .int) 1 := ⟨in_I 996 (by decide +kernel), lnX8_at, leX8_at, liRX8, lkX8_at, ⟨rfl, ldX8_at⟩, by decide⟩
theorem lmRX11_279 : okV RX11 279 RX11 yX11_chances cX11_chances 8 (some .long) 3 := ⟨in_I 998 (by decide +kernel), lnX11_chances, leX11_chances, liRX11, lkX11_chances, ⟨rfl, ldX11_chances⟩, by decide⟩
theorem lcRX11_272 : Cond.constantLong RX11 272 (-1 : Int64) ∈ gd_tbl := in_I 995 (by decide +kernel)
theorem lcRX11_283 : Cond.constantLong RX11 283 (10000000000 : Int64) ∈ gd_tbl := in_I 1002 (by decide +kernel)
theorem lmRX11_285 : okS RX11 285 yX11_commonDivisor cX11_commonDivisor 11 (some .long) 2 := ⟨in_I 1003 (by decide +kernel), ltX11_commonDivisor, liRX11, lkX11_commonDivisor, ldX11_commonDivisor, by decide⟩
theorem laRX11_289 : Cond.methodLink RX11 289 Lib.MathLoose.max_long.x ∈ gd_tbl := in_I 1006 (by decide +kernel)
theorem lcRX11_277 : Cond.constantLong RX11 277 (-2 : Int64) ∈ gd_tbl := in_I 997 (by decide +kernel)
theorem lmRX11_306 : okS RX11 306 yX7_narrow cX7_narrow 6 none 3 := ⟨in_I 1020 (by decide +kernel), ltX7_narrow, liRX7, lkX7_narrow, ldX7_narrow, by decide⟩
theorem lmRX11_303 : okS RX11 303 yX7_sizeWith cX7_sizeWith 4 (some .int) 2 := ⟨in_I 1027 (by decide +kernel), ltX7_sizeWith, liRX7, lkX7_sizeWith, ldX7_sizeWith, by decide⟩
theorem laRX11_333 : Cond.methodLink RX11 333 Lib.Math.max.name ∈ gd_tbl := in_I 1028 (by decide +kernel)
theorem lmRX11_294 : okS RX11 294 yX11_areFacts cX11_areFacts 1 (some .boolean) 1 := ⟨in_I 1013 (by decide +kernel), ltX11_areFacts, liRX11, lkX11_areFacts, ldX11_areFacts, by decide⟩
theorem lmRX11_297 : okV RX11 297 RX11 yX11_gatherAsked cX11_gatherAsked 4 none 2 := ⟨in_I 1016 (by decide +kernel), lnX11_gatherAsked, leX11_gatherAsked, liRX11, lkX11_gatherAsked, ⟨rfl, ldX11_gatherAsked⟩, by decide⟩
theorem lmRX11_300 : okV RX11 300 RX11 yX11_nextQuestion cX11_nextQuestion 8 (some .int) 1 := ⟨in_I 1023 (by decide +kernel), lnX11_nextQuestion, leX11_nextQuestion, liRX11, lkX11_nextQuestion, ⟨rfl, ldX11_nextQuestion⟩, by decide⟩
theorem lfRX11_46_11 : lkF RX11 46 11 6 RX11 TX11 16 "PactYears" := ⟨rfl, by decide, iX11, in_I 433 (by decide +kernel), Or.inl rfl⟩
theorem lgRX11_46 : lkA RX11 46 6 [11] := fun ci h => by
  simp only [List.mem_cons, List.not_mem_nil, or_false] at h
  subst h; exact ⟨_, _, _, _, lfRX11_46_11⟩
theorem lfRX11_77_11 : lkF RX11 77 11 11 RX11 TX11 16 "PactYears" := ⟨rfl, by decide, iX11, in_I 438 (by decide +kernel), Or.inl rfl⟩
theorem lgRX11_77 : lkA RX11 77 11 [11] := fun ci h => by
  simp only [List.mem_cons, List.not_mem_nil, or_false] at h
  subst h; exact ⟨_, _, _, _, lfRX11_77_11⟩
theorem lmRX11_319 : okV RX11 319 RX9 yX9_find cX9_find 9 (some .int) 3 := ⟨in_I 1045 (by decide +kernel), lnX9_find, leX9_find, liRX9, lkX9_find, ⟨rfl, ldX9_find⟩, by decide⟩
theorem lfRX11_322_9 : lkF RX11 322 9 1 RX9 TX9 3 "PactYears$Tour" := ⟨rfl, by decide, iX9, in_I 412 (by decide +kernel), Or.inl rfl⟩
theorem lgRX11_322 : lkA RX11 322 1 [9] := fun ci h => by
  simp only [List.mem_cons, List.not_mem_nil, or_false] at h
  subst h; exact ⟨_, _, _, _, lfRX11_322_9⟩
theorem lfRX11_316_9 : lkF RX11 316 9 0 RX9 TX9 3 "PactYears$Tour" := ⟨rfl, by decide, iX9, in_I 410 (by decide +kernel), Or.inl rfl⟩
theorem lgRX11_316 : lkA RX11 316 0 [9] := fun ci h => by
  simp only [List.mem_cons, List.not_mem_nil, or_false] at h
  subst h; exact ⟨_, _, _, _, lfRX11_316_9⟩
theorem lmRX11_323 : okV RX11 323 RX6 yX6_isOver cX6_isOver 1 (some .boolean) 0 := ⟨in_I 1069 (by decide +kernel), lnX6_isOver, leX6_isOver, liRX6, lkX6_isOver, ⟨rfl, ldX6_isOver⟩, by decide⟩
theorem lmRX11_326 : okV RX11 326 RX6 yX6_month cX6_month 1 (some .int) 0 := ⟨in_I 1070 (by decide +kernel), lnX6_month, leX6_month, liRX6, lkX6_month, ⟨rfl, ldX6_month⟩, by decide⟩
theorem lmRX11_330 : okV RX11 330 RX6 yX6_addSins cX6_addSins 2 none 1 := ⟨in_I 1071 (by decide +kernel), lnX6_addSins, leX6_addSins, liRX6, lkX6_addSins, ⟨rfl, ldX6_addSins⟩, by decide⟩
theorem lpRX11_170 : lkP RX11 170 1 [6] .int := fun ci h => by
  simp only [List.mem_cons, List.not_mem_nil, or_false] at h
  subst h; exact ⟨_, _, _, _, tyX6, lfRX11_170_6, rfl, by decide +kernel, tyX6_ok, nmX6⟩
theorem lmRX11_336 : okS RX11 336 yX7_forbidden cX7_forbidden 2 (some .int) 2 := ⟨in_I 1076 (by decide +kernel), ltX7_forbidden, liRX7, lkX7_forbidden, ldX7_forbidden, by decide⟩
theorem lfRX11_88_11 : lkF RX11 88 11 13 RX11 TX11 16 "PactYears" := ⟨rfl, by decide, iX11, in_I 440 (by decide +kernel), Or.inl rfl⟩
theorem lgRX11_88 : lkA RX11 88 13 [11] := fun ci h => by
  simp only [List.mem_cons, List.not_mem_nil, or_false] at h
  subst h; exact ⟨_, _, _, _, lfRX11_88_11⟩
theorem lmRX11_339 : okV RX11 339 RX6 yX6_take cX6_take 2 none 1 := ⟨in_I 1087 (by decide +kernel), lnX6_take, leX6_take, liRX6, lkX6_take, ⟨rfl, ldX6_take⟩, by decide⟩
theorem lfRX11_343_11 : lkF RX11 343 11 14 RX11 TX11 16 "PactYears" := ⟨rfl, by decide, iX11, in_I 441 (by decide +kernel), Or.inl rfl⟩
theorem lpRX11_343 : lkP RX11 343 14 [11] .boolean := fun ci h => by
  simp only [List.mem_cons, List.not_mem_nil, or_false] at h
  subst h; exact ⟨_, _, _, _, tyX11, lfRX11_343_11, rfl, by decide +kernel, tyX11_ok, nmX11⟩
theorem lgRX11_343 : lkA RX11 343 14 [11] := fun ci h => by
  simp only [List.mem_cons, List.not_mem_nil, or_false] at h
  subst h; exact ⟨_, _, _, _, lfRX11_343_11⟩
theorem lfRX11_349_6 : lkF RX11 349 6 2 RX6 TX6 6 "PactYears$Standing" := ⟨rfl, by decide, iX6, in_I 309 (by decide +kernel), Or.inl rfl⟩
theorem lgRX11_349 : lkA RX11 349 2 [6] := fun ci h => by
  simp only [List.mem_cons, List.not_mem_nil, or_false] at h
  subst h; exact ⟨_, _, _, _, lfRX11_349_6⟩
theorem lfRX11_350_6 : lkF RX11 350 6 3 RX6 TX6 6 "PactYears$Standing" := ⟨rfl, by decide, iX6, in_I 313 (by decide +kernel), Or.inl rfl⟩
theorem lgRX11_350 : lkA RX11 350 3 [6] := fun ci h => by
  simp only [List.mem_cons, List.not_mem_nil, or_false] at h
  subst h; exact ⟨_, _, _, _, lfRX11_350_6⟩
theorem lfRX11_353_2 : lkF RX11 353 2 4 RX2 TX2 13 "PactYears$Law" := ⟨rfl, by decide, iX2, in_I 257 (by decide +kernel), Or.inl rfl⟩
theorem lgRX11_353 : lkA RX11 353 4 [2] := fun ci h => by
  simp only [List.mem_cons, List.not_mem_nil, or_false] at h
  subst h; exact ⟨_, _, _, _, lfRX11_353_2⟩
theorem lgRX11_150 : lkA RX11 150 5 [6] := fun ci h => by
  simp only [List.mem_cons, List.not_mem_nil, or_false] at h
  subst h; exact ⟨_, _, _, _, lfRX11_150_6⟩
theorem lmRX11_356 : okV RX11 356 RX6 yX6_isFetched cX6_isFetched 1 (some .boolean) 0 := ⟨in_I 1101 (by decide +kernel), lnX6_isFetched, leX6_isFetched, liRX6, lkX6_isFetched, ⟨rfl, ldX6_isFetched⟩, by decide⟩
theorem lmRX11_346 : okV RX11 346 RX3 yX3_of cX3_of 2 (some .int) 1 := ⟨in_I 1100 (by decide +kernel), lnX3_of, leX3_of, liRX3, lkX3_of, ⟨rfl, ldX3_of⟩, by decide⟩
