theorem dsX10_init : od_dsc mX10_init 0 := ⟨by decide +kernel, by decide +kernel, by decide +kernel⟩
theorem dsX6_init : od_dsc mX6_init 0 := ⟨by decide +kernel, by decide +kernel, by decide +kernel⟩
theorem dsX2_init : od_dsc mX2_init 0 := ⟨by decide +kernel, by decide +kernel, by decide +kernel⟩
theorem dsX8_init : od_dsc mX8_init 0 := ⟨by decide +kernel, by decide +kernel, by decide +kernel⟩
theorem dsX3_init : od_dsc mX3_init 1 := ⟨by decide +kernel, by decide +kernel, by decide +kernel⟩
theorem dsX9_init : od_dsc mX9_init 2 := ⟨by decide +kernel, by decide +kernel, by decide +kernel⟩
theorem dsJ9_max_7cf53 : od_dsc mJ9_max_7cf53 2 := ⟨by decide +kernel, by decide +kernel, by decide +kernel⟩
theorem dsX0_init : od_dsc mX0_init 0 := ⟨by decide +kernel, by decide +kernel, by decide +kernel⟩
theorem dsX7_init : od_dsc mX7_init 0 := ⟨by decide +kernel, by decide +kernel, by decide +kernel⟩
theorem dsX1_init : od_dsc mX1_init 1 := ⟨by decide +kernel, by decide +kernel, by decide +kernel⟩
theorem dsX5_init : od_dsc mX5_init 2 := ⟨by decide +kernel, by decide +kernel, by decide +kernel⟩
theorem dsX4_init : od_dsc mX4_init 1 := ⟨by decide +kernel, by decide +kernel, by decide +kernel⟩
theorem dsX10_drum : od_dsc mX10_drum 4 := ⟨by decide +kernel, by decide +kernel, by decide +kernel⟩
theorem dsX6_canHold : od_dsc mX6_canHold 4 := ⟨by decide +kernel, by decide +kernel, by decide +kernel⟩
theorem dsX10_refuse : od_dsc mX10_refuse 1 := ⟨by decide +kernel, by decide +kernel, by decide +kernel⟩
theorem dsX6_take : od_dsc mX6_take 4 := ⟨by decide +kernel, by decide +kernel, by decide +kernel⟩
theorem dsX2_clear : od_dsc mX2_clear 0 := ⟨by decide +kernel, by decide +kernel, by decide +kernel⟩
theorem dsX10_accept : od_dsc mX10_accept 1 := ⟨by decide +kernel, by decide +kernel, by decide +kernel⟩
theorem dsX10_of : od_dsc mX10_of 2 := ⟨by decide +kernel, by decide +kernel, by decide +kernel⟩
theorem dsX6_has : od_dsc mX6_has 1 := ⟨by decide +kernel, by decide +kernel, by decide +kernel⟩
theorem dsX6_isStopped : od_dsc mX6_isStopped 1 := ⟨by decide +kernel, by decide +kernel, by decide +kernel⟩
theorem dsX6_strikesIn : od_dsc mX6_strikesIn 2 := ⟨by decide +kernel, by decide +kernel, by decide +kernel⟩
theorem dsX6_beatIn : od_dsc mX6_beatIn 2 := ⟨by decide +kernel, by decide +kernel, by decide +kernel⟩
theorem dsX6_hasPin : od_dsc mX6_hasPin 2 := ⟨by decide +kernel, by decide +kernel, by decide +kernel⟩
theorem dsX10_asks : od_dsc mX10_asks 3 := ⟨by decide +kernel, by decide +kernel, by decide +kernel⟩
theorem dsX6_hasBeat : od_dsc mX6_hasBeat 2 := ⟨by decide +kernel, by decide +kernel, by decide +kernel⟩
theorem dsX6_lawOf : od_dsc mX6_lawOf 1 := ⟨by decide +kernel, by decide +kernel, by decide +kernel⟩
theorem dsX0_sound : od_dsc mX0_sound 4 := ⟨by decide +kernel, by decide +kernel, by decide +kernel⟩
theorem dsX0_setWords : od_dsc mX0_setWords 3 := ⟨by decide +kernel, by decide +kernel, by decide +kernel⟩
theorem dsJ6_bitCount_0f7a4 : od_dsc mJ6_bitCount_0f7a4 1 := ⟨by decide +kernel, by decide +kernel, by decide +kernel⟩
theorem dsX7_value : od_dsc mX7_value 3 := ⟨by decide +kernel, by decide +kernel, by decide +kernel⟩
theorem dsX7_join : od_dsc mX7_join 3 := ⟨by decide +kernel, by decide +kernel, by decide +kernel⟩
theorem dsJ9_min_7cf53 : od_dsc mJ9_min_7cf53 2 := ⟨by decide +kernel, by decide +kernel, by decide +kernel⟩
theorem dsX0_holds : od_dsc mX0_holds 5 := ⟨by decide +kernel, by decide +kernel, by decide +kernel⟩
theorem dsX10_terms : od_dsc mX10_terms 2 := ⟨by decide +kernel, by decide +kernel, by decide +kernel⟩
theorem dsX10_feed : od_dsc mX10_feed 5 := ⟨by decide +kernel, by decide +kernel, by decide +kernel⟩
theorem dsX8_put : od_dsc mX8_put 1 := ⟨by decide +kernel, by decide +kernel, by decide +kernel⟩
theorem dsX10_end : od_dsc mX10_end 1 := ⟨by decide +kernel, by decide +kernel, by decide +kernel⟩
theorem dsX10_row : od_dsc mX10_row 0 := ⟨by decide +kernel, by decide +kernel, by decide +kernel⟩
theorem dsX10_takeFour : od_dsc mX10_takeFour 1 := ⟨by decide +kernel, by decide +kernel, by decide +kernel⟩
theorem dsX10_sleeves : od_dsc mX10_sleeves 0 := ⟨by decide +kernel, by decide +kernel, by decide +kernel⟩
theorem dsX10_law : od_dsc mX10_law 0 := ⟨by decide +kernel, by decide +kernel, by decide +kernel⟩
theorem dsX3_read : od_dsc mX3_read 1 := ⟨by decide +kernel, by decide +kernel, by decide +kernel⟩
theorem dsX9_begin : od_dsc mX9_begin 0 := ⟨by decide +kernel, by decide +kernel, by decide +kernel⟩
theorem dsX3_goOn : od_dsc mX3_goOn 0 := ⟨by decide +kernel, by decide +kernel, by decide +kernel⟩
theorem dsX3_byteAt : od_dsc mX3_byteAt 1 := ⟨by decide +kernel, by decide +kernel, by decide +kernel⟩
theorem dsX3_sortOf : od_dsc mX3_sortOf 1 := ⟨by decide +kernel, by decide +kernel, by decide +kernel⟩
theorem dsX3_readClause : od_dsc mX3_readClause 0 := ⟨by decide +kernel, by decide +kernel, by decide +kernel⟩
theorem dsX3_wordIn : od_dsc mX3_wordIn 1 := ⟨by decide +kernel, by decide +kernel, by decide +kernel⟩
theorem dsJ0_length_8abf5 : od_dsc mJ0_length_8abf5 0 := ⟨by decide +kernel, by decide +kernel, by decide +kernel⟩
theorem dsJ0_coder_7d493 : od_dsc mJ0_coder_7d493 0 := ⟨by decide +kernel, by decide +kernel, by decide +kernel⟩
theorem dsJ0_charAt_5068e : od_dsc mJ0_charAt_5068e 1 := ⟨by decide +kernel, by decide +kernel, by decide +kernel⟩
theorem dsJ0_isLatin1_aae02 : od_dsc mJ0_isLatin1_aae02 0 := ⟨by decide +kernel, by decide +kernel, by decide +kernel⟩
theorem dsJ1_charAt_3b067 : od_dsc mJ1_charAt_3b067 2 := ⟨by decide +kernel, by decide +kernel, by decide +kernel⟩
theorem dsJ0_checkIndex_df160 : od_dsc mJ0_checkIndex_df160 2 := ⟨by decide +kernel, by decide +kernel, by decide +kernel⟩
theorem dsJ3_checkIndex_8e157 : od_dsc mJ3_checkIndex_8e157 3 := ⟨by decide +kernel, by decide +kernel, by decide +kernel⟩
theorem dsJ2_charAt_3b067 : od_dsc mJ2_charAt_3b067 2 := ⟨by decide +kernel, by decide +kernel, by decide +kernel⟩
theorem dsJ2_checkIndex_2214a : od_dsc mJ2_checkIndex_2214a 2 := ⟨by decide +kernel, by decide +kernel, by decide +kernel⟩
theorem dsJ2_length_9d52b : od_dsc mJ2_length_9d52b 1 := ⟨by decide +kernel, by decide +kernel, by decide +kernel⟩
theorem dsJ2_getChar_3b067 : od_dsc mJ2_getChar_3b067 2 := ⟨by decide +kernel, by decide +kernel, by decide +kernel⟩
theorem dsX3_spells : od_dsc mX3_spells 3 := ⟨by decide +kernel, by decide +kernel, by decide +kernel⟩
theorem dsX9_open : od_dsc mX9_open 1 := ⟨by decide +kernel, by decide +kernel, by decide +kernel⟩
theorem dsX3_setFault : od_dsc mX3_setFault 0 := ⟨by decide +kernel, by decide +kernel, by decide +kernel⟩
theorem dsX3_readSum : od_dsc mX3_readSum 1 := ⟨by decide +kernel, by decide +kernel, by decide +kernel⟩
theorem dsX3_readTerm : od_dsc mX3_readTerm 1 := ⟨by decide +kernel, by decide +kernel, by decide +kernel⟩
theorem dsX3_readPart : od_dsc mX3_readPart 1 := ⟨by decide +kernel, by decide +kernel, by decide +kernel⟩
theorem dsX3_isSign : od_dsc mX3_isSign 1 := ⟨by decide +kernel, by decide +kernel, by decide +kernel⟩
theorem dsX3_takeSign : od_dsc mX3_takeSign 1 := ⟨by decide +kernel, by decide +kernel, by decide +kernel⟩
theorem dsX9_put : od_dsc mX9_put 2 := ⟨by decide +kernel, by decide +kernel, by decide +kernel⟩
theorem dsX3_putWord : od_dsc mX3_putWord 1 := ⟨by decide +kernel, by decide +kernel, by decide +kernel⟩
theorem dsX3_stepOf : od_dsc mX3_stepOf 6 := ⟨by decide +kernel, by decide +kernel, by decide +kernel⟩
theorem dsX3_readOrder : od_dsc mX3_readOrder 2 := ⟨by decide +kernel, by decide +kernel, by decide +kernel⟩
theorem dsX3_takeWord : od_dsc mX3_takeWord 1 := ⟨by decide +kernel, by decide +kernel, by decide +kernel⟩
theorem dsX3_readTest : od_dsc mX3_readTest 1 := ⟨by decide +kernel, by decide +kernel, by decide +kernel⟩
theorem dsX3_readBoth : od_dsc mX3_readBoth 1 := ⟨by decide +kernel, by decide +kernel, by decide +kernel⟩
theorem dsX3_readPlain : od_dsc mX3_readPlain 1 := ⟨by decide +kernel, by decide +kernel, by decide +kernel⟩
theorem dsX9_land : od_dsc mX9_land 1 := ⟨by decide +kernel, by decide +kernel, by decide +kernel⟩
theorem dsX9_copied : od_dsc mX9_copied 0 := ⟨by decide +kernel, by decide +kernel, by decide +kernel⟩
theorem dsX10_orders : od_dsc mX10_orders 0 := ⟨by decide +kernel, by decide +kernel, by decide +kernel⟩
theorem dsX6_become : od_dsc mX6_become 1 := ⟨by decide +kernel, by decide +kernel, by decide +kernel⟩
theorem dsX2_become : od_dsc mX2_become 1 := ⟨by decide +kernel, by decide +kernel, by decide +kernel⟩
theorem dsX5_run : od_dsc mX5_run 3 := ⟨by decide +kernel, by decide +kernel, by decide +kernel⟩
theorem dsX5_setWords : od_dsc mX5_setWords 1 := ⟨by decide +kernel, by decide +kernel, by decide +kernel⟩
theorem dsX0_loudIn : od_dsc mX0_loudIn 2 := ⟨by decide +kernel, by decide +kernel, by decide +kernel⟩
theorem dsX6_allPins : od_dsc mX6_allPins 0 := ⟨by decide +kernel, by decide +kernel, by decide +kernel⟩
theorem dsX1_change : od_dsc mX1_change 5 := ⟨by decide +kernel, by decide +kernel, by decide +kernel⟩
theorem dsX1_refusal : od_dsc mX1_refusal 4 := ⟨by decide +kernel, by decide +kernel, by decide +kernel⟩
theorem dsX2_keep : od_dsc mX2_keep 2 := ⟨by decide +kernel, by decide +kernel, by decide +kernel⟩
theorem dsX1_passHour : od_dsc mX1_passHour 1 := ⟨by decide +kernel, by decide +kernel, by decide +kernel⟩
theorem dsX1_turn : od_dsc mX1_turn 4 := ⟨by decide +kernel, by decide +kernel, by decide +kernel⟩
theorem dsX10_fault : od_dsc mX10_fault 0 := ⟨by decide +kernel, by decide +kernel, by decide +kernel⟩
theorem dsX10_stopped : od_dsc mX10_stopped 0 := ⟨by decide +kernel, by decide +kernel, by decide +kernel⟩
theorem dsX10_force : od_dsc mX10_force 1 := ⟨by decide +kernel, by decide +kernel, by decide +kernel⟩
theorem dsX10_pin : od_dsc mX10_pin 2 := ⟨by decide +kernel, by decide +kernel, by decide +kernel⟩
theorem dsX10_settle : od_dsc mX10_settle 1 := ⟨by decide +kernel, by decide +kernel, by decide +kernel⟩
theorem dsX10_shift : od_dsc mX10_shift 2 := ⟨by decide +kernel, by decide +kernel, by decide +kernel⟩
theorem dsX10_stop : od_dsc mX10_stop 1 := ⟨by decide +kernel, by decide +kernel, by decide +kernel⟩
theorem dsX10_pass : od_dsc mX10_pass 0 := ⟨by decide +kernel, by decide +kernel, by decide +kernel⟩
theorem dsX10_undo : od_dsc mX10_undo 0 := ⟨by decide +kernel, by decide +kernel, by decide +kernel⟩
theorem dsX2_giveBack : od_dsc mX2_giveBack 1 := ⟨by decide +kernel, by decide +kernel, by decide +kernel⟩
theorem dsX10_loud : od_dsc mX10_loud 1 := ⟨by decide +kernel, by decide +kernel, by decide +kernel⟩
theorem dsX10_round : od_dsc mX10_round 0 := ⟨by decide +kernel, by decide +kernel, by decide +kernel⟩
theorem dsX6_roundOf : od_dsc mX6_roundOf 2 := ⟨by decide +kernel, by decide +kernel, by decide +kernel⟩
theorem dsX6_multipleOf : od_dsc mX6_multipleOf 2 := ⟨by decide +kernel, by decide +kernel, by decide +kernel⟩
theorem dsX10_when : od_dsc mX10_when 1 := ⟨by decide +kernel, by decide +kernel, by decide +kernel⟩
theorem dsX6_hasAll : od_dsc mX6_hasAll 1 := ⟨by decide +kernel, by decide +kernel, by decide +kernel⟩
theorem dsX4_layStrikes : od_dsc mX4_layStrikes 1 := ⟨by decide +kernel, by decide +kernel, by decide +kernel⟩
theorem dsX4_lay : od_dsc mX4_lay 3 := ⟨by decide +kernel, by decide +kernel, by decide +kernel⟩
theorem dsX4_clear : od_dsc mX4_clear 2 := ⟨by decide +kernel, by decide +kernel, by decide +kernel⟩
theorem dsX4_setCells : od_dsc mX4_setCells 4 := ⟨by decide +kernel, by decide +kernel, by decide +kernel⟩
theorem dsX4_layDrum : od_dsc mX4_layDrum 4 := ⟨by decide +kernel, by decide +kernel, by decide +kernel⟩
theorem dsX4_firstOf : od_dsc mX4_firstOf 1 := ⟨by decide +kernel, by decide +kernel, by decide +kernel⟩
theorem dsX4_strikersIn : od_dsc mX4_strikersIn 1 := ⟨by decide +kernel, by decide +kernel, by decide +kernel⟩
theorem dsX4_cellIn : od_dsc mX4_cellIn 1 := ⟨by decide +kernel, by decide +kernel, by decide +kernel⟩
theorem dsX10_often : od_dsc mX10_often 1 := ⟨by decide +kernel, by decide +kernel, by decide +kernel⟩
theorem dsX4_timesOf : od_dsc mX4_timesOf 2 := ⟨by decide +kernel, by decide +kernel, by decide +kernel⟩
theorem dsX10_alone : od_dsc mX10_alone 1 := ⟨by decide +kernel, by decide +kernel, by decide +kernel⟩
theorem dsX10_loudest : od_dsc mX10_loudest 1 := ⟨by decide +kernel, by decide +kernel, by decide +kernel⟩
theorem dsX4_laySounds : od_dsc mX4_laySounds 2 := ⟨by decide +kernel, by decide +kernel, by decide +kernel⟩
theorem dsX4_loudestHour : od_dsc mX4_loudestHour 1 := ⟨by decide +kernel, by decide +kernel, by decide +kernel⟩
theorem dsX4_loudnessIn : od_dsc mX4_loudnessIn 1 := ⟨by decide +kernel, by decide +kernel, by decide +kernel⟩
theorem dsX10_quiet : od_dsc mX10_quiet 1 := ⟨by decide +kernel, by decide +kernel, by decide +kernel⟩
theorem dsX4_longestQuiet : od_dsc mX4_longestQuiet 1 := ⟨by decide +kernel, by decide +kernel, by decide +kernel⟩
theorem dsX10_most : od_dsc mX10_most 2 := ⟨by decide +kernel, by decide +kernel, by decide +kernel⟩
theorem dsX4_bestShift : od_dsc mX4_bestShift 4 := ⟨by decide +kernel, by decide +kernel, by decide +kernel⟩
theorem dsX4_setMeetings : od_dsc mX4_setMeetings 3 := ⟨by decide +kernel, by decide +kernel, by decide +kernel⟩
theorem dsX10_least : od_dsc mX10_least 2 := ⟨by decide +kernel, by decide +kernel, by decide +kernel⟩
theorem dsX10_never : od_dsc mX10_never 1 := ⟨by decide +kernel, by decide +kernel, by decide +kernel⟩
theorem dsX4_neverTogether : od_dsc mX4_neverTogether 1 := ⟨by decide +kernel, by decide +kernel, by decide +kernel⟩
theorem dsX4_isTogether : od_dsc mX4_isTogether 1 := ⟨by decide +kernel, by decide +kernel, by decide +kernel⟩
theorem dsX10_add : od_dsc mX10_add 2 := ⟨by decide +kernel, by decide +kernel, by decide +kernel⟩
theorem dsX4_fewestPins : od_dsc mX4_fewestPins 3 := ⟨by decide +kernel, by decide +kernel, by decide +kernel⟩
theorem dsX4_setBarred : od_dsc mX4_setBarred 2 := ⟨by decide +kernel, by decide +kernel, by decide +kernel⟩
theorem dsX4_canAdd : od_dsc mX4_canAdd 3 := ⟨by decide +kernel, by decide +kernel, by decide +kernel⟩
theorem dsX10_tune : od_dsc mX10_tune 0 := ⟨by decide +kernel, by decide +kernel, by decide +kernel⟩
theorem dsX4_tuneHours : od_dsc mX4_tuneHours 0 := ⟨by decide +kernel, by decide +kernel, by decide +kernel⟩
theorem dsX4_comesAgain : od_dsc mX4_comesAgain 2 := ⟨by decide +kernel, by decide +kernel, by decide +kernel⟩
theorem dsX10_heard : od_dsc mX10_heard 2 := ⟨by decide +kernel, by decide +kernel, by decide +kernel⟩
theorem dsX10_forget : od_dsc mX10_forget 0 := ⟨by decide +kernel, by decide +kernel, by decide +kernel⟩
theorem dsX10_canBe : od_dsc mX10_canBe 0 := ⟨by decide +kernel, by decide +kernel, by decide +kernel⟩
theorem dsX6_suspects : od_dsc mX6_suspects 0 := ⟨by decide +kernel, by decide +kernel, by decide +kernel⟩
theorem dsX10_listen : od_dsc mX10_listen 1 := ⟨by decide +kernel, by decide +kernel, by decide +kernel⟩
theorem dsX10_leftBehind : od_dsc mX10_leftBehind 2 := ⟨by decide +kernel, by decide +kernel, by decide +kernel⟩
theorem dsX10_few : od_dsc mX10_few 2 := ⟨by decide +kernel, by decide +kernel, by decide +kernel⟩
theorem dsX10_letOneSlip : od_dsc mX10_letOneSlip 0 := ⟨by decide +kernel, by decide +kernel, by decide +kernel⟩
theorem dsX10_compare : od_dsc mX10_compare 1 := ⟨by decide +kernel, by decide +kernel, by decide +kernel⟩
theorem dsX4_loudTogether : od_dsc mX4_loudTogether 0 := ⟨by decide +kernel, by decide +kernel, by decide +kernel⟩
theorem dsX10_days : od_dsc mX10_days 2 := ⟨by decide +kernel, by decide +kernel, by decide +kernel⟩
theorem dsX10_draw : od_dsc mX10_draw 1 := ⟨by decide +kernel, by decide +kernel, by decide +kernel⟩
theorem dsX1_play : od_dsc mX1_play 4 := ⟨by decide +kernel, by decide +kernel, by decide +kernel⟩
theorem dsX10_drawn : od_dsc mX10_drawn 2 := ⟨by decide +kernel, by decide +kernel, by decide +kernel⟩
theorem dsX10_image : od_dsc mX10_image 1 := ⟨by decide +kernel, by decide +kernel, by decide +kernel⟩
theorem dsX10_back : od_dsc mX10_back 1 := ⟨by decide +kernel, by decide +kernel, by decide +kernel⟩
theorem dsX10_count : od_dsc mX10_count 1 := ⟨by decide +kernel, by decide +kernel, by decide +kernel⟩
theorem dsX6_howManyStrike : od_dsc mX6_howManyStrike 0 := ⟨by decide +kernel, by decide +kernel, by decide +kernel⟩
theorem dsX10_status : od_dsc mX10_status 0 := ⟨by decide +kernel, by decide +kernel, by decide +kernel⟩
theorem dsX11_init : od_dsc mX11_init 0 := ⟨by decide +kernel, by decide +kernel, by decide +kernel⟩
theorem dsX11_image : od_dsc mX11_image 1 := ⟨by decide +kernel, by decide +kernel, by decide +kernel⟩
theorem dsX11_lies : od_dsc mX11_lies 3 := ⟨by decide +kernel, by decide +kernel, by decide +kernel⟩
theorem dsX11_refuses : od_dsc mX11_refuses 1 := ⟨by decide +kernel, by decide +kernel, by decide +kernel⟩
theorem dsX11_good : od_dsc mX11_good 1 := ⟨by decide +kernel, by decide +kernel, by decide +kernel⟩
theorem dsX11_back : od_dsc mX11_back 1 := ⟨by decide +kernel, by decide +kernel, by decide +kernel⟩
theorem dsX11_settled : od_dsc mX11_settled 1 := ⟨by decide +kernel, by decide +kernel, by decide +kernel⟩
theorem dsX11_drum : od_dsc mX11_drum 4 := ⟨by decide +kernel, by decide +kernel, by decide +kernel⟩
theorem dsX11_canDrum : od_dsc mX11_canDrum 4 := ⟨by decide +kernel, by decide +kernel, by decide +kernel⟩
theorem dsX11_drumMany : od_dsc mX11_drumMany 0 := ⟨by decide +kernel, by decide +kernel, by decide +kernel⟩
theorem dsX11_adds : od_dsc mX11_adds 4 := ⟨by decide +kernel, by decide +kernel, by decide +kernel⟩
theorem dsX11_of : od_dsc mX11_of 2 := ⟨by decide +kernel, by decide +kernel, by decide +kernel⟩
theorem dsX11_isDrum : od_dsc mX11_isDrum 1 := ⟨by decide +kernel, by decide +kernel, by decide +kernel⟩
theorem dsX11_strikes : od_dsc mX11_strikes 2 := ⟨by decide +kernel, by decide +kernel, by decide +kernel⟩
theorem dsX11_isStopped : od_dsc mX11_isStopped 1 := ⟨by decide +kernel, by decide +kernel, by decide +kernel⟩
theorem dsX11_beatOf : od_dsc mX11_beatOf 2 := ⟨by decide +kernel, by decide +kernel, by decide +kernel⟩
theorem dsX11_hasPin : od_dsc mX11_hasPin 2 := ⟨by decide +kernel, by decide +kernel, by decide +kernel⟩
theorem dsX11_isIn : od_dsc mX11_isIn 2 := ⟨by decide +kernel, by decide +kernel, by decide +kernel⟩
theorem dsX11_asks : od_dsc mX11_asks 3 := ⟨by decide +kernel, by decide +kernel, by decide +kernel⟩
theorem dsX11_isBeat : od_dsc mX11_isBeat 2 := ⟨by decide +kernel, by decide +kernel, by decide +kernel⟩
theorem dsX11_soundsAt : od_dsc mX11_soundsAt 2 := ⟨by decide +kernel, by decide +kernel, by decide +kernel⟩
theorem dsX11_tells : od_dsc mX11_tells 4 := ⟨by decide +kernel, by decide +kernel, by decide +kernel⟩
theorem dsX11_setsAsked : od_dsc mX11_setsAsked 2 := ⟨by decide +kernel, by decide +kernel, by decide +kernel⟩
theorem dsX11_ones : od_dsc mX11_ones 1 := ⟨by decide +kernel, by decide +kernel, by decide +kernel⟩
theorem dsX11_codeAt : od_dsc mX11_codeAt 1 := ⟨by decide +kernel, by decide +kernel, by decide +kernel⟩
theorem dsX11_sumOf : od_dsc mX11_sumOf 1 := ⟨by decide +kernel, by decide +kernel, by decide +kernel⟩
theorem dsX11_termOf : od_dsc mX11_termOf 1 := ⟨by decide +kernel, by decide +kernel, by decide +kernel⟩
theorem dsX11_partOf : od_dsc mX11_partOf 1 := ⟨by decide +kernel, by decide +kernel, by decide +kernel⟩
theorem dsX11_sign : od_dsc mX11_sign 1 := ⟨by decide +kernel, by decide +kernel, by decide +kernel⟩
theorem dsX11_passes0 : od_dsc mX11_passes0 1 := ⟨by decide +kernel, by decide +kernel, by decide +kernel⟩
theorem dsX11_orderValue : od_dsc mX11_orderValue 2 := ⟨by decide +kernel, by decide +kernel, by decide +kernel⟩
theorem dsX11_pinMany : od_dsc mX11_pinMany 0 := ⟨by decide +kernel, by decide +kernel, by decide +kernel⟩
theorem dsX11_bounded : od_dsc mX11_bounded 2 := ⟨by decide +kernel, by decide +kernel, by decide +kernel⟩
theorem dsX11_testOf : od_dsc mX11_testOf 1 := ⟨by decide +kernel, by decide +kernel, by decide +kernel⟩
theorem dsX11_bothOf : od_dsc mX11_bothOf 1 := ⟨by decide +kernel, by decide +kernel, by decide +kernel⟩
theorem dsX11_plainOf : od_dsc mX11_plainOf 1 := ⟨by decide +kernel, by decide +kernel, by decide +kernel⟩
theorem dsX11_positiveOf : od_dsc mX11_positiveOf 1 := ⟨by decide +kernel, by decide +kernel, by decide +kernel⟩
theorem dsX11_isNow : od_dsc mX11_isNow 3 := ⟨by decide +kernel, by decide +kernel, by decide +kernel⟩
theorem dsX11_terms : od_dsc mX11_terms 2 := ⟨by decide +kernel, by decide +kernel, by decide +kernel⟩
theorem dsX11_isTerm : od_dsc mX11_isTerm 2 := ⟨by decide +kernel, by decide +kernel, by decide +kernel⟩
theorem dsX11_termAt : od_dsc mX11_termAt 1 := ⟨by decide +kernel, by decide +kernel, by decide +kernel⟩
theorem dsX11_row : od_dsc mX11_row 0 := ⟨by decide +kernel, by decide +kernel, by decide +kernel⟩
theorem dsX11_sleeves : od_dsc mX11_sleeves 0 := ⟨by decide +kernel, by decide +kernel, by decide +kernel⟩
theorem dsX11_feed : od_dsc mX11_feed 5 := ⟨by decide +kernel, by decide +kernel, by decide +kernel⟩
theorem dsX11_end : od_dsc mX11_end 1 := ⟨by decide +kernel, by decide +kernel, by decide +kernel⟩
theorem dsX11_law : od_dsc mX11_law 0 := ⟨by decide +kernel, by decide +kernel, by decide +kernel⟩
theorem dsX11_readsAs : od_dsc mX11_readsAs 1 := ⟨by decide +kernel, by decide +kernel, by decide +kernel⟩
theorem dsX11_reads : od_dsc mX11_reads 0 := ⟨by decide +kernel, by decide +kernel, by decide +kernel⟩
theorem dsX11_splits : od_dsc mX11_splits 1 := ⟨by decide +kernel, by decide +kernel, by decide +kernel⟩
theorem dsX11_isSmall : od_dsc mX11_isSmall 1 := ⟨by decide +kernel, by decide +kernel, by decide +kernel⟩
theorem dsX11_isDigit : od_dsc mX11_isDigit 1 := ⟨by decide +kernel, by decide +kernel, by decide +kernel⟩
theorem dsX11_wordOf : od_dsc mX11_wordOf 2 := ⟨by decide +kernel, by decide +kernel, by decide +kernel⟩
theorem dsX11_readOne : od_dsc mX11_readOne 0 := ⟨by decide +kernel, by decide +kernel, by decide +kernel⟩
theorem dsX11_readOrder : od_dsc mX11_readOrder 0 := ⟨by decide +kernel, by decide +kernel, by decide +kernel⟩
theorem dsX11_takes0 : od_dsc mX11_takes0 1 := ⟨by decide +kernel, by decide +kernel, by decide +kernel⟩
theorem dsX11_fine : od_dsc mX11_fine 0 := ⟨by decide +kernel, by decide +kernel, by decide +kernel⟩
theorem dsX11_readTwo : od_dsc mX11_readTwo 1 := ⟨by decide +kernel, by decide +kernel, by decide +kernel⟩
theorem dsX11_readSum : od_dsc mX11_readSum 1 := ⟨by decide +kernel, by decide +kernel, by decide +kernel⟩
theorem dsX11_readTerm : od_dsc mX11_readTerm 1 := ⟨by decide +kernel, by decide +kernel, by decide +kernel⟩
theorem dsX11_readPart : od_dsc mX11_readPart 1 := ⟨by decide +kernel, by decide +kernel, by decide +kernel⟩
theorem dsX11_faults : od_dsc mX11_faults 0 := ⟨by decide +kernel, by decide +kernel, by decide +kernel⟩
theorem dsX11_must : od_dsc mX11_must 1 := ⟨by decide +kernel, by decide +kernel, by decide +kernel⟩
theorem dsX11_leaf : od_dsc mX11_leaf 0 := ⟨by decide +kernel, by decide +kernel, by decide +kernel⟩
theorem dsX11_mustNumber : od_dsc mX11_mustNumber 2 := ⟨by decide +kernel, by decide +kernel, by decide +kernel⟩
theorem dsX11_readTest : od_dsc mX11_readTest 1 := ⟨by decide +kernel, by decide +kernel, by decide +kernel⟩
theorem dsX11_readBoth : od_dsc mX11_readBoth 1 := ⟨by decide +kernel, by decide +kernel, by decide +kernel⟩
theorem dsX11_readPlain : od_dsc mX11_readPlain 1 := ⟨by decide +kernel, by decide +kernel, by decide +kernel⟩
theorem dsX11_readClause : od_dsc mX11_readClause 0 := ⟨by decide +kernel, by decide +kernel, by decide +kernel⟩
theorem dsX11_lays : od_dsc mX11_lays 1 := ⟨by decide +kernel, by decide +kernel, by decide +kernel⟩
theorem dsX11_fault : od_dsc mX11_fault 0 := ⟨by decide +kernel, by decide +kernel, by decide +kernel⟩
theorem dsX11_force : od_dsc mX11_force 1 := ⟨by decide +kernel, by decide +kernel, by decide +kernel⟩
theorem dsX11_isLaw : od_dsc mX11_isLaw 1 := ⟨by decide +kernel, by decide +kernel, by decide +kernel⟩
theorem dsX11_loud : od_dsc mX11_loud 1 := ⟨by decide +kernel, by decide +kernel, by decide +kernel⟩
theorem dsX11_loudAt : od_dsc mX11_loudAt 1 := ⟨by decide +kernel, by decide +kernel, by decide +kernel⟩
theorem dsX11_round : od_dsc mX11_round 0 := ⟨by decide +kernel, by decide +kernel, by decide +kernel⟩
theorem dsX11_common : od_dsc mX11_common 2 := ⟨by decide +kernel, by decide +kernel, by decide +kernel⟩
theorem dsX11_undo : od_dsc mX11_undo 0 := ⟨by decide +kernel, by decide +kernel, by decide +kernel⟩
theorem dsX11_pin : od_dsc mX11_pin 2 := ⟨by decide +kernel, by decide +kernel, by decide +kernel⟩
theorem dsX11_pinsKept : od_dsc mX11_pinsKept 2 := ⟨by decide +kernel, by decide +kernel, by decide +kernel⟩
theorem dsX11_canPin : od_dsc mX11_canPin 2 := ⟨by decide +kernel, by decide +kernel, by decide +kernel⟩
theorem dsX11_keeps : od_dsc mX11_keeps 1 := ⟨by decide +kernel, by decide +kernel, by decide +kernel⟩
theorem dsX11_turnsPin : od_dsc mX11_turnsPin 2 := ⟨by decide +kernel, by decide +kernel, by decide +kernel⟩
theorem dsX11_goodOr : od_dsc mX11_goodOr 1 := ⟨by decide +kernel, by decide +kernel, by decide +kernel⟩
theorem dsX11_shift : od_dsc mX11_shift 2 := ⟨by decide +kernel, by decide +kernel, by decide +kernel⟩
theorem dsX11_shiftsKept : od_dsc mX11_shiftsKept 2 := ⟨by decide +kernel, by decide +kernel, by decide +kernel⟩
theorem dsX11_stop : od_dsc mX11_stop 1 := ⟨by decide +kernel, by decide +kernel, by decide +kernel⟩
theorem dsX11_stopsKept : od_dsc mX11_stopsKept 1 := ⟨by decide +kernel, by decide +kernel, by decide +kernel⟩
theorem dsX11_pass : od_dsc mX11_pass 0 := ⟨by decide +kernel, by decide +kernel, by decide +kernel⟩
theorem dsX11_passesKept : od_dsc mX11_passesKept 0 := ⟨by decide +kernel, by decide +kernel, by decide +kernel⟩
theorem dsX11_hourPasses : od_dsc mX11_hourPasses 0 := ⟨by decide +kernel, by decide +kernel, by decide +kernel⟩
theorem dsX11_when : od_dsc mX11_when 1 := ⟨by decide +kernel, by decide +kernel, by decide +kernel⟩
theorem dsX11_isSet : od_dsc mX11_isSet 1 := ⟨by decide +kernel, by decide +kernel, by decide +kernel⟩
theorem dsX11_laysRound : od_dsc mX11_laysRound 0 := ⟨by decide +kernel, by decide +kernel, by decide +kernel⟩
theorem dsX11_often : od_dsc mX11_often 1 := ⟨by decide +kernel, by decide +kernel, by decide +kernel⟩
theorem dsX11_alone : od_dsc mX11_alone 1 := ⟨by decide +kernel, by decide +kernel, by decide +kernel⟩
theorem dsX11_loudest : od_dsc mX11_loudest 1 := ⟨by decide +kernel, by decide +kernel, by decide +kernel⟩
theorem dsX11_laysNoise : od_dsc mX11_laysNoise 0 := ⟨by decide +kernel, by decide +kernel, by decide +kernel⟩
theorem dsX11_quiet : od_dsc mX11_quiet 1 := ⟨by decide +kernel, by decide +kernel, by decide +kernel⟩
theorem dsX11_isBit : od_dsc mX11_isBit 1 := ⟨by decide +kernel, by decide +kernel, by decide +kernel⟩
theorem dsX11_quietFrom : od_dsc mX11_quietFrom 1 := ⟨by decide +kernel, by decide +kernel, by decide +kernel⟩
theorem dsX11_most : od_dsc mX11_most 2 := ⟨by decide +kernel, by decide +kernel, by decide +kernel⟩
theorem dsX11_together : od_dsc mX11_together 2 := ⟨by decide +kernel, by decide +kernel, by decide +kernel⟩
theorem dsX11_least : od_dsc mX11_least 2 := ⟨by decide +kernel, by decide +kernel, by decide +kernel⟩
theorem dsX11_never : od_dsc mX11_never 1 := ⟨by decide +kernel, by decide +kernel, by decide +kernel⟩
theorem dsX11_laysStrike : od_dsc mX11_laysStrike 0 := ⟨by decide +kernel, by decide +kernel, by decide +kernel⟩
theorem dsX11_add : od_dsc mX11_add 2 := ⟨by decide +kernel, by decide +kernel, by decide +kernel⟩
theorem dsX11_lacks : od_dsc mX11_lacks 2 := ⟨by decide +kernel, by decide +kernel, by decide +kernel⟩
theorem dsX11_tune : od_dsc mX11_tune 0 := ⟨by decide +kernel, by decide +kernel, by decide +kernel⟩
theorem dsX11_isTune : od_dsc mX11_isTune 1 := ⟨by decide +kernel, by decide +kernel, by decide +kernel⟩
theorem dsX11_compare : od_dsc mX11_compare 1 := ⟨by decide +kernel, by decide +kernel, by decide +kernel⟩
theorem dsX11_heard : od_dsc mX11_heard 2 := ⟨by decide +kernel, by decide +kernel, by decide +kernel⟩
theorem dsX11_forget : od_dsc mX11_forget 0 := ⟨by decide +kernel, by decide +kernel, by decide +kernel⟩
theorem dsX11_canBe : od_dsc mX11_canBe 0 := ⟨by decide +kernel, by decide +kernel, by decide +kernel⟩
theorem dsX11_isSo : od_dsc mX11_isSo 1 := ⟨by decide +kernel, by decide +kernel, by decide +kernel⟩
theorem dsX11_listen : od_dsc mX11_listen 1 := ⟨by decide +kernel, by decide +kernel, by decide +kernel⟩
theorem dsX11_moreAt : od_dsc mX11_moreAt 2 := ⟨by decide +kernel, by decide +kernel, by decide +kernel⟩
theorem dsX11_greater : od_dsc mX11_greater 2 := ⟨by decide +kernel, by decide +kernel, by decide +kernel⟩
theorem dsX11_few : od_dsc mX11_few 2 := ⟨by decide +kernel, by decide +kernel, by decide +kernel⟩
theorem dsX11_stopped : od_dsc mX11_stopped 0 := ⟨by decide +kernel, by decide +kernel, by decide +kernel⟩
theorem dsX11_orders : od_dsc mX11_orders 0 := ⟨by decide +kernel, by decide +kernel, by decide +kernel⟩
theorem dsX11_laysAside : od_dsc mX11_laysAside 1 := ⟨by decide +kernel, by decide +kernel, by decide +kernel⟩
theorem dsX11_runs : od_dsc mX11_runs 1 := ⟨by decide +kernel, by decide +kernel, by decide +kernel⟩
theorem dsX11_goesAlong : od_dsc mX11_goesAlong 2 := ⟨by decide +kernel, by decide +kernel, by decide +kernel⟩
theorem dsX11_obeys : od_dsc mX11_obeys 0 := ⟨by decide +kernel, by decide +kernel, by decide +kernel⟩
theorem dsX11_small : od_dsc mX11_small 1 := ⟨by decide +kernel, by decide +kernel, by decide +kernel⟩
theorem dsX11_takesBack : od_dsc mX11_takesBack 1 := ⟨by decide +kernel, by decide +kernel, by decide +kernel⟩
theorem dsX11_days : od_dsc mX11_days 2 := ⟨by decide +kernel, by decide +kernel, by decide +kernel⟩
theorem dsX11_draws : od_dsc mX11_draws 1 := ⟨by decide +kernel, by decide +kernel, by decide +kernel⟩
theorem dsX11_drawn : od_dsc mX11_drawn 2 := ⟨by decide +kernel, by decide +kernel, by decide +kernel⟩
theorem dsX11_count : od_dsc mX11_count 1 := ⟨by decide +kernel, by decide +kernel, by decide +kernel⟩
theorem dsX11_strikingNow : od_dsc mX11_strikingNow 0 := ⟨by decide +kernel, by decide +kernel, by decide +kernel⟩
theorem dsX11_status : od_dsc mX11_status 0 := ⟨by decide +kernel, by decide +kernel, by decide +kernel⟩
theorem ciL_9 : od_CI RL 9 mX10_init 0 := ⟨lkL_9, imX10_init, rfl, rfl, inX10, cdX10_init, dsX10_init, by decide⟩
theorem ciX10_49 : od_CI RX10 49 mX3_init 1 := ⟨lkX10_49, imX3_init, rfl, rfl, inX3, cdX3_init, dsX3_init, by decide⟩
theorem ciX3_11 : od_CI RX3 11 mX9_init 2 := ⟨lkX3_11, imX9_init, rfl, rfl, inX9, cdX9_init, dsX9_init, by decide⟩
theorem csX9_18 : od_CS RX9 18 mJ9_max_7cf53 2 := ⟨lkX9_18, stJ9_max_7cf53, inJ9, cdJ9_max_7cf53, dsJ9_max_7cf53, by decide⟩
theorem ciX10_65 : od_CI RX10 65 mX1_init 1 := ⟨lkX10_65, imX1_init, rfl, rfl, inX1, cdX1_init, dsX1_init, by decide⟩
theorem ciX10_74 : od_CI RX10 74 mX5_init 2 := ⟨lkX10_74, imX5_init, rfl, rfl, inX5, cdX5_init, dsX5_init, by decide⟩
theorem ciX10_83 : od_CI RX10 83 mX4_init 1 := ⟨lkX10_83, imX4_init, rfl, rfl, inX4, cdX4_init, dsX4_init, by decide⟩
theorem cvL_13 : od_CV RL 13 mX10_drum 10 4 := ⟨lkL_13, imX10_drum, seX10_drum, inX10, cdX10_drum, by decide, dsX10_drum, by decide⟩
theorem csX10_109 : od_CS RX10 109 mX6_canHold 4 := ⟨lkX10_109, stX6_canHold, inX6, cdX6_canHold, dsX6_canHold, by decide⟩
theorem cvX10_113 : od_CV RX10 113 mX10_refuse 10 1 := ⟨lkX10_113, imX10_refuse, seX10_refuse, inX10, cdX10_refuse, by decide, dsX10_refuse, by decide⟩
theorem cvX10_120 : od_CV RX10 120 mX6_take 6 4 := ⟨lkX10_120, imX6_take, seX6_take, inX6, cdX6_take, by decide, dsX6_take, by decide⟩
theorem cvX10_124 : od_CV RX10 124 mX2_clear 2 0 := ⟨lkX10_124, imX2_clear, seX2_clear, inX2, cdX2_clear, by decide, dsX2_clear, by decide⟩
theorem cvX10_127 : od_CV RX10 127 mX10_accept 10 1 := ⟨lkX10_127, imX10_accept, seX10_accept, inX10, cdX10_accept, by decide, dsX10_accept, by decide⟩
theorem cvL_18 : od_CV RL 18 mX10_of 10 2 := ⟨lkL_18, imX10_of, seX10_of, inX10, cdX10_of, by decide, dsX10_of, by decide⟩
theorem cvX10_130 : od_CV RX10 130 mX6_has 6 1 := ⟨lkX10_130, imX6_has, seX6_has, inX6, cdX6_has, by decide, dsX6_has, by decide⟩
theorem cvX10_146 : od_CV RX10 146 mX6_isStopped 6 1 := ⟨lkX10_146, imX6_isStopped, seX6_isStopped, inX6, cdX6_isStopped, by decide, dsX6_isStopped, by decide⟩
theorem cvX10_149 : od_CV RX10 149 mX6_strikesIn 6 2 := ⟨lkX10_149, imX6_strikesIn, seX6_strikesIn, inX6, cdX6_strikesIn, by decide, dsX6_strikesIn, by decide⟩
theorem cvX6_60 : od_CV RX6 60 mX6_isStopped 6 1 := ⟨lkX6_60, imX6_isStopped, seX6_isStopped, inX6, cdX6_isStopped, by decide, dsX6_isStopped, by decide⟩
theorem cvX6_63 : od_CV RX6 63 mX6_beatIn 6 2 := ⟨lkX6_63, imX6_beatIn, seX6_beatIn, inX6, cdX6_beatIn, by decide, dsX6_beatIn, by decide⟩
theorem cvX6_56 : od_CV RX6 56 mX6_has 6 1 := ⟨lkX6_56, imX6_has, seX6_has, inX6, cdX6_has, by decide, dsX6_has, by decide⟩
theorem cvX6_67 : od_CV RX6 67 mX6_hasPin 6 2 := ⟨lkX6_67, imX6_hasPin, seX6_hasPin, inX6, cdX6_hasPin, by decide, dsX6_hasPin, by decide⟩
theorem cvL_23 : od_CV RL 23 mX10_asks 10 3 := ⟨lkL_23, imX10_asks, seX10_asks, inX10, cdX10_asks, by decide, dsX10_asks, by decide⟩
theorem cvX10_153 : od_CV RX10 153 mX6_hasBeat 6 2 := ⟨lkX10_153, imX6_hasBeat, seX6_hasBeat, inX6, cdX6_hasBeat, by decide, dsX6_hasBeat, by decide⟩
theorem cvX10_159 : od_CV RX10 159 mX6_lawOf 6 1 := ⟨lkX10_159, imX6_lawOf, seX6_lawOf, inX6, cdX6_lawOf, by decide, dsX6_lawOf, by decide⟩
theorem cvX10_163 : od_CV RX10 163 mX0_sound 0 4 := ⟨lkX10_163, imX0_sound, seX0_sound, inX0, cdX0_sound, by decide, dsX0_sound, by decide⟩
theorem cvX0_22 : od_CV RX0 22 mX6_has 6 1 := ⟨lkX0_22, imX6_has, seX6_has, inX6, cdX6_has, by decide, dsX6_has, by decide⟩
theorem cvX0_28 : od_CV RX0 28 mX0_setWords 0 3 := ⟨lkX0_28, imX0_setWords, seX0_setWords, inX0, cdX0_setWords, by decide, dsX0_setWords, by decide⟩
theorem csX0_92 : od_CS RX0 92 mJ6_bitCount_0f7a4 1 := ⟨lkX0_92, stJ6_bitCount_0f7a4, inJ6, cdJ6_bitCount_0f7a4, dsJ6_bitCount_0f7a4, by decide⟩
theorem cvX0_47 : od_CV RX0 47 mX7_value 7 3 := ⟨lkX0_47, imX7_value, seX7_value, inX7, cdX7_value, by decide, dsX7_value, by decide⟩
theorem csX7_16 : od_CS RX7 16 mX7_join 3 := ⟨lkX7_16, stX7_join, inX7, cdX7_join, dsX7_join, by decide⟩
theorem csX0_55 : od_CS RX0 55 mJ9_min_7cf53 2 := ⟨lkX0_55, stJ9_min_7cf53, inJ9, cdJ9_min_7cf53, dsJ9_min_7cf53, by decide⟩
theorem csX0_61 : od_CS RX0 61 mJ9_max_7cf53 2 := ⟨lkX0_61, stJ9_max_7cf53, inJ9, cdJ9_max_7cf53, dsJ9_max_7cf53, by decide⟩
theorem cvX10_167 : od_CV RX10 167 mX0_holds 0 5 := ⟨lkX10_167, imX0_holds, seX0_holds, inX0, cdX0_holds, by decide, dsX0_holds, by decide⟩
theorem cvL_28 : od_CV RL 28 mX10_terms 10 2 := ⟨lkL_28, imX10_terms, seX10_terms, inX10, cdX10_terms, by decide, dsX10_terms, by decide⟩
theorem cvL_32 : od_CV RL 32 mX10_feed 10 5 := ⟨lkL_32, imX10_feed, seX10_feed, inX10, cdX10_feed, by decide, dsX10_feed, by decide⟩
theorem cvX10_180 : od_CV RX10 180 mX8_put 8 1 := ⟨lkX10_180, imX8_put, seX8_put, inX8, cdX8_put, by decide, dsX8_put, by decide⟩
theorem cvL_37 : od_CV RL 37 mX10_end 10 1 := ⟨lkL_37, imX10_end, seX10_end, inX10, cdX10_end, by decide, dsX10_end, by decide⟩
theorem cvL_42 : od_CV RL 42 mX10_row 10 0 := ⟨lkL_42, imX10_row, seX10_row, inX10, cdX10_row, by decide, dsX10_row, by decide⟩
theorem cvX10_184 : od_CV RX10 184 mX10_takeFour 10 1 := ⟨lkX10_184, imX10_takeFour, seX10_takeFour, inX10, cdX10_takeFour, by decide, dsX10_takeFour, by decide⟩
theorem cvL_47 : od_CV RL 47 mX10_sleeves 10 0 := ⟨lkL_47, imX10_sleeves, seX10_sleeves, inX10, cdX10_sleeves, by decide, dsX10_sleeves, by decide⟩
theorem cvL_51 : od_CV RL 51 mX10_law 10 0 := ⟨lkL_51, imX10_law, seX10_law, inX10, cdX10_law, by decide, dsX10_law, by decide⟩
theorem cvX10_190 : od_CV RX10 190 mX3_read 3 1 := ⟨lkX10_190, imX3_read, seX3_read, inX3, cdX3_read, by decide, dsX3_read, by decide⟩
theorem cvX3_47 : od_CV RX3 47 mX9_begin 9 0 := ⟨lkX3_47, imX9_begin, seX9_begin, inX9, cdX9_begin, by decide, dsX9_begin, by decide⟩
theorem cvX3_50 : od_CV RX3 50 mX3_goOn 3 0 := ⟨lkX3_50, imX3_goOn, seX3_goOn, inX3, cdX3_goOn, by decide, dsX3_goOn, by decide⟩
theorem cvX3_151 : od_CV RX3 151 mX3_byteAt 3 1 := ⟨lkX3_151, imX3_byteAt, seX3_byteAt, inX3, cdX3_byteAt, by decide, dsX3_byteAt, by decide⟩
theorem csX3_173 : od_CS RX3 173 mX3_sortOf 1 := ⟨lkX3_173, stX3_sortOf, inX3, cdX3_sortOf, dsX3_sortOf, by decide⟩
theorem csX3_176 : od_CS RX3 176 mJ9_min_7cf53 2 := ⟨lkX3_176, stJ9_min_7cf53, inJ9, cdJ9_min_7cf53, dsJ9_min_7cf53, by decide⟩
theorem cvX3_53 : od_CV RX3 53 mX3_readClause 3 0 := ⟨lkX3_53, imX3_readClause, seX3_readClause, inX3, cdX3_readClause, by decide, dsX3_readClause, by decide⟩
theorem cvX3_67 : od_CV RX3 67 mX3_wordIn 3 1 := ⟨lkX3_67, imX3_wordIn, seX3_wordIn, inX3, cdX3_wordIn, by decide, dsX3_wordIn, by decide⟩
theorem csJ0_495 : od_CS RJ0 495 mJ1_charAt_3b067 2 := ⟨lkJ0_495, stJ1_charAt_3b067, inJ1, cdJ1_charAt_3b067, dsJ1_charAt_3b067, by decide⟩
theorem csJ1_9 : od_CS RJ1 9 mJ0_checkIndex_df160 2 := ⟨lkJ1_9, stJ0_checkIndex_df160, inJ0, cdJ0_checkIndex_df160, dsJ0_checkIndex_df160, by decide⟩
theorem csJ0_1059 : od_CS RJ0 1059 mJ3_checkIndex_8e157 3 := ⟨lkJ0_1059, stJ3_checkIndex_8e157, inJ3, cdJ3_checkIndex_8e157, dsJ3_checkIndex_8e157, by decide⟩
theorem csJ0_498 : od_CS RJ0 498 mJ2_charAt_3b067 2 := ⟨lkJ0_498, stJ2_charAt_3b067, inJ2, cdJ2_charAt_3b067, dsJ2_charAt_3b067, by decide⟩
theorem csJ2_67 : od_CS RJ2 67 mJ2_checkIndex_2214a 2 := ⟨lkJ2_67, stJ2_checkIndex_2214a, inJ2, cdJ2_checkIndex_2214a, dsJ2_checkIndex_2214a, by decide⟩
theorem csJ2_48 : od_CS RJ2 48 mJ2_length_9d52b 1 := ⟨lkJ2_48, stJ2_length_9d52b, inJ2, cdJ2_length_9d52b, dsJ2_length_9d52b, by decide⟩
theorem csJ2_414 : od_CS RJ2 414 mJ0_checkIndex_df160 2 := ⟨lkJ2_414, stJ0_checkIndex_df160, inJ0, cdJ0_checkIndex_df160, dsJ0_checkIndex_df160, by decide⟩
theorem csJ2_71 : od_CS RJ2 71 mJ2_getChar_3b067 2 := ⟨lkJ2_71, stJ2_getChar_3b067, inJ2, cdJ2_getChar_3b067, dsJ2_getChar_3b067, by decide⟩
theorem cvX3_164 : od_CV RX3 164 mX3_spells 3 3 := ⟨lkX3_164, imX3_spells, seX3_spells, inX3, cdX3_spells, by decide, dsX3_spells, by decide⟩
theorem cvX3_71 : od_CV RX3 71 mX9_open 9 1 := ⟨lkX3_71, imX9_open, seX9_open, inX9, cdX9_open, by decide, dsX9_open, by decide⟩
theorem cvX3_60 : od_CV RX3 60 mX3_setFault 3 0 := ⟨lkX3_60, imX3_setFault, seX3_setFault, inX3, cdX3_setFault, by decide, dsX3_setFault, by decide⟩
theorem cvX3_82 : od_CV RX3 82 mX3_readSum 3 1 := ⟨lkX3_82, imX3_readSum, seX3_readSum, inX3, cdX3_readSum, by decide, dsX3_readSum, by decide⟩
theorem cvX3_138 : od_CV RX3 138 mX3_readTerm 3 1 := ⟨lkX3_138, imX3_readTerm, seX3_readTerm, inX3, cdX3_readTerm, by decide, dsX3_readTerm, by decide⟩
theorem cvX3_141 : od_CV RX3 141 mX3_readPart 3 1 := ⟨lkX3_141, imX3_readPart, seX3_readPart, inX3, cdX3_readPart, by decide, dsX3_readPart, by decide⟩
theorem cvX3_131 : od_CV RX3 131 mX3_isSign 3 1 := ⟨lkX3_131, imX3_isSign, seX3_isSign, inX3, cdX3_isSign, by decide, dsX3_isSign, by decide⟩
theorem cvX3_56 : od_CV RX3 56 mX3_takeSign 3 1 := ⟨lkX3_56, imX3_takeSign, seX3_takeSign, inX3, cdX3_takeSign, by decide, dsX3_takeSign, by decide⟩
theorem cvX3_86 : od_CV RX3 86 mX9_put 9 2 := ⟨lkX3_86, imX9_put, seX9_put, inX9, cdX9_put, by decide, dsX9_put, by decide⟩
theorem cvX3_148 : od_CV RX3 148 mX3_putWord 3 1 := ⟨lkX3_148, imX3_putWord, seX3_putWord, inX3, cdX3_putWord, by decide, dsX3_putWord, by decide⟩
theorem cvX3_134 : od_CV RX3 134 mX3_stepOf 3 6 := ⟨lkX3_134, imX3_stepOf, seX3_stepOf, inX3, cdX3_stepOf, by decide, dsX3_stepOf, by decide⟩
theorem cvX3_90 : od_CV RX3 90 mX3_readOrder 3 2 := ⟨lkX3_90, imX3_readOrder, seX3_readOrder, inX3, cdX3_readOrder, by decide, dsX3_readOrder, by decide⟩
theorem cvX3_95 : od_CV RX3 95 mX3_takeWord 3 1 := ⟨lkX3_95, imX3_takeWord, seX3_takeWord, inX3, cdX3_takeWord, by decide, dsX3_takeWord, by decide⟩
theorem cvX3_102 : od_CV RX3 102 mX3_readTest 3 1 := ⟨lkX3_102, imX3_readTest, seX3_readTest, inX3, cdX3_readTest, by decide, dsX3_readTest, by decide⟩
theorem cvX3_116 : od_CV RX3 116 mX3_readBoth 3 1 := ⟨lkX3_116, imX3_readBoth, seX3_readBoth, inX3, cdX3_readBoth, by decide, dsX3_readBoth, by decide⟩
theorem cvX3_124 : od_CV RX3 124 mX3_readPlain 3 1 := ⟨lkX3_124, imX3_readPlain, seX3_readPlain, inX3, cdX3_readPlain, by decide, dsX3_readPlain, by decide⟩
theorem cvX3_121 : od_CV RX3 121 mX9_land 9 1 := ⟨lkX3_121, imX9_land, seX9_land, inX9, cdX9_land, by decide, dsX9_land, by decide⟩
theorem cvX10_202 : od_CV RX10 202 mX9_copied 9 0 := ⟨lkX10_202, imX9_copied, seX9_copied, inX9, cdX9_copied, by decide, dsX9_copied, by decide⟩
theorem ciX9_43 : od_CI RX9 43 mX9_init 2 := ⟨lkX9_43, imX9_init, rfl, rfl, inX9, cdX9_init, dsX9_init, by decide⟩
theorem cvL_55 : od_CV RL 55 mX10_orders 10 0 := ⟨lkL_55, imX10_orders, seX10_orders, inX10, cdX10_orders, by decide, dsX10_orders, by decide⟩
theorem cvX10_208 : od_CV RX10 208 mX6_become 6 1 := ⟨lkX10_208, imX6_become, seX6_become, inX6, cdX6_become, by decide, dsX6_become, by decide⟩
theorem cvX10_212 : od_CV RX10 212 mX2_become 2 1 := ⟨lkX10_212, imX2_become, seX2_become, inX2, cdX2_become, by decide, dsX2_become, by decide⟩
theorem cvX10_215 : od_CV RX10 215 mX5_run 5 3 := ⟨lkX10_215, imX5_run, seX5_run, inX5, cdX5_run, by decide, dsX5_run, by decide⟩
theorem cvX5_41 : od_CV RX5 41 mX5_setWords 5 1 := ⟨lkX5_41, imX5_setWords, seX5_setWords, inX5, cdX5_setWords, by decide, dsX5_setWords, by decide⟩
theorem cvX5_81 : od_CV RX5 81 mX0_loudIn 0 2 := ⟨lkX5_81, imX0_loudIn, seX0_loudIn, inX0, cdX0_loudIn, by decide, dsX0_loudIn, by decide⟩
theorem cvX0_67 : od_CV RX0 67 mX6_lawOf 6 1 := ⟨lkX0_67, imX6_lawOf, seX6_lawOf, inX6, cdX6_lawOf, by decide, dsX6_lawOf, by decide⟩
theorem cvX0_74 : od_CV RX0 74 mX6_strikesIn 6 2 := ⟨lkX0_74, imX6_strikesIn, seX6_strikesIn, inX6, cdX6_strikesIn, by decide, dsX6_strikesIn, by decide⟩
theorem cvX0_78 : od_CV RX0 78 mX6_beatIn 6 2 := ⟨lkX0_78, imX6_beatIn, seX6_beatIn, inX6, cdX6_beatIn, by decide, dsX6_beatIn, by decide⟩
theorem cvX0_81 : od_CV RX0 81 mX0_sound 0 4 := ⟨lkX0_81, imX0_sound, seX0_sound, inX0, cdX0_sound, by decide, dsX0_sound, by decide⟩
theorem cvX5_85 : od_CV RX5 85 mX6_allPins 6 0 := ⟨lkX5_85, imX6_allPins, seX6_allPins, inX6, cdX6_allPins, by decide, dsX6_allPins, by decide⟩
theorem csX6_74 : od_CS RX6 74 mJ6_bitCount_0f7a4 1 := ⟨lkX6_74, stJ6_bitCount_0f7a4, inJ6, cdJ6_bitCount_0f7a4, dsJ6_bitCount_0f7a4, by decide⟩
theorem cvX5_89 : od_CV RX5 89 mX6_has 6 1 := ⟨lkX5_89, imX6_has, seX6_has, inX6, cdX6_has, by decide, dsX6_has, by decide⟩
theorem csX5_99 : od_CS RX5 99 mJ6_bitCount_0f7a4 1 := ⟨lkX5_99, stJ6_bitCount_0f7a4, inJ6, cdJ6_bitCount_0f7a4, dsJ6_bitCount_0f7a4, by decide⟩
theorem cvX5_57 : od_CV RX5 57 mX7_value 7 3 := ⟨lkX5_57, imX7_value, seX7_value, inX7, cdX7_value, by decide, dsX7_value, by decide⟩
theorem cvX5_70 : od_CV RX5 70 mX1_change 1 5 := ⟨lkX5_70, imX1_change, seX1_change, inX1, cdX1_change, by decide, dsX1_change, by decide⟩
theorem cvX1_15 : od_CV RX1 15 mX1_refusal 1 4 := ⟨lkX1_15, imX1_refusal, seX1_refusal, inX1, cdX1_refusal, by decide, dsX1_refusal, by decide⟩
theorem cvX1_38 : od_CV RX1 38 mX6_has 6 1 := ⟨lkX1_38, imX6_has, seX6_has, inX6, cdX6_has, by decide, dsX6_has, by decide⟩
theorem cvX1_42 : od_CV RX1 42 mX6_hasPin 6 2 := ⟨lkX1_42, imX6_hasPin, seX6_hasPin, inX6, cdX6_hasPin, by decide, dsX6_hasPin, by decide⟩
theorem cvX1_50 : od_CV RX1 50 mX6_lawOf 6 1 := ⟨lkX1_50, imX6_lawOf, seX6_lawOf, inX6, cdX6_lawOf, by decide, dsX6_lawOf, by decide⟩
theorem cvX1_54 : od_CV RX1 54 mX6_hasBeat 6 2 := ⟨lkX1_54, imX6_hasBeat, seX6_hasBeat, inX6, cdX6_hasBeat, by decide, dsX6_hasBeat, by decide⟩
theorem cvX1_57 : od_CV RX1 57 mX0_holds 0 5 := ⟨lkX1_57, imX0_holds, seX0_holds, inX0, cdX0_holds, by decide, dsX0_holds, by decide⟩
theorem cvX1_19 : od_CV RX1 19 mX2_keep 2 2 := ⟨lkX1_19, imX2_keep, seX2_keep, inX2, cdX2_keep, by decide, dsX2_keep, by decide⟩
theorem cvX1_25 : od_CV RX1 25 mX1_passHour 1 1 := ⟨lkX1_25, imX1_passHour, seX1_passHour, inX1, cdX1_passHour, by decide, dsX1_passHour, by decide⟩
theorem cvX1_78 : od_CV RX1 78 mX0_loudIn 0 2 := ⟨lkX1_78, imX0_loudIn, seX0_loudIn, inX0, cdX0_loudIn, by decide, dsX0_loudIn, by decide⟩
theorem cvX1_85 : od_CV RX1 85 mX6_strikesIn 6 2 := ⟨lkX1_85, imX6_strikesIn, seX6_strikesIn, inX6, cdX6_strikesIn, by decide, dsX6_strikesIn, by decide⟩
theorem cvX1_88 : od_CV RX1 88 mX6_beatIn 6 2 := ⟨lkX1_88, imX6_beatIn, seX6_beatIn, inX6, cdX6_beatIn, by decide, dsX6_beatIn, by decide⟩
theorem cvX1_29 : od_CV RX1 29 mX1_turn 1 4 := ⟨lkX1_29, imX1_turn, seX1_turn, inX1, cdX1_turn, by decide, dsX1_turn, by decide⟩
theorem cvX1_75 : od_CV RX1 75 mX6_isStopped 6 1 := ⟨lkX1_75, imX6_isStopped, seX6_isStopped, inX6, cdX6_isStopped, by decide, dsX6_isStopped, by decide⟩
theorem cvL_59 : od_CV RL 59 mX10_fault 10 0 := ⟨lkL_59, imX10_fault, seX10_fault, inX10, cdX10_fault, by decide, dsX10_fault, by decide⟩
theorem cvL_63 : od_CV RL 63 mX10_stopped 10 0 := ⟨lkL_63, imX10_stopped, seX10_stopped, inX10, cdX10_stopped, by decide, dsX10_stopped, by decide⟩
theorem cvL_67 : od_CV RL 67 mX10_force 10 1 := ⟨lkL_67, imX10_force, seX10_force, inX10, cdX10_force, by decide, dsX10_force, by decide⟩
theorem cvL_71 : od_CV RL 71 mX10_pin 10 2 := ⟨lkL_71, imX10_pin, seX10_pin, inX10, cdX10_pin, by decide, dsX10_pin, by decide⟩
theorem cvX10_222 : od_CV RX10 222 mX1_change 1 5 := ⟨lkX10_222, imX1_change, seX1_change, inX1, cdX1_change, by decide, dsX1_change, by decide⟩
theorem cvX10_226 : od_CV RX10 226 mX10_settle 10 1 := ⟨lkX10_226, imX10_settle, seX10_settle, inX10, cdX10_settle, by decide, dsX10_settle, by decide⟩
theorem cvL_75 : od_CV RL 75 mX10_shift 10 2 := ⟨lkL_75, imX10_shift, seX10_shift, inX10, cdX10_shift, by decide, dsX10_shift, by decide⟩
theorem cvL_79 : od_CV RL 79 mX10_stop 10 1 := ⟨lkL_79, imX10_stop, seX10_stop, inX10, cdX10_stop, by decide, dsX10_stop, by decide⟩
theorem cvL_83 : od_CV RL 83 mX10_pass 10 0 := ⟨lkL_83, imX10_pass, seX10_pass, inX10, cdX10_pass, by decide, dsX10_pass, by decide⟩
theorem cvL_87 : od_CV RL 87 mX10_undo 10 0 := ⟨lkL_87, imX10_undo, seX10_undo, inX10, cdX10_undo, by decide, dsX10_undo, by decide⟩
theorem cvX10_232 : od_CV RX10 232 mX2_giveBack 2 1 := ⟨lkX10_232, imX2_giveBack, seX2_giveBack, inX2, cdX2_giveBack, by decide, dsX2_giveBack, by decide⟩
theorem cvL_91 : od_CV RL 91 mX10_loud 10 1 := ⟨lkL_91, imX10_loud, seX10_loud, inX10, cdX10_loud, by decide, dsX10_loud, by decide⟩
theorem cvX10_236 : od_CV RX10 236 mX0_loudIn 0 2 := ⟨lkX10_236, imX0_loudIn, seX0_loudIn, inX0, cdX0_loudIn, by decide, dsX0_loudIn, by decide⟩
theorem cvL_95 : od_CV RL 95 mX10_round 10 0 := ⟨lkL_95, imX10_round, seX10_round, inX10, cdX10_round, by decide, dsX10_round, by decide⟩
theorem cvX10_240 : od_CV RX10 240 mX6_roundOf 6 2 := ⟨lkX10_240, imX6_roundOf, seX6_roundOf, inX6, cdX6_roundOf, by decide, dsX6_roundOf, by decide⟩
theorem csX6_80 : od_CS RX6 80 mX6_multipleOf 2 := ⟨lkX6_80, stX6_multipleOf, inX6, cdX6_multipleOf, dsX6_multipleOf, by decide⟩
theorem cvL_99 : od_CV RL 99 mX10_when 10 1 := ⟨lkL_99, imX10_when, seX10_when, inX10, cdX10_when, by decide, dsX10_when, by decide⟩
theorem cvX10_244 : od_CV RX10 244 mX6_hasAll 6 1 := ⟨lkX10_244, imX6_hasAll, seX6_hasAll, inX6, cdX6_hasAll, by decide, dsX6_hasAll, by decide⟩
theorem cvX10_247 : od_CV RX10 247 mX4_layStrikes 4 1 := ⟨lkX10_247, imX4_layStrikes, seX4_layStrikes, inX4, cdX4_layStrikes, by decide, dsX4_layStrikes, by decide⟩
theorem cvX4_45 : od_CV RX4 45 mX4_lay 4 3 := ⟨lkX4_45, imX4_lay, seX4_lay, inX4, cdX4_lay, by decide, dsX4_lay, by decide⟩
theorem cvX4_49 : od_CV RX4 49 mX6_roundOf 6 2 := ⟨lkX4_49, imX6_roundOf, seX6_roundOf, inX6, cdX6_roundOf, by decide, dsX6_roundOf, by decide⟩
theorem csX4_55 : od_CS RX4 55 mJ9_min_7cf53 2 := ⟨lkX4_55, stJ9_min_7cf53, inJ9, cdJ9_min_7cf53, dsJ9_min_7cf53, by decide⟩
theorem csX4_60 : od_CS RX4 60 mX4_clear 2 := ⟨lkX4_60, stX4_clear, inX4, cdX4_clear, dsX4_clear, by decide⟩
theorem cvX4_67 : od_CV RX4 67 mX6_isStopped 6 1 := ⟨lkX4_67, imX6_isStopped, seX6_isStopped, inX6, cdX6_isStopped, by decide, dsX6_isStopped, by decide⟩
theorem cvX4_71 : od_CV RX4 71 mX4_setCells 4 4 := ⟨lkX4_71, imX4_setCells, seX4_setCells, inX4, cdX4_setCells, by decide, dsX4_setCells, by decide⟩
theorem cvX4_79 : od_CV RX4 79 mX6_hasPin 6 2 := ⟨lkX4_79, imX6_hasPin, seX6_hasPin, inX6, cdX6_hasPin, by decide, dsX6_hasPin, by decide⟩
theorem cvX4_83 : od_CV RX4 83 mX0_sound 0 4 := ⟨lkX4_83, imX0_sound, seX0_sound, inX0, cdX0_sound, by decide, dsX0_sound, by decide⟩
theorem cvX4_75 : od_CV RX4 75 mX4_layDrum 4 4 := ⟨lkX4_75, imX4_layDrum, seX4_layDrum, inX4, cdX4_layDrum, by decide, dsX4_layDrum, by decide⟩
theorem cvX10_250 : od_CV RX10 250 mX4_firstOf 4 1 := ⟨lkX10_250, imX4_firstOf, seX4_firstOf, inX4, cdX4_firstOf, by decide, dsX4_firstOf, by decide⟩
theorem cvX4_99 : od_CV RX4 99 mX4_strikersIn 4 1 := ⟨lkX4_99, imX4_strikersIn, seX4_strikersIn, inX4, cdX4_strikersIn, by decide, dsX4_strikersIn, by decide⟩
theorem cvX4_95 : od_CV RX4 95 mX4_cellIn 4 1 := ⟨lkX4_95, imX4_cellIn, seX4_cellIn, inX4, cdX4_cellIn, by decide, dsX4_cellIn, by decide⟩
theorem cvL_103 : od_CV RL 103 mX10_often 10 1 := ⟨lkL_103, imX10_often, seX10_often, inX10, cdX10_often, by decide, dsX10_often, by decide⟩
theorem cvX10_253 : od_CV RX10 253 mX4_timesOf 4 2 := ⟨lkX10_253, imX4_timesOf, seX4_timesOf, inX4, cdX4_timesOf, by decide, dsX4_timesOf, by decide⟩
theorem cvL_107 : od_CV RL 107 mX10_alone 10 1 := ⟨lkL_107, imX10_alone, seX10_alone, inX10, cdX10_alone, by decide, dsX10_alone, by decide⟩
theorem cvL_111 : od_CV RL 111 mX10_loudest 10 1 := ⟨lkL_111, imX10_loudest, seX10_loudest, inX10, cdX10_loudest, by decide, dsX10_loudest, by decide⟩
theorem cvX10_256 : od_CV RX10 256 mX4_laySounds 4 2 := ⟨lkX10_256, imX4_laySounds, seX4_laySounds, inX4, cdX4_laySounds, by decide, dsX4_laySounds, by decide⟩
theorem cvX10_260 : od_CV RX10 260 mX4_loudestHour 4 1 := ⟨lkX10_260, imX4_loudestHour, seX4_loudestHour, inX4, cdX4_loudestHour, by decide, dsX4_loudestHour, by decide⟩
theorem cvX4_102 : od_CV RX4 102 mX4_loudnessIn 4 1 := ⟨lkX4_102, imX4_loudnessIn, seX4_loudnessIn, inX4, cdX4_loudnessIn, by decide, dsX4_loudnessIn, by decide⟩
theorem cvL_115 : od_CV RL 115 mX10_quiet 10 1 := ⟨lkL_115, imX10_quiet, seX10_quiet, inX10, cdX10_quiet, by decide, dsX10_quiet, by decide⟩
theorem cvX10_263 : od_CV RX10 263 mX4_longestQuiet 4 1 := ⟨lkX10_263, imX4_longestQuiet, seX4_longestQuiet, inX4, cdX4_longestQuiet, by decide, dsX4_longestQuiet, by decide⟩
theorem cvL_119 : od_CV RL 119 mX10_most 10 2 := ⟨lkL_119, imX10_most, seX10_most, inX10, cdX10_most, by decide, dsX10_most, by decide⟩
theorem cvX10_266 : od_CV RX10 266 mX4_bestShift 4 4 := ⟨lkX10_266, imX4_bestShift, seX4_bestShift, inX4, cdX4_bestShift, by decide, dsX4_bestShift, by decide⟩
theorem cvX4_105 : od_CV RX4 105 mX6_has 6 1 := ⟨lkX4_105, imX6_has, seX6_has, inX6, cdX6_has, by decide, dsX6_has, by decide⟩
theorem cvX4_108 : od_CV RX4 108 mX4_setMeetings 4 3 := ⟨lkX4_108, imX4_setMeetings, seX4_setMeetings, inX4, cdX4_setMeetings, by decide, dsX4_setMeetings, by decide⟩
theorem cvL_123 : od_CV RL 123 mX10_least 10 2 := ⟨lkL_123, imX10_least, seX10_least, inX10, cdX10_least, by decide, dsX10_least, by decide⟩
theorem cvL_127 : od_CV RL 127 mX10_never 10 1 := ⟨lkL_127, imX10_never, seX10_never, inX10, cdX10_never, by decide, dsX10_never, by decide⟩
theorem cvX10_270 : od_CV RX10 270 mX4_neverTogether 4 1 := ⟨lkX10_270, imX4_neverTogether, seX4_neverTogether, inX4, cdX4_neverTogether, by decide, dsX4_neverTogether, by decide⟩
theorem csX4_112 : od_CS RX4 112 mJ6_bitCount_0f7a4 1 := ⟨lkX4_112, stJ6_bitCount_0f7a4, inJ6, cdJ6_bitCount_0f7a4, dsJ6_bitCount_0f7a4, by decide⟩
theorem cvX4_117 : od_CV RX4 117 mX4_isTogether 4 1 := ⟨lkX4_117, imX4_isTogether, seX4_isTogether, inX4, cdX4_isTogether, by decide, dsX4_isTogether, by decide⟩
theorem csX10_273 : od_CS RX10 273 mJ6_bitCount_0f7a4 1 := ⟨lkX10_273, stJ6_bitCount_0f7a4, inJ6, cdJ6_bitCount_0f7a4, dsJ6_bitCount_0f7a4, by decide⟩
theorem cvL_131 : od_CV RL 131 mX10_add 10 2 := ⟨lkL_131, imX10_add, seX10_add, inX10, cdX10_add, by decide, dsX10_add, by decide⟩
theorem cvX10_281 : od_CV RX10 281 mX4_fewestPins 4 3 := ⟨lkX10_281, imX4_fewestPins, seX4_fewestPins, inX4, cdX4_fewestPins, by decide, dsX4_fewestPins, by decide⟩
theorem cvX4_120 : od_CV RX4 120 mX4_setBarred 4 2 := ⟨lkX4_120, imX4_setBarred, seX4_setBarred, inX4, cdX4_setBarred, by decide, dsX4_setBarred, by decide⟩
theorem cvX4_131 : od_CV RX4 131 mX6_lawOf 6 1 := ⟨lkX4_131, imX6_lawOf, seX6_lawOf, inX6, cdX6_lawOf, by decide, dsX6_lawOf, by decide⟩
theorem cvX4_135 : od_CV RX4 135 mX6_hasBeat 6 2 := ⟨lkX4_135, imX6_hasBeat, seX6_hasBeat, inX6, cdX6_hasBeat, by decide, dsX6_hasBeat, by decide⟩
theorem cvX4_138 : od_CV RX4 138 mX0_holds 0 5 := ⟨lkX4_138, imX0_holds, seX0_holds, inX0, cdX0_holds, by decide, dsX0_holds, by decide⟩
theorem cvX4_124 : od_CV RX4 124 mX4_canAdd 4 3 := ⟨lkX4_124, imX4_canAdd, seX4_canAdd, inX4, cdX4_canAdd, by decide, dsX4_canAdd, by decide⟩
theorem cvX4_142 : od_CV RX4 142 mX6_beatIn 6 2 := ⟨lkX4_142, imX6_beatIn, seX6_beatIn, inX6, cdX6_beatIn, by decide, dsX6_beatIn, by decide⟩
theorem cvL_135 : od_CV RL 135 mX10_tune 10 0 := ⟨lkL_135, imX10_tune, seX10_tune, inX10, cdX10_tune, by decide, dsX10_tune, by decide⟩
theorem cvX10_285 : od_CV RX10 285 mX4_tuneHours 4 0 := ⟨lkX10_285, imX4_tuneHours, seX4_tuneHours, inX4, cdX4_tuneHours, by decide, dsX4_tuneHours, by decide⟩
theorem cvX4_148 : od_CV RX4 148 mX4_comesAgain 4 2 := ⟨lkX4_148, imX4_comesAgain, seX4_comesAgain, inX4, cdX4_comesAgain, by decide, dsX4_comesAgain, by decide⟩
theorem cvL_139 : od_CV RL 139 mX10_heard 10 2 := ⟨lkL_139, imX10_heard, seX10_heard, inX10, cdX10_heard, by decide, dsX10_heard, by decide⟩
theorem cvL_143 : od_CV RL 143 mX10_forget 10 0 := ⟨lkL_143, imX10_forget, seX10_forget, inX10, cdX10_forget, by decide, dsX10_forget, by decide⟩
theorem cvL_147 : od_CV RL 147 mX10_canBe 10 0 := ⟨lkL_147, imX10_canBe, seX10_canBe, inX10, cdX10_canBe, by decide, dsX10_canBe, by decide⟩
theorem cvX10_298 : od_CV RX10 298 mX6_suspects 6 0 := ⟨lkX10_298, imX6_suspects, seX6_suspects, inX6, cdX6_suspects, by decide, dsX6_suspects, by decide⟩
theorem cvX6_71 : od_CV RX6 71 mX6_strikesIn 6 2 := ⟨lkX6_71, imX6_strikesIn, seX6_strikesIn, inX6, cdX6_strikesIn, by decide, dsX6_strikesIn, by decide⟩
theorem cvL_151 : od_CV RL 151 mX10_listen 10 1 := ⟨lkL_151, imX10_listen, seX10_listen, inX10, cdX10_listen, by decide, dsX10_listen, by decide⟩
theorem cvX10_301 : od_CV RX10 301 mX10_leftBehind 10 2 := ⟨lkX10_301, imX10_leftBehind, seX10_leftBehind, inX10, cdX10_leftBehind, by decide, dsX10_leftBehind, by decide⟩
theorem csX10_334 : od_CS RX10 334 mJ9_max_7cf53 2 := ⟨lkX10_334, stJ9_max_7cf53, inJ9, cdJ9_max_7cf53, dsJ9_max_7cf53, by decide⟩
theorem cvL_155 : od_CV RL 155 mX10_few 10 2 := ⟨lkL_155, imX10_few, seX10_few, inX10, cdX10_few, by decide, dsX10_few, by decide⟩
theorem cvX10_308 : od_CV RX10 308 mX10_letOneSlip 10 0 := ⟨lkX10_308, imX10_letOneSlip, seX10_letOneSlip, inX10, cdX10_letOneSlip, by decide, dsX10_letOneSlip, by decide⟩
theorem cvL_160 : od_CV RL 160 mX10_compare 10 1 := ⟨lkL_160, imX10_compare, seX10_compare, inX10, cdX10_compare, by decide, dsX10_compare, by decide⟩
theorem cvX10_311 : od_CV RX10 311 mX4_loudTogether 4 0 := ⟨lkX10_311, imX4_loudTogether, seX4_loudTogether, inX4, cdX4_loudTogether, by decide, dsX4_loudTogether, by decide⟩
theorem cvL_164 : od_CV RL 164 mX10_days 10 2 := ⟨lkL_164, imX10_days, seX10_days, inX10, cdX10_days, by decide, dsX10_days, by decide⟩
theorem csX10_315 : od_CS RX10 315 mX10_draw 1 := ⟨lkX10_315, stX10_draw, inX10, cdX10_draw, dsX10_draw, by decide⟩
theorem cvX10_318 : od_CV RX10 318 mX1_play 1 4 := ⟨lkX10_318, imX1_play, seX1_play, inX1, cdX1_play, by decide, dsX1_play, by decide⟩
theorem cvX10_322 : od_CV RX10 322 mX1_passHour 1 1 := ⟨lkX10_322, imX1_passHour, seX1_passHour, inX1, cdX1_passHour, by decide, dsX1_passHour, by decide⟩
theorem cvL_168 : od_CV RL 168 mX10_drawn 10 2 := ⟨lkL_168, imX10_drawn, seX10_drawn, inX10, cdX10_drawn, by decide, dsX10_drawn, by decide⟩
theorem cvL_172 : od_CV RL 172 mX10_image 10 1 := ⟨lkL_172, imX10_image, seX10_image, inX10, cdX10_image, by decide, dsX10_image, by decide⟩
theorem cvL_176 : od_CV RL 176 mX10_back 10 1 := ⟨lkL_176, imX10_back, seX10_back, inX10, cdX10_back, by decide, dsX10_back, by decide⟩
theorem cvL_180 : od_CV RL 180 mX10_count 10 1 := ⟨lkL_180, imX10_count, seX10_count, inX10, cdX10_count, by decide, dsX10_count, by decide⟩
theorem cvX10_325 : od_CV RX10 325 mX6_howManyStrike 6 0 := ⟨lkX10_325, imX6_howManyStrike, seX6_howManyStrike, inX6, cdX6_howManyStrike, by decide, dsX6_howManyStrike, by decide⟩
theorem cvX10_328 : od_CV RX10 328 mX6_allPins 6 0 := ⟨lkX10_328, imX6_allPins, seX6_allPins, inX6, cdX6_allPins, by decide, dsX6_allPins, by decide⟩
theorem cvL_184 : od_CV RL 184 mX10_status 10 0 := ⟨lkL_184, imX10_status, seX10_status, inX10, cdX10_status, by decide, dsX10_status, by decide⟩
theorem ciL_12 : od_CI RL 12 mX11_init 0 := ⟨lkL_12, imX11_init, rfl, rfl, inX11, cdX11_init, dsX11_init, by decide⟩
theorem cvL_175 : od_CV RL 175 mX11_image 11 1 := ⟨lkL_175, imX11_image, seX11_image, inX11, cdX11_image, by decide, dsX11_image, by decide⟩
theorem csX11_18 : od_CS RX11 18 mX11_lies 3 := ⟨lkX11_18, stX11_lies, inX11, cdX11_lies, dsX11_lies, by decide⟩
theorem cvX11_106 : od_CV RX11 106 mX11_refuses 11 1 := ⟨lkX11_106, imX11_refuses, seX11_refuses, inX11, cdX11_refuses, by decide, dsX11_refuses, by decide⟩
theorem cvX11_14 : od_CV RX11 14 mX11_good 11 1 := ⟨lkX11_14, imX11_good, seX11_good, inX11, cdX11_good, by decide, dsX11_good, by decide⟩
theorem cvL_179 : od_CV RL 179 mX11_back 11 1 := ⟨lkL_179, imX11_back, seX11_back, inX11, cdX11_back, by decide, dsX11_back, by decide⟩
theorem cvX11_109 : od_CV RX11 109 mX11_settled 11 1 := ⟨lkX11_109, imX11_settled, seX11_settled, inX11, cdX11_settled, by decide, dsX11_settled, by decide⟩
theorem cvL_17 : od_CV RL 17 mX11_drum 11 4 := ⟨lkL_17, imX11_drum, seX11_drum, inX11, cdX11_drum, by decide, dsX11_drum, by decide⟩
theorem csX11_120 : od_CS RX11 120 mX11_canDrum 4 := ⟨lkX11_120, stX11_canDrum, inX11, cdX11_canDrum, dsX11_canDrum, by decide⟩
theorem cvX11_112 : od_CV RX11 112 mX11_drumMany 11 0 := ⟨lkX11_112, imX11_drumMany, seX11_drumMany, inX11, cdX11_drumMany, by decide, dsX11_drumMany, by decide⟩
theorem cvX11_124 : od_CV RX11 124 mX11_adds 11 4 := ⟨lkX11_124, imX11_adds, seX11_adds, inX11, cdX11_adds, by decide, dsX11_adds, by decide⟩
theorem cvL_22 : od_CV RL 22 mX11_of 11 2 := ⟨lkL_22, imX11_of, seX11_of, inX11, cdX11_of, by decide, dsX11_of, by decide⟩
theorem cvX11_128 : od_CV RX11 128 mX11_isDrum 11 1 := ⟨lkX11_128, imX11_isDrum, seX11_isDrum, inX11, cdX11_isDrum, by decide, dsX11_isDrum, by decide⟩
theorem cvX11_132 : od_CV RX11 132 mX11_strikes 11 2 := ⟨lkX11_132, imX11_strikes, seX11_strikes, inX11, cdX11_strikes, by decide, dsX11_strikes, by decide⟩
theorem cvX11_335 : od_CV RX11 335 mX11_isStopped 11 1 := ⟨lkX11_335, imX11_isStopped, seX11_isStopped, inX11, cdX11_isStopped, by decide, dsX11_isStopped, by decide⟩
theorem cvX11_338 : od_CV RX11 338 mX11_beatOf 11 2 := ⟨lkX11_338, imX11_beatOf, seX11_beatOf, inX11, cdX11_beatOf, by decide, dsX11_beatOf, by decide⟩
theorem cvX11_341 : od_CV RX11 341 mX11_hasPin 11 2 := ⟨lkX11_341, imX11_hasPin, seX11_hasPin, inX11, cdX11_hasPin, by decide, dsX11_hasPin, by decide⟩
theorem csX11_116 : od_CS RX11 116 mX11_isIn 2 := ⟨lkX11_116, stX11_isIn, inX11, cdX11_isIn, dsX11_isIn, by decide⟩
theorem cvL_27 : od_CV RL 27 mX11_asks 11 3 := ⟨lkL_27, imX11_asks, seX11_asks, inX11, cdX11_asks, by decide, dsX11_asks, by decide⟩
theorem cvX11_135 : od_CV RX11 135 mX11_isBeat 11 2 := ⟨lkX11_135, imX11_isBeat, seX11_isBeat, inX11, cdX11_isBeat, by decide, dsX11_isBeat, by decide⟩
theorem cvX11_138 : od_CV RX11 138 mX11_soundsAt 11 2 := ⟨lkX11_138, imX11_soundsAt, seX11_soundsAt, inX11, cdX11_soundsAt, by decide, dsX11_soundsAt, by decide⟩
theorem cvX11_331 : od_CV RX11 331 mX11_tells 11 4 := ⟨lkX11_331, imX11_tells, seX11_tells, inX11, cdX11_tells, by decide, dsX11_tells, by decide⟩
theorem cvX11_326 : od_CV RX11 326 mX11_setsAsked 11 2 := ⟨lkX11_326, imX11_setsAsked, seX11_setsAsked, inX11, cdX11_setsAsked, by decide, dsX11_setsAsked, by decide⟩
theorem csX11_299 : od_CS RX11 299 mX11_ones 1 := ⟨lkX11_299, stX11_ones, inX11, cdX11_ones, dsX11_ones, by decide⟩
theorem cvX11_266 : od_CV RX11 266 mX11_codeAt 11 1 := ⟨lkX11_266, imX11_codeAt, seX11_codeAt, inX11, cdX11_codeAt, by decide, dsX11_codeAt, by decide⟩
theorem cvX11_290 : od_CV RX11 290 mX11_sumOf 11 1 := ⟨lkX11_290, imX11_sumOf, seX11_sumOf, inX11, cdX11_sumOf, by decide, dsX11_sumOf, by decide⟩
theorem cvX11_276 : od_CV RX11 276 mX11_termOf 11 1 := ⟨lkX11_276, imX11_termOf, seX11_termOf, inX11, cdX11_termOf, by decide, dsX11_termOf, by decide⟩
theorem cvX11_284 : od_CV RX11 284 mX11_partOf 11 1 := ⟨lkX11_284, imX11_partOf, seX11_partOf, inX11, cdX11_partOf, by decide, dsX11_partOf, by decide⟩
theorem csX11_222 : od_CS RX11 222 mX11_sign 1 := ⟨lkX11_222, stX11_sign, inX11, cdX11_sign, dsX11_sign, by decide⟩
theorem cvX11_287 : od_CV RX11 287 mX11_passes0 11 1 := ⟨lkX11_287, imX11_passes0, seX11_passes0, inX11, cdX11_passes0, by decide, dsX11_passes0, by decide⟩
theorem cvX11_296 : od_CV RX11 296 mX11_orderValue 11 2 := ⟨lkX11_296, imX11_orderValue, seX11_orderValue, inX11, cdX11_orderValue, by decide, dsX11_orderValue, by decide⟩
theorem cvX11_311 : od_CV RX11 311 mX11_pinMany 11 0 := ⟨lkX11_311, imX11_pinMany, seX11_pinMany, inX11, cdX11_pinMany, by decide, dsX11_pinMany, by decide⟩
theorem cvX11_280 : od_CV RX11 280 mX11_bounded 11 2 := ⟨lkX11_280, imX11_bounded, seX11_bounded, inX11, cdX11_bounded, by decide, dsX11_bounded, by decide⟩
theorem cvX11_323 : od_CV RX11 323 mX11_testOf 11 1 := ⟨lkX11_323, imX11_testOf, seX11_testOf, inX11, cdX11_testOf, by decide, dsX11_testOf, by decide⟩
theorem cvX11_314 : od_CV RX11 314 mX11_bothOf 11 1 := ⟨lkX11_314, imX11_bothOf, seX11_bothOf, inX11, cdX11_bothOf, by decide, dsX11_bothOf, by decide⟩
theorem cvX11_317 : od_CV RX11 317 mX11_plainOf 11 1 := ⟨lkX11_317, imX11_plainOf, seX11_plainOf, inX11, cdX11_plainOf, by decide, dsX11_plainOf, by decide⟩
theorem cvX11_320 : od_CV RX11 320 mX11_positiveOf 11 1 := ⟨lkX11_320, imX11_positiveOf, seX11_positiveOf, inX11, cdX11_positiveOf, by decide, dsX11_positiveOf, by decide⟩
theorem cvX11_142 : od_CV RX11 142 mX11_isNow 11 3 := ⟨lkX11_142, imX11_isNow, seX11_isNow, inX11, cdX11_isNow, by decide, dsX11_isNow, by decide⟩
theorem cvL_31 : od_CV RL 31 mX11_terms 11 2 := ⟨lkL_31, imX11_terms, seX11_terms, inX11, cdX11_terms, by decide, dsX11_terms, by decide⟩
theorem csX11_145 : od_CS RX11 145 mX11_isTerm 2 := ⟨lkX11_145, stX11_isTerm, inX11, cdX11_isTerm, dsX11_isTerm, by decide⟩
theorem csX11_148 : od_CS RX11 148 mX11_termAt 1 := ⟨lkX11_148, stX11_termAt, inX11, cdX11_termAt, dsX11_termAt, by decide⟩
theorem cvL_46 : od_CV RL 46 mX11_row 11 0 := ⟨lkL_46, imX11_row, seX11_row, inX11, cdX11_row, by decide, dsX11_row, by decide⟩
theorem cvL_50 : od_CV RL 50 mX11_sleeves 11 0 := ⟨lkL_50, imX11_sleeves, seX11_sleeves, inX11, cdX11_sleeves, by decide, dsX11_sleeves, by decide⟩
theorem cvL_36 : od_CV RL 36 mX11_feed 11 5 := ⟨lkL_36, imX11_feed, seX11_feed, inX11, cdX11_feed, by decide, dsX11_feed, by decide⟩
theorem cvL_41 : od_CV RL 41 mX11_end 11 1 := ⟨lkL_41, imX11_end, seX11_end, inX11, cdX11_end, by decide, dsX11_end, by decide⟩
theorem cvL_54 : od_CV RL 54 mX11_law 11 0 := ⟨lkL_54, imX11_law, seX11_law, inX11, cdX11_law, by decide, dsX11_law, by decide⟩
theorem cvX11_250 : od_CV RX11 250 mX11_readsAs 11 1 := ⟨lkX11_250, imX11_readsAs, seX11_readsAs, inX11, cdX11_readsAs, by decide, dsX11_readsAs, by decide⟩
theorem cvX11_247 : od_CV RX11 247 mX11_reads 11 0 := ⟨lkX11_247, imX11_reads, seX11_reads, inX11, cdX11_reads, by decide, dsX11_reads, by decide⟩
theorem cvX11_241 : od_CV RX11 241 mX11_splits 11 1 := ⟨lkX11_241, imX11_splits, seX11_splits, inX11, cdX11_splits, by decide, dsX11_splits, by decide⟩
theorem csX11_160 : od_CS RX11 160 mX11_isSmall 1 := ⟨lkX11_160, stX11_isSmall, inX11, cdX11_isSmall, dsX11_isSmall, by decide⟩
theorem csX11_163 : od_CS RX11 163 mX11_isDigit 1 := ⟨lkX11_163, stX11_isDigit, inX11, cdX11_isDigit, dsX11_isDigit, by decide⟩
theorem cvX11_166 : od_CV RX11 166 mX11_wordOf 11 2 := ⟨lkX11_166, imX11_wordOf, seX11_wordOf, inX11, cdX11_wordOf, by decide, dsX11_wordOf, by decide⟩
theorem cvX11_244 : od_CV RX11 244 mX11_readOne 11 0 := ⟨lkX11_244, imX11_readOne, seX11_readOne, inX11, cdX11_readOne, by decide, dsX11_readOne, by decide⟩
theorem cvX11_210 : od_CV RX11 210 mX11_readOrder 11 0 := ⟨lkX11_210, imX11_readOrder, seX11_readOrder, inX11, cdX11_readOrder, by decide, dsX11_readOrder, by decide⟩
theorem cvX11_180 : od_CV RX11 180 mX11_takes0 11 1 := ⟨lkX11_180, imX11_takes0, seX11_takes0, inX11, cdX11_takes0, by decide, dsX11_takes0, by decide⟩
theorem cvX11_173 : od_CV RX11 173 mX11_fine 11 0 := ⟨lkX11_173, imX11_fine, seX11_fine, inX11, cdX11_fine, by decide, dsX11_fine, by decide⟩
theorem cvX11_199 : od_CV RX11 199 mX11_readTwo 11 1 := ⟨lkX11_199, imX11_readTwo, seX11_readTwo, inX11, cdX11_readTwo, by decide, dsX11_readTwo, by decide⟩
theorem cvX11_189 : od_CV RX11 189 mX11_readSum 11 1 := ⟨lkX11_189, imX11_readSum, seX11_readSum, inX11, cdX11_readSum, by decide, dsX11_readSum, by decide⟩
theorem cvX11_226 : od_CV RX11 226 mX11_readTerm 11 1 := ⟨lkX11_226, imX11_readTerm, seX11_readTerm, inX11, cdX11_readTerm, by decide, dsX11_readTerm, by decide⟩
theorem cvX11_229 : od_CV RX11 229 mX11_readPart 11 1 := ⟨lkX11_229, imX11_readPart, seX11_readPart, inX11, cdX11_readPart, by decide, dsX11_readPart, by decide⟩
theorem cvX11_183 : od_CV RX11 183 mX11_faults 11 0 := ⟨lkX11_183, imX11_faults, seX11_faults, inX11, cdX11_faults, by decide, dsX11_faults, by decide⟩
theorem cvX11_193 : od_CV RX11 193 mX11_must 11 1 := ⟨lkX11_193, imX11_must, seX11_must, inX11, cdX11_must, by decide, dsX11_must, by decide⟩
theorem cvX11_238 : od_CV RX11 238 mX11_leaf 11 0 := ⟨lkX11_238, imX11_leaf, seX11_leaf, inX11, cdX11_leaf, by decide, dsX11_leaf, by decide⟩
theorem cvX11_202 : od_CV RX11 202 mX11_mustNumber 11 2 := ⟨lkX11_202, imX11_mustNumber, seX11_mustNumber, inX11, cdX11_mustNumber, by decide, dsX11_mustNumber, by decide⟩
theorem cvX11_196 : od_CV RX11 196 mX11_readTest 11 1 := ⟨lkX11_196, imX11_readTest, seX11_readTest, inX11, cdX11_readTest, by decide, dsX11_readTest, by decide⟩
theorem cvX11_216 : od_CV RX11 216 mX11_readBoth 11 1 := ⟨lkX11_216, imX11_readBoth, seX11_readBoth, inX11, cdX11_readBoth, by decide, dsX11_readBoth, by decide⟩
theorem cvX11_219 : od_CV RX11 219 mX11_readPlain 11 1 := ⟨lkX11_219, imX11_readPlain, seX11_readPlain, inX11, cdX11_readPlain, by decide, dsX11_readPlain, by decide⟩
theorem cvX11_213 : od_CV RX11 213 mX11_readClause 11 0 := ⟨lkX11_213, imX11_readClause, seX11_readClause, inX11, cdX11_readClause, by decide, dsX11_readClause, by decide⟩
theorem cvX11_254 : od_CV RX11 254 mX11_lays 11 1 := ⟨lkX11_254, imX11_lays, seX11_lays, inX11, cdX11_lays, by decide, dsX11_lays, by decide⟩
theorem cvL_62 : od_CV RL 62 mX11_fault 11 0 := ⟨lkL_62, imX11_fault, seX11_fault, inX11, cdX11_fault, by decide, dsX11_fault, by decide⟩
theorem cvL_70 : od_CV RL 70 mX11_force 11 1 := ⟨lkL_70, imX11_force, seX11_force, inX11, cdX11_force, by decide, dsX11_force, by decide⟩
theorem cvX11_257 : od_CV RX11 257 mX11_isLaw 11 1 := ⟨lkX11_257, imX11_isLaw, seX11_isLaw, inX11, cdX11_isLaw, by decide, dsX11_isLaw, by decide⟩
theorem cvL_94 : od_CV RL 94 mX11_loud 11 1 := ⟨lkL_94, imX11_loud, seX11_loud, inX11, cdX11_loud, by decide, dsX11_loud, by decide⟩
theorem cvX11_344 : od_CV RX11 344 mX11_loudAt 11 1 := ⟨lkX11_344, imX11_loudAt, seX11_loudAt, inX11, cdX11_loudAt, by decide, dsX11_loudAt, by decide⟩
theorem cvL_98 : od_CV RL 98 mX11_round 11 0 := ⟨lkL_98, imX11_round, seX11_round, inX11, cdX11_round, by decide, dsX11_round, by decide⟩
theorem csX11_347 : od_CS RX11 347 mX11_common 2 := ⟨lkX11_347, stX11_common, inX11, cdX11_common, dsX11_common, by decide⟩
theorem cvL_90 : od_CV RL 90 mX11_undo 11 0 := ⟨lkL_90, imX11_undo, seX11_undo, inX11, cdX11_undo, by decide, dsX11_undo, by decide⟩
theorem cvL_74 : od_CV RL 74 mX11_pin 11 2 := ⟨lkL_74, imX11_pin, seX11_pin, inX11, cdX11_pin, by decide, dsX11_pin, by decide⟩
theorem cvX11_362 : od_CV RX11 362 mX11_pinsKept 11 2 := ⟨lkX11_362, imX11_pinsKept, seX11_pinsKept, inX11, cdX11_pinsKept, by decide, dsX11_pinsKept, by decide⟩
theorem cvX11_353 : od_CV RX11 353 mX11_canPin 11 2 := ⟨lkX11_353, imX11_canPin, seX11_canPin, inX11, cdX11_canPin, by decide, dsX11_canPin, by decide⟩
theorem cvX11_356 : od_CV RX11 356 mX11_keeps 11 1 := ⟨lkX11_356, imX11_keeps, seX11_keeps, inX11, cdX11_keeps, by decide, dsX11_keeps, by decide⟩
theorem cvX11_350 : od_CV RX11 350 mX11_turnsPin 11 2 := ⟨lkX11_350, imX11_turnsPin, seX11_turnsPin, inX11, cdX11_turnsPin, by decide, dsX11_turnsPin, by decide⟩
theorem cvX11_365 : od_CV RX11 365 mX11_goodOr 11 1 := ⟨lkX11_365, imX11_goodOr, seX11_goodOr, inX11, cdX11_goodOr, by decide, dsX11_goodOr, by decide⟩
theorem cvL_78 : od_CV RL 78 mX11_shift 11 2 := ⟨lkL_78, imX11_shift, seX11_shift, inX11, cdX11_shift, by decide, dsX11_shift, by decide⟩
theorem cvX11_368 : od_CV RX11 368 mX11_shiftsKept 11 2 := ⟨lkX11_368, imX11_shiftsKept, seX11_shiftsKept, inX11, cdX11_shiftsKept, by decide, dsX11_shiftsKept, by decide⟩
theorem cvL_82 : od_CV RL 82 mX11_stop 11 1 := ⟨lkL_82, imX11_stop, seX11_stop, inX11, cdX11_stop, by decide, dsX11_stop, by decide⟩
theorem cvX11_371 : od_CV RX11 371 mX11_stopsKept 11 1 := ⟨lkX11_371, imX11_stopsKept, seX11_stopsKept, inX11, cdX11_stopsKept, by decide, dsX11_stopsKept, by decide⟩
theorem cvL_86 : od_CV RL 86 mX11_pass 11 0 := ⟨lkL_86, imX11_pass, seX11_pass, inX11, cdX11_pass, by decide, dsX11_pass, by decide⟩
theorem cvX11_374 : od_CV RX11 374 mX11_passesKept 11 0 := ⟨lkX11_374, imX11_passesKept, seX11_passesKept, inX11, cdX11_passesKept, by decide, dsX11_passesKept, by decide⟩
theorem cvX11_359 : od_CV RX11 359 mX11_hourPasses 11 0 := ⟨lkX11_359, imX11_hourPasses, seX11_hourPasses, inX11, cdX11_hourPasses, by decide, dsX11_hourPasses, by decide⟩
theorem cvL_102 : od_CV RL 102 mX11_when 11 1 := ⟨lkL_102, imX11_when, seX11_when, inX11, cdX11_when, by decide, dsX11_when, by decide⟩
theorem cvX11_386 : od_CV RX11 386 mX11_isSet 11 1 := ⟨lkX11_386, imX11_isSet, seX11_isSet, inX11, cdX11_isSet, by decide, dsX11_isSet, by decide⟩
theorem cvX11_383 : od_CV RX11 383 mX11_laysRound 11 0 := ⟨lkX11_383, imX11_laysRound, seX11_laysRound, inX11, cdX11_laysRound, by decide, dsX11_laysRound, by decide⟩
theorem cvX11_377 : od_CV RX11 377 mX11_round 11 0 := ⟨lkX11_377, imX11_round, seX11_round, inX11, cdX11_round, by decide, dsX11_round, by decide⟩
theorem cvL_106 : od_CV RL 106 mX11_often 11 1 := ⟨lkL_106, imX11_often, seX11_often, inX11, cdX11_often, by decide, dsX11_often, by decide⟩
theorem cvL_110 : od_CV RL 110 mX11_alone 11 1 := ⟨lkL_110, imX11_alone, seX11_alone, inX11, cdX11_alone, by decide, dsX11_alone, by decide⟩
theorem cvL_114 : od_CV RL 114 mX11_loudest 11 1 := ⟨lkL_114, imX11_loudest, seX11_loudest, inX11, cdX11_loudest, by decide, dsX11_loudest, by decide⟩
theorem cvX11_389 : od_CV RX11 389 mX11_laysNoise 11 0 := ⟨lkX11_389, imX11_laysNoise, seX11_laysNoise, inX11, cdX11_laysNoise, by decide, dsX11_laysNoise, by decide⟩
theorem cvL_118 : od_CV RL 118 mX11_quiet 11 1 := ⟨lkL_118, imX11_quiet, seX11_quiet, inX11, cdX11_quiet, by decide, dsX11_quiet, by decide⟩
theorem csX11_392 : od_CS RX11 392 mX11_isBit 1 := ⟨lkX11_392, stX11_isBit, inX11, cdX11_isBit, dsX11_isBit, by decide⟩
theorem cvX11_395 : od_CV RX11 395 mX11_quietFrom 11 1 := ⟨lkX11_395, imX11_quietFrom, seX11_quietFrom, inX11, cdX11_quietFrom, by decide, dsX11_quietFrom, by decide⟩
theorem cvL_122 : od_CV RL 122 mX11_most 11 2 := ⟨lkL_122, imX11_most, seX11_most, inX11, cdX11_most, by decide, dsX11_most, by decide⟩
theorem cvX11_398 : od_CV RX11 398 mX11_together 11 2 := ⟨lkX11_398, imX11_together, seX11_together, inX11, cdX11_together, by decide, dsX11_together, by decide⟩
theorem cvL_126 : od_CV RL 126 mX11_least 11 2 := ⟨lkL_126, imX11_least, seX11_least, inX11, cdX11_least, by decide, dsX11_least, by decide⟩
theorem cvL_130 : od_CV RL 130 mX11_never 11 1 := ⟨lkL_130, imX11_never, seX11_never, inX11, cdX11_never, by decide, dsX11_never, by decide⟩
theorem cvX11_401 : od_CV RX11 401 mX11_laysStrike 11 0 := ⟨lkX11_401, imX11_laysStrike, seX11_laysStrike, inX11, cdX11_laysStrike, by decide, dsX11_laysStrike, by decide⟩
theorem cvL_134 : od_CV RL 134 mX11_add 11 2 := ⟨lkL_134, imX11_add, seX11_add, inX11, cdX11_add, by decide, dsX11_add, by decide⟩
theorem cvX11_404 : od_CV RX11 404 mX11_lacks 11 2 := ⟨lkX11_404, imX11_lacks, seX11_lacks, inX11, cdX11_lacks, by decide, dsX11_lacks, by decide⟩
theorem cvL_138 : od_CV RL 138 mX11_tune 11 0 := ⟨lkL_138, imX11_tune, seX11_tune, inX11, cdX11_tune, by decide, dsX11_tune, by decide⟩
theorem cvX11_407 : od_CV RX11 407 mX11_isTune 11 1 := ⟨lkX11_407, imX11_isTune, seX11_isTune, inX11, cdX11_isTune, by decide, dsX11_isTune, by decide⟩
theorem cvL_163 : od_CV RL 163 mX11_compare 11 1 := ⟨lkL_163, imX11_compare, seX11_compare, inX11, cdX11_compare, by decide, dsX11_compare, by decide⟩
theorem cvL_142 : od_CV RL 142 mX11_heard 11 2 := ⟨lkL_142, imX11_heard, seX11_heard, inX11, cdX11_heard, by decide, dsX11_heard, by decide⟩
theorem cvL_146 : od_CV RL 146 mX11_forget 11 0 := ⟨lkL_146, imX11_forget, seX11_forget, inX11, cdX11_forget, by decide, dsX11_forget, by decide⟩
theorem cvL_150 : od_CV RL 150 mX11_canBe 11 0 := ⟨lkL_150, imX11_canBe, seX11_canBe, inX11, cdX11_canBe, by decide, dsX11_canBe, by decide⟩
theorem cvX11_410 : od_CV RX11 410 mX11_isSo 11 1 := ⟨lkX11_410, imX11_isSo, seX11_isSo, inX11, cdX11_isSo, by decide, dsX11_isSo, by decide⟩
theorem cvL_154 : od_CV RL 154 mX11_listen 11 1 := ⟨lkL_154, imX11_listen, seX11_listen, inX11, cdX11_listen, by decide, dsX11_listen, by decide⟩
theorem cvX11_416 : od_CV RX11 416 mX11_canBe 11 0 := ⟨lkX11_416, imX11_canBe, seX11_canBe, inX11, cdX11_canBe, by decide, dsX11_canBe, by decide⟩
theorem cvX11_419 : od_CV RX11 419 mX11_moreAt 11 2 := ⟨lkX11_419, imX11_moreAt, seX11_moreAt, inX11, cdX11_moreAt, by decide, dsX11_moreAt, by decide⟩
theorem csX11_413 : od_CS RX11 413 mX11_greater 2 := ⟨lkX11_413, stX11_greater, inX11, cdX11_greater, dsX11_greater, by decide⟩
theorem cvL_159 : od_CV RL 159 mX11_few 11 2 := ⟨lkL_159, imX11_few, seX11_few, inX11, cdX11_few, by decide, dsX11_few, by decide⟩
theorem cvL_66 : od_CV RL 66 mX11_stopped 11 0 := ⟨lkL_66, imX11_stopped, seX11_stopped, inX11, cdX11_stopped, by decide, dsX11_stopped, by decide⟩
theorem cvL_58 : od_CV RL 58 mX11_orders 11 0 := ⟨lkL_58, imX11_orders, seX11_orders, inX11, cdX11_orders, by decide, dsX11_orders, by decide⟩
theorem cvX11_428 : od_CV RX11 428 mX11_laysAside 11 1 := ⟨lkX11_428, imX11_laysAside, seX11_laysAside, inX11, cdX11_laysAside, by decide, dsX11_laysAside, by decide⟩
theorem cvX11_434 : od_CV RX11 434 mX11_runs 11 1 := ⟨lkX11_434, imX11_runs, seX11_runs, inX11, cdX11_runs, by decide, dsX11_runs, by decide⟩
theorem cvX11_458 : od_CV RX11 458 mX11_goesAlong 11 2 := ⟨lkX11_458, imX11_goesAlong, seX11_goesAlong, inX11, cdX11_goesAlong, by decide, dsX11_goesAlong, by decide⟩
theorem cvX11_462 : od_CV RX11 462 mX11_obeys 11 0 := ⟨lkX11_462, imX11_obeys, seX11_obeys, inX11, cdX11_obeys, by decide, dsX11_obeys, by decide⟩
theorem csX11_454 : od_CS RX11 454 mX11_small 1 := ⟨lkX11_454, stX11_small, inX11, cdX11_small, dsX11_small, by decide⟩
theorem cvX11_437 : od_CV RX11 437 mX11_takesBack 11 1 := ⟨lkX11_437, imX11_takesBack, seX11_takesBack, inX11, cdX11_takesBack, by decide, dsX11_takesBack, by decide⟩
theorem cvL_167 : od_CV RL 167 mX11_days 11 2 := ⟨lkL_167, imX11_days, seX11_days, inX11, cdX11_days, by decide, dsX11_days, by decide⟩
theorem cvX11_474 : od_CV RX11 474 mX11_draws 11 1 := ⟨lkX11_474, imX11_draws, seX11_draws, inX11, cdX11_draws, by decide, dsX11_draws, by decide⟩
theorem cvL_171 : od_CV RL 171 mX11_drawn 11 2 := ⟨lkL_171, imX11_drawn, seX11_drawn, inX11, cdX11_drawn, by decide, dsX11_drawn, by decide⟩
theorem cvL_183 : od_CV RL 183 mX11_count 11 1 := ⟨lkL_183, imX11_count, seX11_count, inX11, cdX11_count, by decide, dsX11_count, by decide⟩
theorem cvX11_477 : od_CV RX11 477 mX11_strikingNow 11 0 := ⟨lkX11_477, imX11_strikingNow, seX11_strikingNow, inX11, cdX11_strikingNow, by decide, dsX11_strikingNow, by decide⟩
theorem cvL_187 : od_CV RL 187 mX11_status 11 0 := ⟨lkL_187, imX11_status, seX11_status, inX11, cdX11_status, by decide, dsX11_status, by decide⟩
theorem gf0_0 : 0 < 12 ∧ 0 < od_N 0 ∧ od_isr 0 0 = true := ⟨by decide, by decide, rfl⟩
theorem gf0_1 : 0 < 12 ∧ 1 < od_N 0 ∧ od_isr 0 1 = true := ⟨by decide, by decide, rfl⟩
theorem gf1_0 : 1 < 12 ∧ 0 < od_N 1 ∧ od_isr 1 0 = true := ⟨by decide, by decide, rfl⟩
theorem gf2_0 : 2 < 12 ∧ 0 < od_N 2 ∧ od_isr 2 0 = true := ⟨by decide, by decide, rfl⟩
theorem gf2_1 : 2 < 12 ∧ 1 < od_N 2 ∧ od_isr 2 1 = true := ⟨by decide, by decide, rfl⟩
theorem gf2_2 : 2 < 12 ∧ 2 < od_N 2 ∧ od_isr 2 2 = true := ⟨by decide, by decide, rfl⟩
theorem gf2_3 : 2 < 12 ∧ 3 < od_N 2 ∧ od_isr 2 3 = true := ⟨by decide, by decide, rfl⟩
theorem gf2_4 : 2 < 12 ∧ 4 < od_N 2 ∧ od_isr 2 4 = true := ⟨by decide, by decide, rfl⟩
theorem gf2_5 : 2 < 12 ∧ 5 < od_N 2 ∧ od_isr 2 5 = false := ⟨by decide, by decide, rfl⟩
theorem pf2_5 : (od_T 2 5).2.2.2 = false ∧ od_ty 2 5 = .int := ⟨rfl, rfl⟩
theorem gf2_6 : 2 < 12 ∧ 6 < od_N 2 ∧ od_isr 2 6 = false := ⟨by decide, by decide, rfl⟩
theorem pf2_6 : (od_T 2 6).2.2.2 = false ∧ od_ty 2 6 = .int := ⟨rfl, rfl⟩
theorem gf3_0 : 3 < 12 ∧ 0 < od_N 3 ∧ od_isr 3 0 = true := ⟨by decide, by decide, rfl⟩
theorem gf3_1 : 3 < 12 ∧ 1 < od_N 3 ∧ od_isr 3 1 = true := ⟨by decide, by decide, rfl⟩
theorem gf3_2 : 3 < 12 ∧ 2 < od_N 3 ∧ od_isr 3 2 = false := ⟨by decide, by decide, rfl⟩
theorem pf3_2 : (od_T 3 2).2.2.2 = false ∧ od_ty 3 2 = .boolean := ⟨rfl, rfl⟩
theorem gf3_3 : 3 < 12 ∧ 3 < od_N 3 ∧ od_isr 3 3 = false := ⟨by decide, by decide, rfl⟩
theorem pf3_3 : (od_T 3 3).2.2.2 = false ∧ od_ty 3 3 = .int := ⟨rfl, rfl⟩
theorem gf3_4 : 3 < 12 ∧ 4 < od_N 3 ∧ od_isr 3 4 = false := ⟨by decide, by decide, rfl⟩
theorem pf3_4 : (od_T 3 4).2.2.2 = false ∧ od_ty 3 4 = .int := ⟨rfl, rfl⟩
theorem gf3_5 : 3 < 12 ∧ 5 < od_N 3 ∧ od_isr 3 5 = false := ⟨by decide, by decide, rfl⟩
theorem pf3_5 : (od_T 3 5).2.2.2 = false ∧ od_ty 3 5 = .int := ⟨rfl, rfl⟩
theorem gf3_6 : 3 < 12 ∧ 6 < od_N 3 ∧ od_isr 3 6 = false := ⟨by decide, by decide, rfl⟩
theorem pf3_6 : (od_T 3 6).2.2.2 = false ∧ od_ty 3 6 = .int := ⟨rfl, rfl⟩
theorem gf3_7 : 3 < 12 ∧ 7 < od_N 3 ∧ od_isr 3 7 = false := ⟨by decide, by decide, rfl⟩
theorem pf3_7 : (od_T 3 7).2.2.2 = false ∧ od_ty 3 7 = .int := ⟨rfl, rfl⟩
theorem gf3_8 : 3 < 12 ∧ 8 < od_N 3 ∧ od_isr 3 8 = false := ⟨by decide, by decide, rfl⟩
theorem pf3_8 : (od_T 3 8).2.2.2 = false ∧ od_ty 3 8 = .int := ⟨rfl, rfl⟩
theorem gf4_0 : 4 < 12 ∧ 0 < od_N 4 ∧ od_isr 4 0 = true := ⟨by decide, by decide, rfl⟩
theorem gf4_1 : 4 < 12 ∧ 1 < od_N 4 ∧ od_isr 4 1 = true := ⟨by decide, by decide, rfl⟩
theorem gf4_2 : 4 < 12 ∧ 2 < od_N 4 ∧ od_isr 4 2 = true := ⟨by decide, by decide, rfl⟩
theorem gf4_3 : 4 < 12 ∧ 3 < od_N 4 ∧ od_isr 4 3 = true := ⟨by decide, by decide, rfl⟩
theorem gf4_4 : 4 < 12 ∧ 4 < od_N 4 ∧ od_isr 4 4 = true := ⟨by decide, by decide, rfl⟩
theorem gf4_5 : 4 < 12 ∧ 5 < od_N 4 ∧ od_isr 4 5 = true := ⟨by decide, by decide, rfl⟩
theorem gf4_6 : 4 < 12 ∧ 6 < od_N 4 ∧ od_isr 4 6 = true := ⟨by decide, by decide, rfl⟩
theorem gf4_7 : 4 < 12 ∧ 7 < od_N 4 ∧ od_isr 4 7 = false := ⟨by decide, by decide, rfl⟩
theorem pf4_7 : (od_T 4 7).2.2.2 = false ∧ od_ty 4 7 = .int := ⟨rfl, rfl⟩
theorem gf4_8 : 4 < 12 ∧ 8 < od_N 4 ∧ od_isr 4 8 = false := ⟨by decide, by decide, rfl⟩
theorem pf4_8 : (od_T 4 8).2.2.2 = false ∧ od_ty 4 8 = .int := ⟨rfl, rfl⟩
theorem gf4_9 : 4 < 12 ∧ 9 < od_N 4 ∧ od_isr 4 9 = false := ⟨by decide, by decide, rfl⟩
theorem pf4_9 : (od_T 4 9).2.2.2 = false ∧ od_ty 4 9 = .int := ⟨rfl, rfl⟩
theorem gf5_0 : 5 < 12 ∧ 0 < od_N 5 ∧ od_isr 5 0 = true := ⟨by decide, by decide, rfl⟩
theorem gf5_1 : 5 < 12 ∧ 1 < od_N 5 ∧ od_isr 5 1 = true := ⟨by decide, by decide, rfl⟩
theorem gf5_2 : 5 < 12 ∧ 2 < od_N 5 ∧ od_isr 5 2 = true := ⟨by decide, by decide, rfl⟩
theorem gf5_3 : 5 < 12 ∧ 3 < od_N 5 ∧ od_isr 5 3 = false := ⟨by decide, by decide, rfl⟩
theorem pf5_3 : (od_T 5 3).2.2.2 = false ∧ od_ty 5 3 = .int := ⟨rfl, rfl⟩
theorem gf5_4 : 5 < 12 ∧ 4 < od_N 5 ∧ od_isr 5 4 = false := ⟨by decide, by decide, rfl⟩
theorem pf5_4 : (od_T 5 4).2.2.2 = false ∧ od_ty 5 4 = .int := ⟨rfl, rfl⟩
theorem gf6_0 : 6 < 12 ∧ 0 < od_N 6 ∧ od_isr 6 0 = true := ⟨by decide, by decide, rfl⟩
theorem gf6_1 : 6 < 12 ∧ 1 < od_N 6 ∧ od_isr 6 1 = true := ⟨by decide, by decide, rfl⟩
theorem gf6_2 : 6 < 12 ∧ 2 < od_N 6 ∧ od_isr 6 2 = true := ⟨by decide, by decide, rfl⟩
theorem gf6_3 : 6 < 12 ∧ 3 < od_N 6 ∧ od_isr 6 3 = true := ⟨by decide, by decide, rfl⟩
theorem gf6_4 : 6 < 12 ∧ 4 < od_N 6 ∧ od_isr 6 4 = true := ⟨by decide, by decide, rfl⟩
theorem gf6_5 : 6 < 12 ∧ 5 < od_N 6 ∧ od_isr 6 5 = true := ⟨by decide, by decide, rfl⟩
theorem gf6_6 : 6 < 12 ∧ 6 < od_N 6 ∧ od_isr 6 6 = true := ⟨by decide, by decide, rfl⟩
theorem gf6_7 : 6 < 12 ∧ 7 < od_N 6 ∧ od_isr 6 7 = true := ⟨by decide, by decide, rfl⟩
theorem gf6_8 : 6 < 12 ∧ 8 < od_N 6 ∧ od_isr 6 8 = false := ⟨by decide, by decide, rfl⟩
theorem pf6_8 : (od_T 6 8).2.2.2 = false ∧ od_ty 6 8 = .int := ⟨rfl, rfl⟩
theorem gf6_9 : 6 < 12 ∧ 9 < od_N 6 ∧ od_isr 6 9 = false := ⟨by decide, by decide, rfl⟩
theorem pf6_9 : (od_T 6 9).2.2.2 = false ∧ od_ty 6 9 = .int := ⟨rfl, rfl⟩
theorem gf6_10 : 6 < 12 ∧ 10 < od_N 6 ∧ od_isr 6 10 = false := ⟨by decide, by decide, rfl⟩
theorem pf6_10 : (od_T 6 10).2.2.2 = false ∧ od_ty 6 10 = .int := ⟨rfl, rfl⟩
theorem gf6_11 : 6 < 12 ∧ 11 < od_N 6 ∧ od_isr 6 11 = false := ⟨by decide, by decide, rfl⟩
theorem pf6_11 : (od_T 6 11).2.2.2 = false ∧ od_ty 6 11 = .int := ⟨rfl, rfl⟩
theorem gf6_12 : 6 < 12 ∧ 12 < od_N 6 ∧ od_isr 6 12 = false := ⟨by decide, by decide, rfl⟩
theorem pf6_12 : (od_T 6 12).2.2.2 = false ∧ od_ty 6 12 = .int := ⟨rfl, rfl⟩
theorem gf7_0 : 7 < 12 ∧ 0 < od_N 7 ∧ od_isr 7 0 = true := ⟨by decide, by decide, rfl⟩
theorem gf8_0 : 8 < 12 ∧ 0 < od_N 8 ∧ od_isr 8 0 = true := ⟨by decide, by decide, rfl⟩
theorem gf8_1 : 8 < 12 ∧ 1 < od_N 8 ∧ od_isr 8 1 = false := ⟨by decide, by decide, rfl⟩
theorem pf8_1 : (od_T 8 1).2.2.2 = false ∧ od_ty 8 1 = .int := ⟨rfl, rfl⟩
theorem gf9_0 : 9 < 12 ∧ 0 < od_N 9 ∧ od_isr 9 0 = true := ⟨by decide, by decide, rfl⟩
theorem gf9_1 : 9 < 12 ∧ 1 < od_N 9 ∧ od_isr 9 1 = true := ⟨by decide, by decide, rfl⟩
theorem gf9_2 : 9 < 12 ∧ 2 < od_N 9 ∧ od_isr 9 2 = true := ⟨by decide, by decide, rfl⟩
theorem gf9_3 : 9 < 12 ∧ 3 < od_N 9 ∧ od_isr 9 3 = true := ⟨by decide, by decide, rfl⟩
theorem gf9_4 : 9 < 12 ∧ 4 < od_N 9 ∧ od_isr 9 4 = true := ⟨by decide, by decide, rfl⟩
theorem gf9_5 : 9 < 12 ∧ 5 < od_N 9 ∧ od_isr 9 5 = true := ⟨by decide, by decide, rfl⟩
theorem gf9_6 : 9 < 12 ∧ 6 < od_N 9 ∧ od_isr 9 6 = false := ⟨by decide, by decide, rfl⟩
theorem pf9_6 : (od_T 9 6).2.2.2 = false ∧ od_ty 9 6 = .int := ⟨rfl, rfl⟩
theorem gf9_7 : 9 < 12 ∧ 7 < od_N 9 ∧ od_isr 9 7 = false := ⟨by decide, by decide, rfl⟩
theorem pf9_7 : (od_T 9 7).2.2.2 = false ∧ od_ty 9 7 = .int := ⟨rfl, rfl⟩
theorem gf10_0 : 10 < 12 ∧ 0 < od_N 10 ∧ od_isr 10 0 = true := ⟨by decide, by decide, rfl⟩
theorem gf10_1 : 10 < 12 ∧ 1 < od_N 10 ∧ od_isr 10 1 = true := ⟨by decide, by decide, rfl⟩
theorem gf10_2 : 10 < 12 ∧ 2 < od_N 10 ∧ od_isr 10 2 = true := ⟨by decide, by decide, rfl⟩
theorem gf10_3 : 10 < 12 ∧ 3 < od_N 10 ∧ od_isr 10 3 = true := ⟨by decide, by decide, rfl⟩
theorem gf10_4 : 10 < 12 ∧ 4 < od_N 10 ∧ od_isr 10 4 = true := ⟨by decide, by decide, rfl⟩
theorem gf10_5 : 10 < 12 ∧ 5 < od_N 10 ∧ od_isr 10 5 = true := ⟨by decide, by decide, rfl⟩
theorem gf10_6 : 10 < 12 ∧ 6 < od_N 10 ∧ od_isr 10 6 = true := ⟨by decide, by decide, rfl⟩
theorem gf10_7 : 10 < 12 ∧ 7 < od_N 10 ∧ od_isr 10 7 = true := ⟨by decide, by decide, rfl⟩
theorem gf10_8 : 10 < 12 ∧ 8 < od_N 10 ∧ od_isr 10 8 = true := ⟨by decide, by decide, rfl⟩
theorem gf10_9 : 10 < 12 ∧ 9 < od_N 10 ∧ od_isr 10 9 = true := ⟨by decide, by decide, rfl⟩
theorem gf10_10 : 10 < 12 ∧ 10 < od_N 10 ∧ od_isr 10 10 = true := ⟨by decide, by decide, rfl⟩
theorem gf10_11 : 10 < 12 ∧ 11 < od_N 10 ∧ od_isr 10 11 = true := ⟨by decide, by decide, rfl⟩
theorem gf10_12 : 10 < 12 ∧ 12 < od_N 10 ∧ od_isr 10 12 = true := ⟨by decide, by decide, rfl⟩
theorem gf10_13 : 10 < 12 ∧ 13 < od_N 10 ∧ od_isr 10 13 = true := ⟨by decide, by decide, rfl⟩
theorem gf10_14 : 10 < 12 ∧ 14 < od_N 10 ∧ od_isr 10 14 = true := ⟨by decide, by decide, rfl⟩
theorem gf10_15 : 10 < 12 ∧ 15 < od_N 10 ∧ od_isr 10 15 = false := ⟨by decide, by decide, rfl⟩
theorem pf10_15 : (od_T 10 15).2.2.2 = false ∧ od_ty 10 15 = .int := ⟨rfl, rfl⟩
theorem gf10_16 : 10 < 12 ∧ 16 < od_N 10 ∧ od_isr 10 16 = false := ⟨by decide, by decide, rfl⟩
theorem pf10_16 : (od_T 10 16).2.2.2 = false ∧ od_ty 10 16 = .int := ⟨rfl, rfl⟩
theorem gf10_17 : 10 < 12 ∧ 17 < od_N 10 ∧ od_isr 10 17 = false := ⟨by decide, by decide, rfl⟩
theorem pf10_17 : (od_T 10 17).2.2.2 = false ∧ od_ty 10 17 = .int := ⟨rfl, rfl⟩
theorem gf10_18 : 10 < 12 ∧ 18 < od_N 10 ∧ od_isr 10 18 = false := ⟨by decide, by decide, rfl⟩
theorem pf10_18 : (od_T 10 18).2.2.2 = false ∧ od_ty 10 18 = .int := ⟨rfl, rfl⟩
theorem gf11_0 : 11 < 12 ∧ 0 < od_N 11 ∧ od_isr 11 0 = false := ⟨by decide, by decide, rfl⟩
theorem pf11_0 : (od_T 11 0).2.2.2 = false ∧ od_ty 11 0 = .int := ⟨rfl, rfl⟩
theorem gf11_1 : 11 < 12 ∧ 1 < od_N 11 ∧ od_isr 11 1 = true := ⟨by decide, by decide, rfl⟩
theorem gf11_2 : 11 < 12 ∧ 2 < od_N 11 ∧ od_isr 11 2 = true := ⟨by decide, by decide, rfl⟩
theorem gf11_3 : 11 < 12 ∧ 3 < od_N 11 ∧ od_isr 11 3 = true := ⟨by decide, by decide, rfl⟩
theorem gf11_4 : 11 < 12 ∧ 4 < od_N 11 ∧ od_isr 11 4 = true := ⟨by decide, by decide, rfl⟩
theorem gf11_5 : 11 < 12 ∧ 5 < od_N 11 ∧ od_isr 11 5 = true := ⟨by decide, by decide, rfl⟩
theorem gf11_6 : 11 < 12 ∧ 6 < od_N 11 ∧ od_isr 11 6 = false := ⟨by decide, by decide, rfl⟩
theorem pf11_6 : (od_T 11 6).2.2.2 = false ∧ od_ty 11 6 = .int := ⟨rfl, rfl⟩
theorem gf11_7 : 11 < 12 ∧ 7 < od_N 11 ∧ od_isr 11 7 = true := ⟨by decide, by decide, rfl⟩
theorem gf11_8 : 11 < 12 ∧ 8 < od_N 11 ∧ od_isr 11 8 = false := ⟨by decide, by decide, rfl⟩
theorem pf11_8 : (od_T 11 8).2.2.2 = false ∧ od_ty 11 8 = .int := ⟨rfl, rfl⟩
theorem gf11_9 : 11 < 12 ∧ 9 < od_N 11 ∧ od_isr 11 9 = false := ⟨by decide, by decide, rfl⟩
theorem pf11_9 : (od_T 11 9).2.2.2 = false ∧ od_ty 11 9 = .int := ⟨rfl, rfl⟩
theorem gf11_10 : 11 < 12 ∧ 10 < od_N 11 ∧ od_isr 11 10 = false := ⟨by decide, by decide, rfl⟩
theorem pf11_10 : (od_T 11 10).2.2.2 = false ∧ od_ty 11 10 = .boolean := ⟨rfl, rfl⟩
theorem gf11_11 : 11 < 12 ∧ 11 < od_N 11 ∧ od_isr 11 11 = true := ⟨by decide, by decide, rfl⟩
theorem gf11_12 : 11 < 12 ∧ 12 < od_N 11 ∧ od_isr 11 12 = true := ⟨by decide, by decide, rfl⟩
theorem gf11_13 : 11 < 12 ∧ 13 < od_N 11 ∧ od_isr 11 13 = false := ⟨by decide, by decide, rfl⟩
theorem pf11_13 : (od_T 11 13).2.2.2 = false ∧ od_ty 11 13 = .int := ⟨rfl, rfl⟩
theorem gf11_14 : 11 < 12 ∧ 14 < od_N 11 ∧ od_isr 11 14 = false := ⟨by decide, by decide, rfl⟩
theorem pf11_14 : (od_T 11 14).2.2.2 = false ∧ od_ty 11 14 = .int := ⟨rfl, rfl⟩
theorem gf11_15 : 11 < 12 ∧ 15 < od_N 11 ∧ od_isr 11 15 = true := ⟨by decide, by decide, rfl⟩
theorem gf11_16 : 11 < 12 ∧ 16 < od_N 11 ∧ od_isr 11 16 = true := ⟨by decide, by decide, rfl⟩
theorem gf11_17 : 11 < 12 ∧ 17 < od_N 11 ∧ od_isr 11 17 = true := ⟨by decide, by decide, rfl⟩
theorem gf11_18 : 11 < 12 ∧ 18 < od_N 11 ∧ od_isr 11 18 = false := ⟨by decide, by decide, rfl⟩
theorem pf11_18 : (od_T 11 18).2.2.2 = false ∧ od_ty 11 18 = .int := ⟨rfl, rfl⟩
theorem gf11_19 : 11 < 12 ∧ 19 < od_N 11 ∧ od_isr 11 19 = false := ⟨by decide, by decide, rfl⟩
theorem pf11_19 : (od_T 11 19).2.2.2 = false ∧ od_ty 11 19 = .int := ⟨rfl, rfl⟩
theorem gf11_20 : 11 < 12 ∧ 20 < od_N 11 ∧ od_isr 11 20 = false := ⟨by decide, by decide, rfl⟩
theorem pf11_20 : (od_T 11 20).2.2.2 = false ∧ od_ty 11 20 = .int := ⟨rfl, rfl⟩
theorem gf11_21 : 11 < 12 ∧ 21 < od_N 11 ∧ od_isr 11 21 = false := ⟨by decide, by decide, rfl⟩
theorem pf11_21 : (od_T 11 21).2.2.2 = false ∧ od_ty 11 21 = .int := ⟨rfl, rfl⟩
theorem gf11_22 : 11 < 12 ∧ 22 < od_N 11 ∧ od_isr 11 22 = false := ⟨by decide, by decide, rfl⟩
theorem pf11_22 : (od_T 11 22).2.2.2 = false ∧ od_ty 11 22 = .int := ⟨rfl, rfl⟩
theorem gf11_23 : 11 < 12 ∧ 23 < od_N 11 ∧ od_isr 11 23 = false := ⟨by decide, by decide, rfl⟩
theorem pf11_23 : (od_T 11 23).2.2.2 = false ∧ od_ty 11 23 = .int := ⟨rfl, rfl⟩
theorem gf11_24 : 11 < 12 ∧ 24 < od_N 11 ∧ od_isr 11 24 = false := ⟨by decide, by decide, rfl⟩
theorem pf11_24 : (od_T 11 24).2.2.2 = false ∧ od_ty 11 24 = .boolean := ⟨rfl, rfl⟩
theorem gf11_25 : 11 < 12 ∧ 25 < od_N 11 ∧ od_isr 11 25 = false := ⟨by decide, by decide, rfl⟩
theorem pf11_25 : (od_T 11 25).2.2.2 = false ∧ od_ty 11 25 = .boolean := ⟨rfl, rfl⟩
theorem gf11_26 : 11 < 12 ∧ 26 < od_N 11 ∧ od_isr 11 26 = true := ⟨by decide, by decide, rfl⟩
theorem gf11_27 : 11 < 12 ∧ 27 < od_N 11 ∧ od_isr 11 27 = false := ⟨by decide, by decide, rfl⟩
theorem pf11_27 : (od_T 11 27).2.2.2 = false ∧ od_ty 11 27 = .int := ⟨rfl, rfl⟩
theorem gf11_28 : 11 < 12 ∧ 28 < od_N 11 ∧ od_isr 11 28 = false := ⟨by decide, by decide, rfl⟩
theorem pf11_28 : (od_T 11 28).2.2.2 = false ∧ od_ty 11 28 = .int := ⟨rfl, rfl⟩
theorem gf11_29 : 11 < 12 ∧ 29 < od_N 11 ∧ od_isr 11 29 = false := ⟨by decide, by decide, rfl⟩
theorem pf11_29 : (od_T 11 29).2.2.2 = false ∧ od_ty 11 29 = .int := ⟨rfl, rfl⟩
theorem gf11_30 : 11 < 12 ∧ 30 < od_N 11 ∧ od_isr 11 30 = true := ⟨by decide, by decide, rfl⟩
theorem gf11_31 : 11 < 12 ∧ 31 < od_N 11 ∧ od_isr 11 31 = true := ⟨by decide, by decide, rfl⟩
theorem gf11_32 : 11 < 12 ∧ 32 < od_N 11 ∧ od_isr 11 32 = true := ⟨by decide, by decide, rfl⟩
theorem gf11_33 : 11 < 12 ∧ 33 < od_N 11 ∧ od_isr 11 33 = false := ⟨by decide, by decide, rfl⟩
theorem pf11_33 : (od_T 11 33).2.2.2 = false ∧ od_ty 11 33 = .int := ⟨rfl, rfl⟩
theorem gf11_34 : 11 < 12 ∧ 34 < od_N 11 ∧ od_isr 11 34 = true := ⟨by decide, by decide, rfl⟩
theorem gf11_35 : 11 < 12 ∧ 35 < od_N 11 ∧ od_isr 11 35 = true := ⟨by decide, by decide, rfl⟩
theorem gf11_36 : 11 < 12 ∧ 36 < od_N 11 ∧ od_isr 11 36 = true := ⟨by decide, by decide, rfl⟩
theorem gf11_37 : 11 < 12 ∧ 37 < od_N 11 ∧ od_isr 11 37 = false := ⟨by decide, by decide, rfl⟩
theorem pf11_37 : (od_T 11 37).2.2.2 = false ∧ od_ty 11 37 = .int := ⟨rfl, rfl⟩
theorem gf11_38 : 11 < 12 ∧ 38 < od_N 11 ∧ od_isr 11 38 = true := ⟨by decide, by decide, rfl⟩
theorem gf11_39 : 11 < 12 ∧ 39 < od_N 11 ∧ od_isr 11 39 = true := ⟨by decide, by decide, rfl⟩
theorem gf11_40 : 11 < 12 ∧ 40 < od_N 11 ∧ od_isr 11 40 = true := ⟨by decide, by decide, rfl⟩
theorem gf11_41 : 11 < 12 ∧ 41 < od_N 11 ∧ od_isr 11 41 = false := ⟨by decide, by decide, rfl⟩
theorem pf11_41 : (od_T 11 41).2.2.2 = false ∧ od_ty 11 41 = .int := ⟨rfl, rfl⟩
theorem gf11_42 : 11 < 12 ∧ 42 < od_N 11 ∧ od_isr 11 42 = false := ⟨by decide, by decide, rfl⟩
theorem pf11_42 : (od_T 11 42).2.2.2 = false ∧ od_ty 11 42 = .int := ⟨rfl, rfl⟩
theorem gf11_43 : 11 < 12 ∧ 43 < od_N 11 ∧ od_isr 11 43 = false := ⟨by decide, by decide, rfl⟩
theorem pf11_43 : (od_T 11 43).2.2.2 = false ∧ od_ty 11 43 = .int := ⟨rfl, rfl⟩
theorem gf11_44 : 11 < 12 ∧ 44 < od_N 11 ∧ od_isr 11 44 = false := ⟨by decide, by decide, rfl⟩
theorem pf11_44 : (od_T 11 44).2.2.2 = false ∧ od_ty 11 44 = .int := ⟨rfl, rfl⟩
theorem gf11_45 : 11 < 12 ∧ 45 < od_N 11 ∧ od_isr 11 45 = false := ⟨by decide, by decide, rfl⟩
theorem pf11_45 : (od_T 11 45).2.2.2 = false ∧ od_ty 11 45 = .boolean := ⟨rfl, rfl⟩
theorem gf11_46 : 11 < 12 ∧ 46 < od_N 11 ∧ od_isr 11 46 = false := ⟨by decide, by decide, rfl⟩
theorem pf11_46 : (od_T 11 46).2.2.2 = false ∧ od_ty 11 46 = .boolean := ⟨rfl, rfl⟩
theorem gf11_47 : 11 < 12 ∧ 47 < od_N 11 ∧ od_isr 11 47 = true := ⟨by decide, by decide, rfl⟩
theorem gf11_48 : 11 < 12 ∧ 48 < od_N 11 ∧ od_isr 11 48 = true := ⟨by decide, by decide, rfl⟩
theorem gf11_49 : 11 < 12 ∧ 49 < od_N 11 ∧ od_isr 11 49 = false := ⟨by decide, by decide, rfl⟩
theorem pf11_49 : (od_T 11 49).2.2.2 = false ∧ od_ty 11 49 = .int := ⟨rfl, rfl⟩
theorem gf11_50 : 11 < 12 ∧ 50 < od_N 11 ∧ od_isr 11 50 = false := ⟨by decide, by decide, rfl⟩
theorem pf11_50 : (od_T 11 50).2.2.2 = false ∧ od_ty 11 50 = .int := ⟨rfl, rfl⟩
