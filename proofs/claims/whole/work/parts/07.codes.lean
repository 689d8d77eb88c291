set_option maxRecDepth 100000 in
theorem am_yc0 : lw_tbl[350]? = some (.code yX0_init cX0_init 1 none) := rfl
set_option maxRecDepth 100000 in
theorem am_yc1 : lw_tbl[586]? = some (.code yX0_become cX0_become 7 none) := rfl
set_option maxRecDepth 100000 in
theorem am_yc2 : lw_tbl[1014]? = some (.code yX0_upperNumber cX0_upperNumber 1 (some .long)) := rfl
set_option maxRecDepth 100000 in
theorem am_yc3 : lw_tbl[1022]? = some (.code yX0_lowerNumber cX0_lowerNumber 1 (some .long)) := rfl
set_option maxRecDepth 100000 in
theorem am_yc4 : lw_tbl[592]? = some (.code yX0_commonDivisor cX0_commonDivisor 11 (some .long)) := rfl
set_option maxRecDepth 100000 in
theorem am_yc5 : lw_tbl[324]? = some (.code yX1_init cX1_init 1 none) := rfl
set_option maxRecDepth 100000 in
theorem am_yc6 : lw_tbl[978]? = some (.code yX1_isFull cX1_isFull 1 (some .boolean)) := rfl
set_option maxRecDepth 100000 in
theorem am_yc7 : lw_tbl[983]? = some (.code yX1_add cX1_add 4 none) := rfl
set_option maxRecDepth 100000 in
theorem am_yc8 : lw_tbl[992]? = some (.code yX1_partInto cX1_partInto 5 none) := rfl
set_option maxRecDepth 100000 in
theorem am_yc9 : lw_tbl[1001]? = some (.code yX1_fairInto cX1_fairInto 10 (some .boolean)) := rfl
set_option maxRecDepth 100000 in
theorem am_yc10 : lw_tbl[1006]? = some (.code yX1_partsOver cX1_partsOver 9 (some .long)) := rfl
set_option maxRecDepth 100000 in
theorem am_yc11 : lw_tbl[145]? = some (.code yX2_init cX2_init 1 none) := rfl
set_option maxRecDepth 100000 in
theorem am_yc12 : lw_tbl[557]? = some (.code yX2_isFull cX2_isFull 1 (some .boolean)) := rfl
set_option maxRecDepth 100000 in
theorem am_yc13 : lw_tbl[561]? = some (.code yX2_add cX2_add 4 none) := rfl
set_option maxRecDepth 100000 in
theorem am_yc14 : lw_tbl[570]? = some (.code yX2_readInto cX2_readInto 14 (some .boolean)) := rfl
set_option maxRecDepth 100000 in
theorem am_yc15 : lw_tbl[574]? = some (.code yX2_nearest cX2_nearest 6 (some .int)) := rfl
set_option maxRecDepth 100000 in
theorem am_yc16 : lw_tbl[578]? = some (.code yX2_manyOf cX2_manyOf 6 (some .long)) := rfl
set_option maxRecDepth 100000 in
theorem am_yc17 : lw_tbl[582]? = some (.code yX2_sumOf cX2_sumOf 6 (some .long)) := rfl
set_option maxRecDepth 100000 in
theorem am_yc18 : lw_tbl[164]? = some (.code yX3_init cX3_init 2 none) := rfl
set_option maxRecDepth 100000 in
theorem am_yc19 : lw_tbl[600]? = some (.code yX3_beginWith cX3_beginWith 6 none) := rfl
set_option maxRecDepth 100000 in
theorem am_yc20 : lw_tbl[613]? = some (.code yX3_bestBounce cX3_bestBounce 3 (some .int)) := rfl
set_option maxRecDepth 100000 in
theorem am_yc21 : lw_tbl[631]? = some (.code yX3_worksOn cX3_worksOn 2 (some .int)) := rfl
set_option maxRecDepth 100000 in
theorem am_yc22 : lw_tbl[617]? = some (.code yX3_tryFrom cX3_tryFrom 8 none) := rfl
set_option maxRecDepth 100000 in
theorem am_yc23 : lw_tbl[621]? = some (.code yX3_weigh cX3_weigh 4 none) := rfl
set_option maxRecDepth 100000 in
theorem am_yc24 : lw_tbl[216]? = some (.code yX4_init cX4_init 1 none) := rfl
set_option maxRecDepth 100000 in
theorem am_yc25 : lw_tbl[659]? = some (.code yX4_clear cX4_clear 1 none) := rfl
set_option maxRecDepth 100000 in
theorem am_yc26 : lw_tbl[716]? = some (.code yX4_ruleCount cX4_ruleCount 1 (some .int)) := rfl
set_option maxRecDepth 100000 in
theorem am_yc27 : lw_tbl[708]? = some (.code yX4_isFull cX4_isFull 1 (some .boolean)) := rfl
set_option maxRecDepth 100000 in
theorem am_yc28 : lw_tbl[809]? = some (.code yX4_isLatestRuleFull cX4_isLatestRuleFull 1 (some .boolean)) := rfl
set_option maxRecDepth 100000 in
theorem am_yc29 : lw_tbl[728]? = some (.code yX4_addRule cX4_addRule 1 none) := rfl
set_option maxRecDepth 100000 in
theorem am_yc30 : lw_tbl[825]? = some (.code yX4_addTest cX4_addTest 6 none) := rfl
set_option maxRecDepth 100000 in
theorem am_yc31 : lw_tbl[861]? = some (.code yX4_ruleFor cX4_ruleFor 4 (some .int)) := rfl
set_option maxRecDepth 100000 in
theorem am_yc32 : lw_tbl[865]? = some (.code yX4_allHold cX4_allHold 7 (some .boolean)) := rfl
set_option maxRecDepth 100000 in
theorem am_yc33 : lw_tbl[869]? = some (.code yX4_holds cX4_holds 3 (some .boolean)) := rfl
set_option maxRecDepth 100000 in
theorem am_yc34 : lw_tbl[210]? = some (.code yX5_init cX5_init 2 none) := rfl
set_option maxRecDepth 100000 in
theorem am_yc35 : lw_tbl[849]? = some (.code yX5_faultKind cX5_faultKind 1 (some .int)) := rfl
set_option maxRecDepth 100000 in
theorem am_yc36 : lw_tbl[853]? = some (.code yX5_faultPlace cX5_faultPlace 1 (some .int)) := rfl
set_option maxRecDepth 100000 in
theorem am_yc37 : lw_tbl[839]? = some (.code yX5_exchangeBook cX5_exchangeBook 3 (some (.object "PitchSquare$RuleBook"))) := rfl
set_option maxRecDepth 100000 in
theorem am_yc38 : lw_tbl[655]? = some (.code yX5_readAll cX5_readAll 3 (some .boolean)) := rfl
set_option maxRecDepth 100000 in
theorem am_yc39 : lw_tbl[700]? = some (.code yX5_blame cX5_blame 3 none) := rfl
set_option maxRecDepth 100000 in
theorem am_yc40 : lw_tbl[696]? = some (.code yX5_blameToken cX5_blameToken 2 none) := rfl
set_option maxRecDepth 100000 in
theorem am_yc41 : lw_tbl[663]? = some (.code yX5_nextToken cX5_nextToken 2 (some .boolean)) := rfl
set_option maxRecDepth 100000 in
theorem am_yc42 : lw_tbl[692]? = some (.code yX5_takeToken cX5_takeToken 1 none) := rfl
set_option maxRecDepth 100000 in
theorem am_yc43 : lw_tbl[704]? = some (.code yX5_takeName cX5_takeName 1 none) := rfl
set_option maxRecDepth 100000 in
theorem am_yc44 : lw_tbl[733]? = some (.code yX5_takeWhen cX5_takeWhen 1 none) := rfl
set_option maxRecDepth 100000 in
theorem am_yc45 : lw_tbl[790]? = some (.code yX5_takeWhat cX5_takeWhat 2 none) := rfl
set_option maxRecDepth 100000 in
theorem am_yc46 : lw_tbl[813]? = some (.code yX5_takeCompares cX5_takeCompares 1 none) := rfl
set_option maxRecDepth 100000 in
theorem am_yc47 : lw_tbl[817]? = some (.code yX5_takeNumber cX5_takeNumber 1 none) := rfl
set_option maxRecDepth 100000 in
theorem am_yc48 : lw_tbl[830]? = some (.code yX5_takeEnd cX5_takeEnd 1 none) := rfl
set_option maxRecDepth 100000 in
theorem am_yc49 : lw_tbl[724]? = some (.code yX5_keepName cX5_keepName 2 none) := rfl
set_option maxRecDepth 100000 in
theorem am_yc50 : lw_tbl[712]? = some (.code yX5_isNameKnown cX5_isNameKnown 2 (some .boolean)) := rfl
set_option maxRecDepth 100000 in
theorem am_yc51 : lw_tbl[720]? = some (.code yX5_isSameText cX5_isSameText 3 (some .boolean)) := rfl
set_option maxRecDepth 100000 in
theorem am_yc52 : lw_tbl[685]? = some (.code yX5_tokenLength cX5_tokenLength 1 (some .int)) := rfl
set_option maxRecDepth 100000 in
theorem am_yc53 : lw_tbl[738]? = some (.code yX5_tokenIs cX5_tokenIs 3 (some .boolean)) := rfl
set_option maxRecDepth 100000 in
theorem am_yc54 : lw_tbl[794]? = some (.code yX5_tokenWhat cX5_tokenWhat 2 (some .int)) := rfl
set_option maxRecDepth 100000 in
theorem am_yc55 : lw_tbl[821]? = some (.code yX5_tokenNumber cX5_tokenNumber 3 (some .int)) := rfl
set_option maxRecDepth 100000 in
theorem am_yc56 : lw_tbl[667]? = some (.code yX5_byteHere cX5_byteHere 1 (some .int)) := rfl
set_option maxRecDepth 100000 in
theorem am_yc57 : lw_tbl[797]? = some (.code yX5_wordFor cX5_wordFor 1 (some (.object "java/lang/String"))) := rfl
set_option maxRecDepth 100000 in
theorem am_yc58 : lw_tbl[674]? = some (.code yX5_isBlank cX5_isBlank 1 (some .boolean)) := rfl
set_option maxRecDepth 100000 in
theorem am_yc59 : lw_tbl[677]? = some (.code yX5_isLetter cX5_isLetter 1 (some .boolean)) := rfl
set_option maxRecDepth 100000 in
theorem am_yc60 : lw_tbl[681]? = some (.code yX5_isDigit cX5_isDigit 1 (some .boolean)) := rfl
set_option maxRecDepth 100000 in
theorem am_yc61 : lw_tbl[688]? = some (.code yX5_isSign cX5_isSign 1 (some .boolean)) := rfl
set_option maxRecDepth 100000 in
theorem am_yc62 : lw_tbl[280]? = some (.code yX6_init cX6_init 3 none) := rfl
set_option maxRecDepth 100000 in
theorem am_yc63 : lw_tbl[904]? = some (.code yX6_hasMatch cX6_hasMatch 2 (some .boolean)) := rfl
set_option maxRecDepth 100000 in
theorem am_yc64 : lw_tbl[883]? = some (.code yX6_isFull cX6_isFull 1 (some .boolean)) := rfl
set_option maxRecDepth 100000 in
theorem am_yc65 : lw_tbl[887]? = some (.code yX6_isTaken cX6_isTaken 3 (some .boolean)) := rfl
set_option maxRecDepth 100000 in
theorem am_yc66 : lw_tbl[891]? = some (.code yX6_addMatch cX6_addMatch 3 (some .int)) := rfl
set_option maxRecDepth 100000 in
theorem am_yc67 : lw_tbl[908]? = some (.code yX6_setWorth cX6_setWorth 4 none) := rfl
set_option maxRecDepth 100000 in
theorem am_yc68 : lw_tbl[918]? = some (.code yX6_setRests cX6_setRests 3 none) := rfl
set_option maxRecDepth 100000 in
theorem am_yc69 : lw_tbl[926]? = some (.code yX6_bestWorth cX6_bestWorth 2 (some .int)) := rfl
set_option maxRecDepth 100000 in
theorem am_yc70 : lw_tbl[968]? = some (.code yX6_bestStrip cX6_bestStrip 4 (some .int)) := rfl
set_option maxRecDepth 100000 in
theorem am_yc71 : lw_tbl[896]? = some (.code yX6_forgetBest cX6_forgetBest 1 none) := rfl
set_option maxRecDepth 100000 in
theorem am_yc72 : lw_tbl[930]? = some (.code yX6_findBest cX6_findBest 5 none) := rfl
set_option maxRecDepth 100000 in
theorem am_yc73 : lw_tbl[957]? = some (.code yX6_bestWithStrip cX6_bestWithStrip 8 (some .long)) := rfl
set_option maxRecDepth 100000 in
theorem am_yc74 : lw_tbl[946]? = some (.code yX6_addUpGains cX6_addUpGains 5 none) := rfl
set_option maxRecDepth 100000 in
theorem am_yc75 : lw_tbl[950]? = some (.code yX6_valueOn cX6_valueOn 5 (some .long)) := rfl
set_option maxRecDepth 100000 in
theorem am_yc76 : lw_tbl[934]? = some (.code yX6_fitsOneStrip cX6_fitsOneStrip 5 (some .boolean)) := rfl
set_option maxRecDepth 100000 in
theorem am_yc77 : lw_tbl[938]? = some (.code yX6_canShare cX6_canShare 5 (some .boolean)) := rfl
set_option maxRecDepth 100000 in
theorem am_yc78 : lw_tbl[197]? = some (.code yX7_init cX7_init 1 none) := rfl
set_option maxRecDepth 100000 in
theorem am_yc79 : lw_tbl[639]? = some (.code yX7_hasRoomForTwenty cX7_hasRoomForTwenty 1 (some .boolean)) := rfl
set_option maxRecDepth 100000 in
theorem am_yc80 : lw_tbl[643]? = some (.code yX7_append cX7_append 3 none) := rfl
set_option maxRecDepth 100000 in
theorem am_yc81 : lw_tbl[647]? = some (.code yX7_size cX7_size 1 (some .int)) := rfl
set_option maxRecDepth 100000 in
theorem am_yc82 : lw_tbl[835]? = some (.code yX7_clear cX7_clear 1 none) := rfl
set_option maxRecDepth 100000 in
theorem am_yc83 : lw_tbl[671]? = some (.code yX7_byteAt cX7_byteAt 2 (some .int)) := rfl
set_option maxRecDepth 100000 in
theorem am_yc84 : lw_tbl[100]? = some (.code yX8_init cX8_init 1 none) := rfl
set_option maxRecDepth 100000 in
theorem am_yc85 : lw_tbl[441]? = some (.code yX8_setLayers cX8_setLayers 4 none) := rfl
set_option maxRecDepth 100000 in
theorem am_yc86 : lw_tbl[445]? = some (.code yX8_setSurface cX8_setSurface 4 none) := rfl
set_option maxRecDepth 100000 in
theorem am_yc87 : lw_tbl[604]? = some (.code yX8_copyFrom cX8_copyFrom 2 none) := rfl
set_option maxRecDepth 100000 in
theorem am_yc88 : lw_tbl[484]? = some (.code yX8_orderWorks cX8_orderWorks 2 none) := rfl
set_option maxRecDepth 100000 in
theorem am_yc89 : lw_tbl[492]? = some (.code yX8_ballsToday cX8_ballsToday 1 (some .int)) := rfl
set_option maxRecDepth 100000 in
theorem am_yc90 : lw_tbl[496]? = some (.code yX8_addBalls cX8_addBalls 2 none) := rfl
set_option maxRecDepth 100000 in
theorem am_yc91 : lw_tbl[512]? = some (.code yX8_endDay cX8_endDay 3 none) := rfl
set_option maxRecDepth 100000 in
theorem am_yc92 : lw_tbl[457]? = some (.code yX8_valueOf cX8_valueOf 2 (some .int)) := rfl
set_option maxRecDepth 100000 in
theorem am_yc93 : lw_tbl[461]? = some (.code yX8_bounce cX8_bounce 2 (some .int)) := rfl
set_option maxRecDepth 100000 in
theorem am_yc94 : lw_tbl[516]? = some (.code yX8_passDay cX8_passDay 6 none) := rfl
set_option maxRecDepth 100000 in
theorem am_yc95 : lw_tbl[520]? = some (.code yX8_soak cX8_soak 3 none) := rfl
set_option maxRecDepth 100000 in
theorem am_yc96 : lw_tbl[531]? = some (.code yX8_seep cX8_seep 2 none) := rfl
set_option maxRecDepth 100000 in
theorem am_yc97 : lw_tbl[535]? = some (.code yX8_dry cX8_dry 2 none) := rfl
set_option maxRecDepth 100000 in
theorem am_yc98 : lw_tbl[539]? = some (.code yX8_harden cX8_harden 2 none) := rfl
set_option maxRecDepth 100000 in
theorem am_yc99 : lw_tbl[544]? = some (.code yX8_grow cX8_grow 1 none) := rfl
set_option maxRecDepth 100000 in
theorem am_yc100 : lw_tbl[131]? = some (.code yX9_init cX9_init 1 none) := rfl
set_option maxRecDepth 100000 in
theorem am_yc101 : lw_tbl[475]? = some (.code yX9_keep cX9_keep 4 none) := rfl
set_option maxRecDepth 100000 in
theorem am_yc102 : lw_tbl[504]? = some (.code yX9_rainOn cX9_rainOn 2 (some .int)) := rfl
set_option maxRecDepth 100000 in
theorem am_yc103 : lw_tbl[508]? = some (.code yX9_sunOn cX9_sunOn 2 (some .int)) := rfl
set_option maxRecDepth 100000 in
theorem am_yc104 : lw_tbl[91]? = some (.code yX10_init cX10_init 2 none) := rfl
set_option maxRecDepth 100000 in
theorem am_yc105 : lw_tbl[410]? = some (.code yX10_status cX10_status 1 (some .int)) := rfl
set_option maxRecDepth 100000 in
theorem am_yc106 : lw_tbl[414]? = some (.code yX10_strip cX10_strip 1 (some .int)) := rfl
set_option maxRecDepth 100000 in
theorem am_yc107 : lw_tbl[426]? = some (.code yX10_set cX10_set 10 (some .boolean)) := rfl
set_option maxRecDepth 100000 in
theorem am_yc108 : lw_tbl[453]? = some (.code yX10_told cX10_told 3 (some .int)) := rfl
set_option maxRecDepth 100000 in
theorem am_yc109 : lw_tbl[468]? = some (.code yX10_weather cX10_weather 6 (some .boolean)) := rfl
set_option maxRecDepth 100000 in
theorem am_yc110 : lw_tbl[480]? = some (.code yX10_work cX10_work 3 (some .boolean)) := rfl
set_option maxRecDepth 100000 in
theorem am_yc111 : lw_tbl[488]? = some (.code yX10_play cX10_play 3 (some .boolean)) := rfl
set_option maxRecDepth 100000 in
theorem am_yc112 : lw_tbl[500]? = some (.code yX10_step cX10_step 2 (some .int)) := rfl
set_option maxRecDepth 100000 in
theorem am_yc113 : lw_tbl[549]? = some (.code yX10_day cX10_day 1 (some .int)) := rfl
set_option maxRecDepth 100000 in
theorem am_yc114 : lw_tbl[553]? = some (.code yX10_measure cX10_measure 4 (some .boolean)) := rfl
set_option maxRecDepth 100000 in
theorem am_yc115 : lw_tbl[566]? = some (.code yX10_reads cX10_reads 3 (some .boolean)) := rfl
set_option maxRecDepth 100000 in
theorem am_yc116 : lw_tbl[596]? = some (.code yX10_plan cX10_plan 6 (some .int)) := rfl
set_option maxRecDepth 100000 in
theorem am_yc117 : lw_tbl[627]? = some (.code yX10_planned cX10_planned 3 (some .int)) := rfl
set_option maxRecDepth 100000 in
theorem am_yc118 : lw_tbl[635]? = some (.code yX10_feed cX10_feed 6 (some .int)) := rfl
set_option maxRecDepth 100000 in
theorem am_yc119 : lw_tbl[651]? = some (.code yX10_rules cX10_rules 3 (some .int)) := rfl
set_option maxRecDepth 100000 in
theorem am_yc120 : lw_tbl[845]? = some (.code yX10_fault cX10_fault 2 (some .int)) := rfl
set_option maxRecDepth 100000 in
theorem am_yc121 : lw_tbl[857]? = some (.code yX10_rate cX10_rate 3 (some .int)) := rfl
set_option maxRecDepth 100000 in
theorem am_yc122 : lw_tbl[873]? = some (.code yX10_when cX10_when 5 (some .int)) := rfl
set_option maxRecDepth 100000 in
theorem am_yc123 : lw_tbl[879]? = some (.code yX10_match cX10_match 3 (some .int)) := rfl
set_option maxRecDepth 100000 in
theorem am_yc124 : lw_tbl[900]? = some (.code yX10_worth cX10_worth 4 (some .boolean)) := rfl
set_option maxRecDepth 100000 in
theorem am_yc125 : lw_tbl[914]? = some (.code yX10_rests cX10_rests 3 (some .boolean)) := rfl
set_option maxRecDepth 100000 in
theorem am_yc126 : lw_tbl[922]? = some (.code yX10_give cX10_give 2 (some .int)) := rfl
set_option maxRecDepth 100000 in
theorem am_yc127 : lw_tbl[964]? = some (.code yX10_given cX10_given 3 (some .int)) := rfl
set_option maxRecDepth 100000 in
theorem am_yc128 : lw_tbl[974]? = some (.code yX10_mark cX10_mark 4 (some .boolean)) := rfl
set_option maxRecDepth 100000 in
theorem am_yc129 : lw_tbl[988]? = some (.code yX10_part cX10_part 2 (some .boolean)) := rfl
set_option maxRecDepth 100000 in
theorem am_yc130 : lw_tbl[997]? = some (.code yX10_fair cX10_fair 2 (some .boolean)) := rfl
set_option maxRecDepth 100000 in
theorem am_yc131 : lw_tbl[1010]? = some (.code yX10_upper cX10_upper 1 (some .long)) := rfl
set_option maxRecDepth 100000 in
theorem am_yc132 : lw_tbl[1018]? = some (.code yX10_lower cX10_lower 1 (some .long)) := rfl
set_option maxRecDepth 100000 in
theorem am_yc133 : lw_tbl[422]? = some (.code yX10_answer cX10_answer 2 (some .int)) := rfl
set_option maxRecDepth 100000 in
theorem am_yc134 : lw_tbl[418]? = some (.code yX10_refuse cX10_refuse 2 (some .int)) := rfl
set_option maxRecDepth 100000 in
theorem am_yc135 : lw_tbl[449]? = some (.code yX10_done cX10_done 1 (some .boolean)) := rfl
set_option maxRecDepth 100000 in
theorem am_yc136 : lw_tbl[434]? = some (.code yX10_deny cX10_deny 2 (some .boolean)) := rfl
set_option maxRecDepth 100000 in
theorem am_yc137 : lw_tbl[430]? = some (.code yX10_hasStrip cX10_hasStrip 2 (some .boolean)) := rfl
set_option maxRecDepth 100000 in
theorem am_yc138 : lw_tbl[471]? = some (.code yX10_isDay cX10_isDay 1 (some .boolean)) := rfl
set_option maxRecDepth 100000 in
theorem am_yc139 : lw_tbl[437]? = some (.code yX10_within cX10_within 3 (some .boolean)) := rfl
set_option maxRecDepth 100000 in
theorem am_yc140 : lw_tbl[523]? = some (.code yX10_cut cX10_cut 2 (some .int)) := rfl
set_option maxRecDepth 100000 in
theorem am_yc141 : lw_tbl[1027]? = some (.code yX11_init cX11_init 1 none) := rfl
set_option maxRecDepth 100000 in
theorem am_yc142 : lw_tbl[1207]? = some (.code yX11_status cX11_status 1 (some .int)) := rfl
set_option maxRecDepth 100000 in
theorem am_yc143 : lw_tbl[1215]? = some (.code yX11_refuse cX11_refuse 2 (some .int)) := rfl
set_option maxRecDepth 100000 in
theorem am_yc144 : lw_tbl[1227]? = some (.code yX11_no cX11_no 2 (some .boolean)) := rfl
set_option maxRecDepth 100000 in
theorem am_yc145 : lw_tbl[1223]? = some (.code yX11_isStrip cX11_isStrip 2 (some .boolean)) := rfl
set_option maxRecDepth 100000 in
theorem am_yc146 : lw_tbl[1250]? = some (.code yX11_isDay cX11_isDay 1 (some .boolean)) := rfl
set_option maxRecDepth 100000 in
theorem am_yc147 : lw_tbl[1230]? = some (.code yX11_isIn cX11_isIn 2 (some .boolean)) := rfl
set_option maxRecDepth 100000 in
theorem am_yc148 : lw_tbl[1211]? = some (.code yX11_strip cX11_strip 2 (some .int)) := rfl
set_option maxRecDepth 100000 in
theorem am_yc149 : lw_tbl[1219]? = some (.code yX11_set cX11_set 8 (some .boolean)) := rfl
set_option maxRecDepth 100000 in
theorem am_yc150 : lw_tbl[1238]? = some (.code yX11_begin cX11_begin 3 none) := rfl
set_option maxRecDepth 100000 in
theorem am_yc151 : lw_tbl[1242]? = some (.code yX11_bounce cX11_bounce 2 (some .int)) := rfl
set_option maxRecDepth 100000 in
theorem am_yc152 : lw_tbl[1234]? = some (.code yX11_told cX11_told 3 (some .int)) := rfl
set_option maxRecDepth 100000 in
theorem am_yc153 : lw_tbl[1273]? = some (.code yX11_cut cX11_cut 2 (some .int)) := rfl
set_option maxRecDepth 100000 in
theorem am_yc154 : lw_tbl[1270]? = some (.code yX11_grows cX11_grows 3 none) := rfl
set_option maxRecDepth 100000 in
theorem am_yc155 : lw_tbl[1266]? = some (.code yX11_steps cX11_steps 9 none) := rfl
set_option maxRecDepth 100000 in
theorem am_yc156 : lw_tbl[1247]? = some (.code yX11_weather cX11_weather 5 (some .boolean)) := rfl
set_option maxRecDepth 100000 in
theorem am_yc157 : lw_tbl[1254]? = some (.code yX11_work cX11_work 3 (some .boolean)) := rfl
set_option maxRecDepth 100000 in
theorem am_yc158 : lw_tbl[1258]? = some (.code yX11_play cX11_play 3 (some .boolean)) := rfl
set_option maxRecDepth 100000 in
theorem am_yc159 : lw_tbl[1262]? = some (.code yX11_step cX11_step 3 (some .int)) := rfl
set_option maxRecDepth 100000 in
theorem am_yc160 : lw_tbl[1278]? = some (.code yX11_day cX11_day 1 (some .int)) := rfl
set_option maxRecDepth 100000 in
theorem am_yc161 : lw_tbl[1282]? = some (.code yX11_measure cX11_measure 4 (some .boolean)) := rfl
set_option maxRecDepth 100000 in
theorem am_yc162 : lw_tbl[1290]? = some (.code yX11_many cX11_many 5 (some .int)) := rfl
set_option maxRecDepth 100000 in
theorem am_yc163 : lw_tbl[1294]? = some (.code yX11_sumOf cX11_sumOf 5 (some .int)) := rfl
set_option maxRecDepth 100000 in
theorem am_yc164 : lw_tbl[1301]? = some (.code yX11_common cX11_common 10 (some .long)) := rfl
set_option maxRecDepth 100000 in
theorem am_yc165 : lw_tbl[1298]? = some (.code yX11_tells cX11_tells 7 (some .boolean)) := rfl
set_option maxRecDepth 100000 in
theorem am_yc166 : lw_tbl[1286]? = some (.code yX11_reads cX11_reads 9 (some .boolean)) := rfl
set_option maxRecDepth 100000 in
theorem am_yc167 : lw_tbl[1306]? = some (.code yX11_plan cX11_plan 12 (some .int)) := rfl
set_option maxRecDepth 100000 in
theorem am_yc168 : lw_tbl[1310]? = some (.code yX11_planned cX11_planned 2 (some .int)) := rfl
set_option maxRecDepth 100000 in
theorem am_yc169 : lw_tbl[1330]? = some (.code yX11_look cX11_look 2 (some .int)) := rfl
set_option maxRecDepth 100000 in
theorem am_yc170 : lw_tbl[1333]? = some (.code yX11_isLetter cX11_isLetter 1 (some .boolean)) := rfl
set_option maxRecDepth 100000 in
theorem am_yc171 : lw_tbl[1339]? = some (.code yX11_isDigit cX11_isDigit 1 (some .boolean)) := rfl
set_option maxRecDepth 100000 in
theorem am_yc172 : lw_tbl[1326]? = some (.code yX11_next cX11_next 2 none) := rfl
set_option maxRecDepth 100000 in
theorem am_yc173 : lw_tbl[1354]? = some (.code yX11_spelled cX11_spelled 8 (some .long)) := rfl
set_option maxRecDepth 100000 in
theorem am_yc174 : lw_tbl[1358]? = some (.code yX11_isWord cX11_isWord 3 (some .boolean)) := rfl
set_option maxRecDepth 100000 in
theorem am_yc175 : lw_tbl[1370]? = some (.code yX11_isSign cX11_isSign 2 (some .boolean)) := rfl
set_option maxRecDepth 100000 in
theorem am_yc176 : lw_tbl[1351]? = some (.code yX11_fail cX11_fail 3 none) := rfl
set_option maxRecDepth 100000 in
theorem am_yc177 : lw_tbl[1347]? = some (.code yX11_wrong cX11_wrong 1 none) := rfl
set_option maxRecDepth 100000 in
theorem am_yc178 : lw_tbl[1366]? = some (.code yX11_whatOf cX11_whatOf 1 (some .int)) := rfl
set_option maxRecDepth 100000 in
theorem am_yc179 : lw_tbl[1362]? = some (.code yX11_readTest cX11_readTest 3 none) := rfl
set_option maxRecDepth 100000 in
theorem am_yc180 : lw_tbl[1343]? = some (.code yX11_readRule cX11_readRule 2 none) := rfl
set_option maxRecDepth 100000 in
theorem am_yc181 : lw_tbl[1314]? = some (.code yX11_feed cX11_feed 6 (some .int)) := rfl
set_option maxRecDepth 100000 in
theorem am_yc182 : lw_tbl[1318]? = some (.code yX11_lay cX11_lay 3 none) := rfl
set_option maxRecDepth 100000 in
theorem am_yc183 : lw_tbl[1322]? = some (.code yX11_rules cX11_rules 4 (some .int)) := rfl
set_option maxRecDepth 100000 in
theorem am_yc184 : lw_tbl[1374]? = some (.code yX11_fault cX11_fault 2 (some .int)) := rfl
set_option maxRecDepth 100000 in
theorem am_yc185 : lw_tbl[1382]? = some (.code yX11_rated cX11_rated 6 (some .int)) := rfl
set_option maxRecDepth 100000 in
theorem am_yc186 : lw_tbl[1378]? = some (.code yX11_rate cX11_rate 3 (some .int)) := rfl
set_option maxRecDepth 100000 in
theorem am_yc187 : lw_tbl[1386]? = some (.code yX11_when cX11_when 5 (some .int)) := rfl
set_option maxRecDepth 100000 in
theorem am_yc188 : lw_tbl[1398]? = some (.code yX11_isMatch cX11_isMatch 2 (some .boolean)) := rfl
set_option maxRecDepth 100000 in
theorem am_yc189 : lw_tbl[1390]? = some (.code yX11_match cX11_match 4 (some .int)) := rfl
set_option maxRecDepth 100000 in
theorem am_yc190 : lw_tbl[1394]? = some (.code yX11_worth cX11_worth 4 (some .boolean)) := rfl
set_option maxRecDepth 100000 in
theorem am_yc191 : lw_tbl[1402]? = some (.code yX11_rests cX11_rests 3 (some .boolean)) := rfl
set_option maxRecDepth 100000 in
theorem am_yc192 : lw_tbl[1418]? = some (.code yX11_canBoth cX11_canBoth 6 (some .boolean)) := rfl
set_option maxRecDepth 100000 in
theorem am_yc193 : lw_tbl[1414]? = some (.code yX11_canLay cX11_canLay 4 (some .boolean)) := rfl
set_option maxRecDepth 100000 in
theorem am_yc194 : lw_tbl[1410]? = some (.code yX11_gives cX11_gives 6 (some .int)) := rfl
set_option maxRecDepth 100000 in
theorem am_yc195 : lw_tbl[1406]? = some (.code yX11_give cX11_give 2 (some .int)) := rfl
set_option maxRecDepth 100000 in
theorem am_yc196 : lw_tbl[1422]? = some (.code yX11_given cX11_given 2 (some .int)) := rfl
set_option maxRecDepth 100000 in
theorem am_yc197 : lw_tbl[1426]? = some (.code yX11_mark cX11_mark 4 (some .boolean)) := rfl
set_option maxRecDepth 100000 in
theorem am_yc198 : lw_tbl[1434]? = some (.code yX11_manyBy cX11_manyBy 4 (some .int)) := rfl
set_option maxRecDepth 100000 in
theorem am_yc199 : lw_tbl[1438]? = some (.code yX11_sumBy cX11_sumBy 4 (some .int)) := rfl
set_option maxRecDepth 100000 in
theorem am_yc200 : lw_tbl[1430]? = some (.code yX11_part cX11_part 6 (some .boolean)) := rfl
set_option maxRecDepth 100000 in
theorem am_yc201 : lw_tbl[1442]? = some (.code yX11_fair cX11_fair 11 (some .boolean)) := rfl
set_option maxRecDepth 100000 in
theorem am_yc202 : lw_tbl[1446]? = some (.code yX11_upper cX11_upper 1 (some .long)) := rfl
set_option maxRecDepth 100000 in
theorem am_yc203 : lw_tbl[1450]? = some (.code yX11_lower cX11_lower 1 (some .long)) := rfl
