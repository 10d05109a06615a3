theorem fit_0 : FIT 0 := ⟨rfl, show fitL kX0_begin cX0_begin 0 3 2 69 none 0 kX0_begin = true from by decide +kernel⟩
theorem fit_1 : FIT 1 := ⟨rfl, show fitL kX0_drawBlight cX0_drawBlight 0 1 0 0 none 0 kX0_drawBlight = true from by decide +kernel⟩
theorem fit_2 : FIT 2 := ⟨rfl, show fitL kX0_otherwise cX0_otherwise 0 4 1 23 none 0 kX0_otherwise = true from by decide +kernel⟩
theorem fit_3 : FIT 3 := ⟨rfl, show fitL kX0_years cX0_years 0 3 5 128 none 0 kX0_years = true from by decide +kernel⟩
theorem fit_4 : FIT 4 := ⟨rfl, show fitL kX0_year cX0_year 0 4 4 105 none 0 kX0_year = true from by decide +kernel⟩
theorem fit_5 : FIT 5 := ⟨rfl, show fitL kX0_growAll cX0_growAll 0 4 3 78 none 0 kX0_growAll = true from by decide +kernel⟩
theorem fit_6 : FIT 6 := ⟨rfl, show fitL kX0_blightAll cX0_blightAll 0 2 1 23 none 0 kX0_blightAll = true from by decide +kernel⟩
theorem fit_7 : FIT 7 := ⟨rfl, show fitL kX0_bestFor cX0_bestFor 0 6 3 80 (some (.int)) 0 kX0_bestFor = true from by decide +kernel⟩
theorem fit_8 : FIT 8 := ⟨rfl, show fitL kX0_gives cX0_gives 0 3 3 78 (some (.boolean)) 0 kX0_gives = true from by decide +kernel⟩
theorem fit_9 : FIT 9 := ⟨rfl, show fitL kX0_esteem cX0_esteem 0 6 2 55 (some (.int)) 0 kX0_esteem = true from by decide +kernel⟩
theorem fit_10 : FIT 10 := ⟨rfl, show fitL kX0_judgeLaw cX0_judgeLaw 0 3 2 55 (some (.long)) 0 kX0_judgeLaw = true from by decide +kernel⟩
theorem fit_11 : FIT 11 := ⟨rfl, show fitL kX0_ownLaw cX0_ownLaw 0 4 2 55 (some (.long)) 0 kX0_ownLaw = true from by decide +kernel⟩
theorem fit_12 : FIT 12 := ⟨rfl, show fitL kX0_tell cX0_tell 0 5 0 0 none 0 kX0_tell = true from by decide +kernel⟩
theorem fit_13 : FIT 13 := ⟨rfl, show fitL kX1_isEmpty cX1_isEmpty 1 1 0 0 (some (.boolean)) 0 kX1_isEmpty = true from by decide +kernel⟩
theorem fit_14 : FIT 14 := ⟨rfl, show fitL kX1_many cX1_many 1 1 0 0 (some (.int)) 0 kX1_many = true from by decide +kernel⟩
theorem fit_15 : FIT 15 := ⟨rfl, show fitL kX1_forget cX1_forget 1 1 0 0 none 0 kX1_forget = true from by decide +kernel⟩
theorem fit_16 : FIT 16 := ⟨rfl, show fitL kX1_noteShow cX1_noteShow 1 3 3 91 none 0 kX1_noteShow = true from by decide +kernel⟩
theorem fit_17 : FIT 17 := ⟨rfl, show fitL kX1_noteRaise cX1_noteRaise 1 3 3 91 none 0 kX1_noteRaise = true from by decide +kernel⟩
theorem fit_18 : FIT 18 := ⟨rfl, show fitL kX1_noteHand cX1_noteHand 1 4 3 91 none 0 kX1_noteHand = true from by decide +kernel⟩
theorem fit_19 : FIT 19 := ⟨rfl, show fitL kX1_add cX1_add 1 4 2 68 none 0 kX1_add = true from by decide +kernel⟩
theorem fit_20 : FIT 20 := ⟨rfl, show fitL kX1_dropFirst cX1_dropFirst 1 1 1 48 none 0 kX1_dropFirst = true from by decide +kernel⟩
theorem fit_21 : FIT 21 := ⟨rfl, show fitL kX1_takeBack cX1_takeBack 1 3 0 0 (some (.int)) 0 kX1_takeBack = true from by decide +kernel⟩
theorem fit_22 : FIT 22 := ⟨rfl, show fitL kX2_clear cX2_clear 2 2 1 21 none 0 kX2_clear = true from by decide +kernel⟩
theorem fit_23 : FIT 23 := ⟨rfl, show fitL kX2_numberOf cX2_numberOf 2 3 0 0 (some (.int)) 0 kX2_numberOf = true from by decide +kernel⟩
theorem fit_24 : FIT 24 := ⟨rfl, show fitL kX2_far cX2_far 2 4 0 0 (some (.int)) 0 kX2_far = true from by decide +kernel⟩
theorem fit_25 : FIT 25 := ⟨rfl, show fitL kX2_wayFrom cX2_wayFrom 2 7 1 21 (some (.int)) 0 kX2_wayFrom = true from by decide +kernel⟩
theorem fit_26 : FIT 26 := ⟨rfl, show fitL kX3_clear cX3_clear 3 1 0 0 none 0 kX3_clear = true from by decide +kernel⟩
theorem fit_27 : FIT 27 := ⟨rfl, show fitL kX3_isTold cX3_isTold 3 1 0 0 (some (.boolean)) 0 kX3_isTold = true from by decide +kernel⟩
theorem fit_28 : FIT 28 := ⟨rfl, show fitL kX3_add cX3_add 3 2 0 0 none 0 kX3_add = true from by decide +kernel⟩
theorem fit_29 : FIT 29 := ⟨rfl, show fitL kX3_binding cX3_binding 3 1 0 0 (some (.int)) 0 kX3_binding = true from by decide +kernel⟩
theorem fit_30 : FIT 30 := ⟨rfl, show fitL kX3_worked cX3_worked 3 8 1 28 (some (.long)) 0 kX3_worked = true from by decide +kernel⟩
theorem fit_31 : FIT 31 := ⟨rfl, show fitL kX3_joined cX3_joined 3 9 0 0 (some (.long)) 0 kX3_joined = true from by decide +kernel⟩
theorem fit_32 : FIT 32 := ⟨rfl, show fitL kX4_told cX4_told 4 3 0 0 (some (.int)) 0 kX4_told = true from by decide +kernel⟩
theorem fit_33 : FIT 33 := ⟨rfl, show fitL kX4_take cX4_take 4 4 0 0 none 0 kX4_take = true from by decide +kernel⟩
theorem fit_34 : FIT 34 := ⟨rfl, show fitL kX4_seekFree cX4_seekFree 4 4 4 91 none 0 kX4_seekFree = true from by decide +kernel⟩
theorem fit_35 : FIT 35 := ⟨rfl, show fitL kX4_isFreed cX4_isFreed 4 3 3 69 (some (.boolean)) 0 kX4_isFreed = true from by decide +kernel⟩
theorem fit_36 : FIT 36 := ⟨rfl, show fitL kX4_turn cX4_turn 4 3 1 21 none 0 kX4_turn = true from by decide +kernel⟩
theorem fit_37 : FIT 37 := ⟨rfl, show fitL kX4_aim cX4_aim 4 4 0 0 none 0 kX4_aim = true from by decide +kernel⟩
theorem fit_38 : FIT 38 := ⟨rfl, show fitL kX4_seekLead cX4_seekLead 4 6 6 151 none 0 kX4_seekLead = true from by decide +kernel⟩
theorem fit_39 : FIT 39 := ⟨rfl, show fitL kX4_areFound cX4_areFound 4 1 0 0 (some (.boolean)) 0 kX4_areFound = true from by decide +kernel⟩
theorem fit_40 : FIT 40 := ⟨rfl, show fitL kX4_seekTwoLeads cX4_seekTwoLeads 4 6 6 151 none 0 kX4_seekTwoLeads = true from by decide +kernel⟩
theorem fit_41 : FIT 41 := ⟨rfl, show fitL kX4_matter cX4_matter 4 3 1 21 (some (.boolean)) 0 kX4_matter = true from by decide +kernel⟩
theorem fit_42 : FIT 42 := ⟨rfl, show fitL kX4_isMissing cX4_isMissing 4 5 2 43 (some (.boolean)) 0 kX4_isMissing = true from by decide +kernel⟩
theorem fit_43 : FIT 43 := ⟨rfl, show fitL kX4_add cX4_add 4 2 1 23 none 0 kX4_add = true from by decide +kernel⟩
theorem fit_44 : FIT 44 := ⟨rfl, show fitL kX4_comes cX4_comes 4 4 5 128 (some (.boolean)) 0 kX4_comes = true from by decide +kernel⟩
theorem fit_45 : FIT 45 := ⟨rfl, show fitL kX5_clear cX5_clear 5 2 0 0 none 0 kX5_clear = true from by decide +kernel⟩
theorem fit_46 : FIT 46 := ⟨rfl, show fitL kX5_become cX5_become 5 2 1 48 none 0 kX5_become = true from by decide +kernel⟩
theorem fit_47 : FIT 47 := ⟨rfl, show fitL kX5_isSeen cX5_isSeen 5 3 1 21 (some (.boolean)) 0 kX5_isSeen = true from by decide +kernel⟩
theorem fit_48 : FIT 48 := ⟨rfl, show fitL kX5_setSeen cX5_setSeen 5 4 0 0 none 0 kX5_setSeen = true from by decide +kernel⟩
theorem fit_49 : FIT 49 := ⟨rfl, show fitL kX5_countSeen cX5_countSeen 5 3 1 20 (some (.int)) 0 kX5_countSeen = true from by decide +kernel⟩
theorem fit_50 : FIT 50 := ⟨rfl, show fitL kX5_addWorth cX5_addWorth 5 4 0 0 none 0 kX5_addWorth = true from by decide +kernel⟩
theorem fit_51 : FIT 51 := ⟨rfl, show fitL kX5_worthOf cX5_worthOf 5 4 1 21 (some (.int)) 0 kX5_worthOf = true from by decide +kernel⟩
theorem fit_52 : FIT 52 := ⟨rfl, show fitL kX5_pass cX5_pass 5 3 0 0 none 0 kX5_pass = true from by decide +kernel⟩
theorem fit_53 : FIT 53 := ⟨rfl, show fitL kX5_retain cX5_retain 5 2 0 0 none 0 kX5_retain = true from by decide +kernel⟩
theorem fit_54 : FIT 54 := ⟨rfl, show fitL kX5_draw cX5_draw 5 1 0 0 (some (.int)) 0 kX5_draw = true from by decide +kernel⟩
theorem fit_55 : FIT 55 := ⟨rfl, show fitL kX6_exchange cX6_exchange 6 3 0 0 (some (.object "RibbonRun$Garden")) 0 kX6_exchange = true from by decide +kernel⟩
theorem fit_56 : FIT 56 := ⟨rfl, show fitL kX6_read cX6_read 6 3 6 132 (some (.int)) 0 kX6_read = true from by decide +kernel⟩
theorem fit_57 : FIT 57 := ⟨rfl, show fitL kX6_readLine cX6_readLine 6 1 5 112 (some (.boolean)) 0 kX6_readLine = true from by decide +kernel⟩
theorem fit_58 : FIT 58 := ⟨rfl, show fitL kX6_readGrower cX6_readGrower 6 3 4 85 (some (.boolean)) 0 kX6_readGrower = true from by decide +kernel⟩
theorem fit_59 : FIT 59 := ⟨rfl, show fitL kX6_readSees cX6_readSees 6 3 3 64 (some (.boolean)) 0 kX6_readSees = true from by decide +kernel⟩
theorem fit_60 : FIT 60 := ⟨rfl, show fitL kX6_readRibbon cX6_readRibbon 6 2 3 64 (some (.boolean)) 0 kX6_readRibbon = true from by decide +kernel⟩
theorem fit_61 : FIT 61 := ⟨rfl, show fitL kX6_readBlight cX6_readBlight 6 1 4 85 (some (.boolean)) 0 kX6_readBlight = true from by decide +kernel⟩
theorem fit_62 : FIT 62 := ⟨rfl, show fitL kX6_readSeed cX6_readSeed 6 1 4 85 (some (.boolean)) 0 kX6_readSeed = true from by decide +kernel⟩
theorem fit_63 : FIT 63 := ⟨rfl, show fitL kX6_readLaw cX6_readLaw 6 3 4 90 (some (.boolean)) 0 kX6_readLaw = true from by decide +kernel⟩
theorem fit_64 : FIT 64 := ⟨rfl, show fitL kX6_readExpression cX6_readExpression 6 4 3 67 (some (.boolean)) 0 kX6_readExpression = true from by decide +kernel⟩
theorem fit_65 : FIT 65 := ⟨rfl, show fitL kX6_readValue cX6_readValue 6 3 2 42 (some (.int)) 0 kX6_readValue = true from by decide +kernel⟩
theorem fit_66 : FIT 66 := ⟨rfl, show fitL kX6_readBehind cX6_readBehind 6 5 2 43 (some (.int)) 0 kX6_readBehind = true from by decide +kernel⟩
theorem fit_67 : FIT 67 := ⟨rfl, show fitL kX6_joiningSign cX6_joiningSign 6 1 1 22 (some (.int)) 0 kX6_joiningSign = true from by decide +kernel⟩
theorem fit_68 : FIT 68 := ⟨rfl, show fitL kX6_defer cX6_defer 6 2 0 0 none 0 kX6_defer = true from by decide +kernel⟩
theorem fit_69 : FIT 69 := ⟨rfl, show fitL kX6_release cX6_release 6 3 1 21 none 0 kX6_release = true from by decide +kernel⟩
theorem fit_70 : FIT 70 := ⟨rfl, show fitL kX6_countKnot cX6_countKnot 6 1 0 0 (some (.boolean)) 0 kX6_countKnot = true from by decide +kernel⟩
theorem fit_71 : FIT 71 := ⟨rfl, show fitL kX6_toldGrower cX6_toldGrower 6 2 1 22 (some (.int)) 0 kX6_toldGrower = true from by decide +kernel⟩
theorem fit_72 : FIT 72 := ⟨rfl, show fitL kX6_takeNumber cX6_takeNumber 6 2 3 64 (some (.boolean)) 0 kX6_takeNumber = true from by decide +kernel⟩
theorem fit_73 : FIT 73 := ⟨rfl, show fitL kX6_takeSign cX6_takeSign 6 2 3 64 (some (.boolean)) 0 kX6_takeSign = true from by decide +kernel⟩
theorem fit_74 : FIT 74 := ⟨rfl, show fitL kX6_fail cX6_fail 6 2 0 0 (some (.boolean)) 0 kX6_fail = true from by decide +kernel⟩
theorem fit_75 : FIT 75 := ⟨rfl, show fitL kX6_failed cX6_failed 6 2 1 21 (some (.int)) 0 kX6_failed = true from by decide +kernel⟩
theorem fit_76 : FIT 76 := ⟨rfl, show fitL kX7_prepare cX7_prepare 7 5 4 100 none 0 kX7_prepare = true from by decide +kernel⟩
theorem fit_77 : FIT 77 := ⟨rfl, show fitL kX7_isSeen cX7_isSeen 7 2 1 21 (some (.boolean)) 0 kX7_isSeen = true from by decide +kernel⟩
theorem fit_78 : FIT 78 := ⟨rfl, show fitL kX7_turn cX7_turn 7 2 0 0 none 0 kX7_turn = true from by decide +kernel⟩
theorem fit_79 : FIT 79 := ⟨rfl, show fitL kX7_follow cX7_follow 7 5 2 45 none 0 kX7_follow = true from by decide +kernel⟩
theorem fit_80 : FIT 80 := ⟨rfl, show fitL kX7_since cX7_since 7 5 1 21 (some (.int)) 0 kX7_since = true from by decide +kernel⟩
theorem fit_81 : FIT 81 := ⟨rfl, show fitL kX7_bestFor cX7_bestFor 7 5 1 21 (some (.int)) 0 kX7_bestFor = true from by decide +kernel⟩
theorem fit_82 : FIT 82 := ⟨rfl, show fitL kX8_at cX8_at 8 2 0 0 (some (.int)) 0 kX8_at = true from by decide +kernel⟩
theorem fit_83 : FIT 83 := ⟨rfl, show fitL kX8_seekWalk cX8_seekWalk 8 7 2 70 none 0 kX8_seekWalk = true from by decide +kernel⟩
theorem fit_84 : FIT 84 := ⟨rfl, show fitL kX8_seekOrder cX8_seekOrder 8 8 2 70 none 0 kX8_seekOrder = true from by decide +kernel⟩
theorem fit_85 : FIT 85 := ⟨rfl, show fitL kX8_begin cX8_begin 8 4 0 0 none 0 kX8_begin = true from by decide +kernel⟩
theorem fit_86 : FIT 86 := ⟨rfl, show fitL kX8_take cX8_take 8 3 1 48 none 0 kX8_take = true from by decide +kernel⟩
theorem fit_87 : FIT 87 := ⟨rfl, show fitL kX8_advance cX8_advance 8 5 1 23 (some (.boolean)) 0 kX8_advance = true from by decide +kernel⟩
theorem fit_88 : FIT 88 := ⟨rfl, show fitL kX8_swap cX8_swap 8 4 0 0 none 0 kX8_swap = true from by decide +kernel⟩
theorem fit_89 : FIT 89 := ⟨rfl, show fitL kX9_hasRoom cX9_hasRoom 9 1 0 0 (some (.boolean)) 0 kX9_hasRoom = true from by decide +kernel⟩
theorem fit_90 : FIT 90 := ⟨rfl, show fitL kX9_add cX9_add 9 3 0 0 none 0 kX9_add = true from by decide +kernel⟩
theorem fit_91 : FIT 91 := ⟨rfl, show fitL kX9_begin cX9_begin 9 2 3 64 none 0 kX9_begin = true from by decide +kernel⟩
theorem fit_92 : FIT 92 := ⟨rfl, show fitL kX9_advance cX9_advance 9 1 2 44 none 0 kX9_advance = true from by decide +kernel⟩
theorem fit_93 : FIT 93 := ⟨rfl, show fitL kX9_isWord cX9_isWord 9 2 0 0 (some (.boolean)) 0 kX9_isWord = true from by decide +kernel⟩
theorem fit_94 : FIT 94 := ⟨rfl, show fitL kX9_isSign cX9_isSign 9 2 0 0 (some (.boolean)) 0 kX9_isSign = true from by decide +kernel⟩
theorem fit_95 : FIT 95 := ⟨rfl, show fitL kX9_isLetter cX9_isLetter 9 2 0 0 (some (.boolean)) 0 kX9_isLetter = true from by decide +kernel⟩
theorem fit_96 : FIT 96 := ⟨rfl, show fitL kX9_isDigit cX9_isDigit 9 2 0 0 (some (.boolean)) 0 kX9_isDigit = true from by decide +kernel⟩
theorem fit_97 : FIT 97 := ⟨rfl, show fitL kX9_readWord cX9_readWord 9 4 1 21 none 0 kX9_readWord = true from by decide +kernel⟩
theorem fit_98 : FIT 98 := ⟨rfl, show fitL kX9_readNumber cX9_readNumber 9 2 1 21 none 0 kX9_readNumber = true from by decide +kernel⟩
theorem fit_99 : FIT 99 := ⟨rfl, show fitL kX9_readSign cX9_readSign 9 3 1 20 none 0 kX9_readSign = true from by decide +kernel⟩
theorem fit_100 : FIT 100 := ⟨rfl, show fitL kX9_signOf cX9_signOf 9 1 0 0 (some (.int)) 0 kX9_signOf = true from by decide +kernel⟩
theorem fit_101 : FIT 101 := ⟨rfl, show fitL kX10_forget cX10_forget 10 1 0 0 none 0 kX10_forget = true from by decide +kernel⟩
theorem fit_102 : FIT 102 := ⟨rfl, show fitL kX10_end cX10_end 10 1 0 0 (some (.int)) 0 kX10_end = true from by decide +kernel⟩
theorem fit_103 : FIT 103 := ⟨rfl, show fitL kX10_addHanding cX10_addHanding 10 3 1 23 (some (.int)) 0 kX10_addHanding = true from by decide +kernel⟩
theorem fit_104 : FIT 104 := ⟨rfl, show fitL kX10_addSight cX10_addSight 10 6 1 23 (some (.int)) 0 kX10_addSight = true from by decide +kernel⟩
theorem fit_105 : FIT 105 := ⟨rfl, show fitL kX10_addStrike cX10_addStrike 10 2 1 23 (some (.int)) 0 kX10_addStrike = true from by decide +kernel⟩
theorem fit_106 : FIT 106 := ⟨rfl, show fitL kX10_add cX10_add 10 4 0 0 (some (.int)) 0 kX10_add = true from by decide +kernel⟩
theorem fit_107 : FIT 107 := ⟨rfl, show fitL kX10_mark cX10_mark 10 3 1 20 none 0 kX10_mark = true from by decide +kernel⟩
theorem fit_108 : FIT 108 := ⟨rfl, show fitL kX10_clashes cX10_clashes 10 7 0 0 (some (.int)) 0 kX10_clashes = true from by decide +kernel⟩
theorem fit_109 : FIT 109 := ⟨rfl, show fitL kX10_lastYear cX10_lastYear 10 3 0 0 (some (.int)) 0 kX10_lastYear = true from by decide +kernel⟩
theorem fit_110 : FIT 110 := ⟨rfl, show fitL kX10_isSo cX10_isSo 10 5 0 0 (some (.boolean)) 0 kX10_isSo = true from by decide +kernel⟩
theorem fit_111 : FIT 111 := ⟨rfl, show fitL kX11_feed cX11_feed 11 6 1 22 (some (.int)) 0 kX11_feed = true from by decide +kernel⟩
theorem fit_112 : FIT 112 := ⟨rfl, show fitL kX11_text cX11_text 11 3 7 154 (some (.int)) 0 kX11_text = true from by decide +kernel⟩
theorem fit_113 : FIT 113 := ⟨rfl, show fitL kX11_fault cX11_fault 11 2 0 0 (some (.int)) 0 kX11_fault = true from by decide +kernel⟩
theorem fit_114 : FIT 114 := ⟨rfl, show fitL kX11_named cX11_named 11 2 1 22 (some (.int)) 0 kX11_named = true from by decide +kernel⟩
theorem fit_115 : FIT 115 := ⟨rfl, show fitL kX11_ribbon cX11_ribbon 11 3 1 21 (some (.int)) 0 kX11_ribbon = true from by decide +kernel⟩
theorem fit_116 : FIT 116 := ⟨rfl, show fitL kX11_judged cX11_judged 11 3 3 80 (some (.int)) 0 kX11_judged = true from by decide +kernel⟩
theorem fit_117 : FIT 117 := ⟨rfl, show fitL kX11_best cX11_best 11 2 4 105 (some (.int)) 0 kX11_best = true from by decide +kernel⟩
theorem fit_118 : FIT 118 := ⟨rfl, show fitL kX11_law cX11_law 11 4 3 78 (some (.long)) 0 kX11_law = true from by decide +kernel⟩
theorem fit_119 : FIT 119 := ⟨rfl, show fitL kX11_show cX11_show 11 4 4 113 (some (.boolean)) 0 kX11_show = true from by decide +kernel⟩
theorem fit_120 : FIT 120 := ⟨rfl, show fitL kX11_raise cX11_raise 11 3 4 113 (some (.int)) 0 kX11_raise = true from by decide +kernel⟩
theorem fit_121 : FIT 121 := ⟨rfl, show fitL kX11_hand cX11_hand 11 3 4 114 (some (.boolean)) 0 kX11_hand = true from by decide +kernel⟩
theorem fit_122 : FIT 122 := ⟨rfl, show fitL kX11_go cX11_go 11 2 6 150 (some (.int)) 0 kX11_go = true from by decide +kernel⟩
theorem fit_123 : FIT 123 := ⟨rfl, show fitL kX11_ahead cX11_ahead 11 5 6 150 (some (.int)) 0 kX11_ahead = true from by decide +kernel⟩
theorem fit_124 : FIT 124 := ⟨rfl, show fitL kX11_ring cX11_ring 11 3 5 124 (some (.int)) 0 kX11_ring = true from by decide +kernel⟩
theorem fit_125 : FIT 125 := ⟨rfl, show fitL kX11_free cX11_free 11 3 5 124 (some (.int)) 0 kX11_free = true from by decide +kernel⟩
theorem fit_126 : FIT 126 := ⟨rfl, show fitL kX11_lead cX11_lead 11 5 7 176 (some (.int)) 0 kX11_lead = true from by decide +kernel⟩
theorem fit_127 : FIT 127 := ⟨rfl, show fitL kX11_walk cX11_walk 11 3 3 96 (some (.int)) 0 kX11_walk = true from by decide +kernel⟩
theorem fit_128 : FIT 128 := ⟨rfl, show fitL kX11_meet cX11_meet 11 2 5 128 (some (.int)) 0 kX11_meet = true from by decide +kernel⟩
theorem fit_129 : FIT 129 := ⟨rfl, show fitL kX11_reach cX11_reach 11 5 1 21 (some (.int)) 0 kX11_reach = true from by decide +kernel⟩
theorem fit_130 : FIT 130 := ⟨rfl, show fitL kX11_deserves cX11_deserves 11 3 0 0 (some (.int)) 0 kX11_deserves = true from by decide +kernel⟩
theorem fit_131 : FIT 131 := ⟨rfl, show fitL kX11_order cX11_order 11 2 3 97 (some (.int)) 0 kX11_order = true from by decide +kernel⟩
theorem fit_132 : FIT 132 := ⟨rfl, show fitL kX11_rests cX11_rests 11 5 2 50 (some (.int)) 0 kX11_rests = true from by decide +kernel⟩
theorem fit_133 : FIT 133 := ⟨rfl, show fitL kX11_rest cX11_rest 11 6 2 50 (some (.int)) 0 kX11_rest = true from by decide +kernel⟩
theorem fit_134 : FIT 134 := ⟨rfl, show fitL kX11_visit cX11_visit 11 8 2 47 (some (.int)) 0 kX11_visit = true from by decide +kernel⟩
theorem fit_135 : FIT 135 := ⟨rfl, show fitL kX11_hosts cX11_hosts 11 5 5 128 (some (.int)) 0 kX11_hosts = true from by decide +kernel⟩
theorem fit_136 : FIT 136 := ⟨rfl, show fitL kX11_rank cX11_rank 11 6 1 21 (some (.int)) 0 kX11_rank = true from by decide +kernel⟩
theorem fit_137 : FIT 137 := ⟨rfl, show fitL kX11_keepers cX11_keepers 11 3 4 105 (some (.int)) 0 kX11_keepers = true from by decide +kernel⟩
theorem fit_138 : FIT 138 := ⟨rfl, show fitL kX11_comesTo cX11_comesTo 11 4 5 128 (some (.int)) 0 kX11_comesTo = true from by decide +kernel⟩
theorem fit_139 : FIT 139 := ⟨rfl, show fitL kX11_popular cX11_popular 11 6 2 43 (some (.int)) 0 kX11_popular = true from by decide +kernel⟩
theorem fit_140 : FIT 140 := ⟨rfl, show fitL kX11_mutual cX11_mutual 11 4 2 43 (some (.int)) 0 kX11_mutual = true from by decide +kernel⟩
theorem fit_141 : FIT 141 := ⟨rfl, show fitL kX11_lonely cX11_lonely 11 3 0 0 (some (.int)) 0 kX11_lonely = true from by decide +kernel⟩
theorem fit_142 : FIT 142 := ⟨rfl, show fitL kX11_note cX11_note 11 3 2 45 (some (.int)) 0 kX11_note = true from by decide +kernel⟩
theorem fit_143 : FIT 143 := ⟨rfl, show fitL kX11_see cX11_see 11 5 2 48 (some (.int)) 0 kX11_see = true from by decide +kernel⟩
theorem fitc_0 : ∀ a ∈ [0, 1, 2, 3, 4, 5, 6, 7, 8, 9, 10, 11, 12, 13, 14, 15], FIT a := List.forall_mem_cons.mpr ⟨fit_0, List.forall_mem_cons.mpr ⟨fit_1, List.forall_mem_cons.mpr ⟨fit_2, List.forall_mem_cons.mpr ⟨fit_3, List.forall_mem_cons.mpr ⟨fit_4, List.forall_mem_cons.mpr ⟨fit_5, List.forall_mem_cons.mpr ⟨fit_6, List.forall_mem_cons.mpr ⟨fit_7, List.forall_mem_cons.mpr ⟨fit_8, List.forall_mem_cons.mpr ⟨fit_9, List.forall_mem_cons.mpr ⟨fit_10, List.forall_mem_cons.mpr ⟨fit_11, List.forall_mem_cons.mpr ⟨fit_12, List.forall_mem_cons.mpr ⟨fit_13, List.forall_mem_cons.mpr ⟨fit_14, List.forall_mem_cons.mpr ⟨fit_15, fun _ h => absurd h List.not_mem_nil⟩⟩⟩⟩⟩⟩⟩⟩⟩⟩⟩⟩⟩⟩⟩⟩
theorem fitc_1 : ∀ a ∈ [16, 17, 18, 19, 20, 21, 22, 23, 24, 25, 26, 27, 28, 29, 30, 31], FIT a := List.forall_mem_cons.mpr ⟨fit_16, List.forall_mem_cons.mpr ⟨fit_17, List.forall_mem_cons.mpr ⟨fit_18, List.forall_mem_cons.mpr ⟨fit_19, List.forall_mem_cons.mpr ⟨fit_20, List.forall_mem_cons.mpr ⟨fit_21, List.forall_mem_cons.mpr ⟨fit_22, List.forall_mem_cons.mpr ⟨fit_23, List.forall_mem_cons.mpr ⟨fit_24, List.forall_mem_cons.mpr ⟨fit_25, List.forall_mem_cons.mpr ⟨fit_26, List.forall_mem_cons.mpr ⟨fit_27, List.forall_mem_cons.mpr ⟨fit_28, List.forall_mem_cons.mpr ⟨fit_29, List.forall_mem_cons.mpr ⟨fit_30, List.forall_mem_cons.mpr ⟨fit_31, fun _ h => absurd h List.not_mem_nil⟩⟩⟩⟩⟩⟩⟩⟩⟩⟩⟩⟩⟩⟩⟩⟩
theorem fitc_2 : ∀ a ∈ [32, 33, 34, 35, 36, 37, 38, 39, 40, 41, 42, 43, 44, 45, 46, 47], FIT a := List.forall_mem_cons.mpr ⟨fit_32, List.forall_mem_cons.mpr ⟨fit_33, List.forall_mem_cons.mpr ⟨fit_34, List.forall_mem_cons.mpr ⟨fit_35, List.forall_mem_cons.mpr ⟨fit_36, List.forall_mem_cons.mpr ⟨fit_37, List.forall_mem_cons.mpr ⟨fit_38, List.forall_mem_cons.mpr ⟨fit_39, List.forall_mem_cons.mpr ⟨fit_40, List.forall_mem_cons.mpr ⟨fit_41, List.forall_mem_cons.mpr ⟨fit_42, List.forall_mem_cons.mpr ⟨fit_43, List.forall_mem_cons.mpr ⟨fit_44, List.forall_mem_cons.mpr ⟨fit_45, List.forall_mem_cons.mpr ⟨fit_46, List.forall_mem_cons.mpr ⟨fit_47, fun _ h => absurd h List.not_mem_nil⟩⟩⟩⟩⟩⟩⟩⟩⟩⟩⟩⟩⟩⟩⟩⟩
theorem fitc_3 : ∀ a ∈ [48, 49, 50, 51, 52, 53, 54, 55, 56, 57, 58, 59, 60, 61, 62, 63], FIT a := List.forall_mem_cons.mpr ⟨fit_48, List.forall_mem_cons.mpr ⟨fit_49, List.forall_mem_cons.mpr ⟨fit_50, List.forall_mem_cons.mpr ⟨fit_51, List.forall_mem_cons.mpr ⟨fit_52, List.forall_mem_cons.mpr ⟨fit_53, List.forall_mem_cons.mpr ⟨fit_54, List.forall_mem_cons.mpr ⟨fit_55, List.forall_mem_cons.mpr ⟨fit_56, List.forall_mem_cons.mpr ⟨fit_57, List.forall_mem_cons.mpr ⟨fit_58, List.forall_mem_cons.mpr ⟨fit_59, List.forall_mem_cons.mpr ⟨fit_60, List.forall_mem_cons.mpr ⟨fit_61, List.forall_mem_cons.mpr ⟨fit_62, List.forall_mem_cons.mpr ⟨fit_63, fun _ h => absurd h List.not_mem_nil⟩⟩⟩⟩⟩⟩⟩⟩⟩⟩⟩⟩⟩⟩⟩⟩
theorem fitc_4 : ∀ a ∈ [64, 65, 66, 67, 68, 69, 70, 71, 72, 73, 74, 75, 76, 77, 78, 79], FIT a := List.forall_mem_cons.mpr ⟨fit_64, List.forall_mem_cons.mpr ⟨fit_65, List.forall_mem_cons.mpr ⟨fit_66, List.forall_mem_cons.mpr ⟨fit_67, List.forall_mem_cons.mpr ⟨fit_68, List.forall_mem_cons.mpr ⟨fit_69, List.forall_mem_cons.mpr ⟨fit_70, List.forall_mem_cons.mpr ⟨fit_71, List.forall_mem_cons.mpr ⟨fit_72, List.forall_mem_cons.mpr ⟨fit_73, List.forall_mem_cons.mpr ⟨fit_74, List.forall_mem_cons.mpr ⟨fit_75, List.forall_mem_cons.mpr ⟨fit_76, List.forall_mem_cons.mpr ⟨fit_77, List.forall_mem_cons.mpr ⟨fit_78, List.forall_mem_cons.mpr ⟨fit_79, fun _ h => absurd h List.not_mem_nil⟩⟩⟩⟩⟩⟩⟩⟩⟩⟩⟩⟩⟩⟩⟩⟩
theorem fitc_5 : ∀ a ∈ [80, 81, 82, 83, 84, 85, 86, 87, 88, 89, 90, 91, 92, 93, 94, 95], FIT a := List.forall_mem_cons.mpr ⟨fit_80, List.forall_mem_cons.mpr ⟨fit_81, List.forall_mem_cons.mpr ⟨fit_82, List.forall_mem_cons.mpr ⟨fit_83, List.forall_mem_cons.mpr ⟨fit_84, List.forall_mem_cons.mpr ⟨fit_85, List.forall_mem_cons.mpr ⟨fit_86, List.forall_mem_cons.mpr ⟨fit_87, List.forall_mem_cons.mpr ⟨fit_88, List.forall_mem_cons.mpr ⟨fit_89, List.forall_mem_cons.mpr ⟨fit_90, List.forall_mem_cons.mpr ⟨fit_91, List.forall_mem_cons.mpr ⟨fit_92, List.forall_mem_cons.mpr ⟨fit_93, List.forall_mem_cons.mpr ⟨fit_94, List.forall_mem_cons.mpr ⟨fit_95, fun _ h => absurd h List.not_mem_nil⟩⟩⟩⟩⟩⟩⟩⟩⟩⟩⟩⟩⟩⟩⟩⟩
theorem fitc_6 : ∀ a ∈ [96, 97, 98, 99, 100, 101, 102, 103, 104, 105, 106, 107, 108, 109, 110, 111], FIT a := List.forall_mem_cons.mpr ⟨fit_96, List.forall_mem_cons.mpr ⟨fit_97, List.forall_mem_cons.mpr ⟨fit_98, List.forall_mem_cons.mpr ⟨fit_99, List.forall_mem_cons.mpr ⟨fit_100, List.forall_mem_cons.mpr ⟨fit_101, List.forall_mem_cons.mpr ⟨fit_102, List.forall_mem_cons.mpr ⟨fit_103, List.forall_mem_cons.mpr ⟨fit_104, List.forall_mem_cons.mpr ⟨fit_105, List.forall_mem_cons.mpr ⟨fit_106, List.forall_mem_cons.mpr ⟨fit_107, List.forall_mem_cons.mpr ⟨fit_108, List.forall_mem_cons.mpr ⟨fit_109, List.forall_mem_cons.mpr ⟨fit_110, List.forall_mem_cons.mpr ⟨fit_111, fun _ h => absurd h List.not_mem_nil⟩⟩⟩⟩⟩⟩⟩⟩⟩⟩⟩⟩⟩⟩⟩⟩
theorem fitc_7 : ∀ a ∈ [112, 113, 114, 115, 116, 117, 118, 119, 120, 121, 122, 123, 124, 125, 126, 127], FIT a := List.forall_mem_cons.mpr ⟨fit_112, List.forall_mem_cons.mpr ⟨fit_113, List.forall_mem_cons.mpr ⟨fit_114, List.forall_mem_cons.mpr ⟨fit_115, List.forall_mem_cons.mpr ⟨fit_116, List.forall_mem_cons.mpr ⟨fit_117, List.forall_mem_cons.mpr ⟨fit_118, List.forall_mem_cons.mpr ⟨fit_119, List.forall_mem_cons.mpr ⟨fit_120, List.forall_mem_cons.mpr ⟨fit_121, List.forall_mem_cons.mpr ⟨fit_122, List.forall_mem_cons.mpr ⟨fit_123, List.forall_mem_cons.mpr ⟨fit_124, List.forall_mem_cons.mpr ⟨fit_125, List.forall_mem_cons.mpr ⟨fit_126, List.forall_mem_cons.mpr ⟨fit_127, fun _ h => absurd h List.not_mem_nil⟩⟩⟩⟩⟩⟩⟩⟩⟩⟩⟩⟩⟩⟩⟩⟩
theorem fitc_8 : ∀ a ∈ [128, 129, 130, 131, 132, 133, 134, 135, 136, 137, 138, 139, 140, 141, 142, 143], FIT a := List.forall_mem_cons.mpr ⟨fit_128, List.forall_mem_cons.mpr ⟨fit_129, List.forall_mem_cons.mpr ⟨fit_130, List.forall_mem_cons.mpr ⟨fit_131, List.forall_mem_cons.mpr ⟨fit_132, List.forall_mem_cons.mpr ⟨fit_133, List.forall_mem_cons.mpr ⟨fit_134, List.forall_mem_cons.mpr ⟨fit_135, List.forall_mem_cons.mpr ⟨fit_136, List.forall_mem_cons.mpr ⟨fit_137, List.forall_mem_cons.mpr ⟨fit_138, List.forall_mem_cons.mpr ⟨fit_139, List.forall_mem_cons.mpr ⟨fit_140, List.forall_mem_cons.mpr ⟨fit_141, List.forall_mem_cons.mpr ⟨fit_142, List.forall_mem_cons.mpr ⟨fit_143, fun _ h => absurd h List.not_mem_nil⟩⟩⟩⟩⟩⟩⟩⟩⟩⟩⟩⟩⟩⟩⟩⟩
