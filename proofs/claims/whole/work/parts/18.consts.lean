def mJ0_length_8abf5 : Nat := 0
def mJ0_charAt_5068e : Nat := 1
def mJ7_fill_53178 : Nat := 2
def mJ7_fill_d0a16 : Nat := 3
def mX3_makerOf : Nat := 4
def mX3_parentOf : Nat := 5
def mX0_guardInner : Nat := 6
def mX0_measureIf : Nat := 7
def mX0_measure : Nat := 8
def mX6_oneIf : Nat := 9
def mX0_guardedIfs : Nat := 10
def mX1_howManyWays : Nat := 11
def mX1_holding : Nat := 12
def mX1_neverBoth : Nat := 13
def mX1_isCovered : Nat := 14
def mX3_readsOf : Nat := 15
def mX1_liveByWay : Nat := 16
def mX1_liveOnes : Nat := 17
def mX2_begin : Nat := 18
def mX2_beginBySeed : Nat := 19
def mX2_computed : Nat := 20
def mX2_doOne : Nat := 21
def mX2_goOverIf : Nat := 22
def mX2_doAll : Nat := 23
def mX3_clear : Nat := 24
def mX3_becomeLike : Nat := 25
def mX3_hasRoomFor : Nat := 26
def mX3_append : Nat := 27
def mX3_hasInstruction : Nat := 28
def mX3_hasIf : Nat := 29
def mX3_guardCount : Nat := 30
def mX3_hasGuard : Nat := 31
def mX3_isCompute : Nat := 32
def mX3_ifOf : Nat := 33
def mX3_isYes : Nat := 34
def mX3_tenthsOf : Nat := 35
def mX3_depthOf : Nat := 36
def mX3_greatestDepth : Nat := 37
def mX3_isWithin : Nat := 38
def mX3_howManyUnder : Nat := 39
def mX3_howManyOf : Nat := 40
def mX3_secondsOf : Nat := 41
def mX3_mostOfPart : Nat := 42
def mX3_mayChange : Nat := 43
def mX3_change : Nat := 44
def mX3_findIfs : Nat := 45
def mX3_move : Nat := 46
def mX3_dropUnread : Nat := 47
def mX3_firstUnder : Nat := 48
def mX3_areAlike : Nat := 49
def mX3_mayMerge : Nat := 50
def mX3_firstToMerge : Nat := 51
def mX3_mergeAhead : Nat := 52
def mX4_renew : Nat := 53
def mX4_write : Nat := 54
def mX4_faultOfChange : Nat := 55
def mX5_refuse : Nat := 56
def mX5_endOfSpan : Nat := 57
def mX5_readToken : Nat := 58
def mX5_takeSign : Nat := 59
def mX5_closeSide : Nat := 60
def mX5_nameIs : Nat := 61
def mX5_kindOfName : Nat := 62
def mX5_takeNumber : Nat := 63
def mX5_takeVariable : Nat := 64
def mX5_takeSecond : Nat := 65
def mX5_takeStatement : Nat := 66
def mX5_takeAll : Nat := 67
def mX6_feed : Nat := 68
def mX6_end : Nat := 69
def mX6_text : Nat := 70
def mX6_fault : Nat := 71
def mX6_measured : Nat := 72
def mX6_rule : Nat := 73
def mX6_code : Nat := 74
def mX6_guard : Nat := 75
def mX6_within : Nat := 76
def mX6_apart : Nat := 77
def mX6_cover : Nat := 78
def mX6_run : Nat := 79
def mX6_value : Nat := 80
def mX6_spent : Nat := 81
def mX6_runs : Nat := 82
def mX6_wish : Nat := 83
def mX6_want : Nat := 84
def mX6_greatestCommon : Nat := 85
def mX6_partOfFraction : Nat := 86
def mX6_mean : Nat := 87
def mX6_odds : Nat := 88
def mX6_live : Nat := 89
def mX6_out : Nat := 90
def mX6_sweep : Nat := 91
def mX6_merge : Nat := 92
def mX6_set : Nat := 93
def mX6_turn : Nat := 94
def mX6_keep : Nat := 95
def mX6_back : Nat := 96
def mX6_sheet : Nat := 97
def mX6_lay : Nat := 98
def mX6_read : Nat := 99
def mX6_torn : Nat := 100
def mX6_count : Nat := 101
def mX7_in : Nat := 102
def mX7_flag : Nat := 103
def mX7_firstDraft : Nat := 104
def mX7_keepDraft : Nat := 105
def mX7_feed : Nat := 106
def mX7_end : Nat := 107
def mX7_requires : Nat := 108
def mX7_byteAt : Nat := 109
def mX7_is : Nat := 110
def mX7_kindNow : Nat := 111
def mX7_reads : Nat := 112
def mX7_readNumber : Nat := 113
def mX7_readVariable : Nat := 114
def mX7_takes : Nat := 115
def mX7_readStatement : Nat := 116
def mX7_sideEnds : Nat := 117
def mX7_text : Nat := 118
def mX7_fault : Nat := 119
def mX7_of : Nat := 120
def mX7_isCode : Nat := 121
def mX7_ifs : Nat := 122
def mX7_codeOf : Nat := 123
def mX7_ifOf : Nat := 124
def mX7_isIf : Nat := 125
def mX7_isGuard : Nat := 126
def mX7_isPart : Nat := 127
def mX7_parentOf : Nat := 128
def mX7_depthOf : Nat := 129
def mX7_isWithin : Nat := 130
def mX7_costOf : Nat := 131
def mX7_flatOf : Nat := 132
def mX7_flatOfAll : Nat := 133
def mX7_deepest : Nat := 134
def mX7_meansUnder : Nat := 135
def mX7_findMeans : Nat := 136
def mX7_guardedMany : Nat := 137
def mX7_rule : Nat := 138
def mX7_code : Nat := 139
def mX7_standUnder : Nat := 140
def mX7_guard : Nat := 141
def mX7_within : Nat := 142
def mX7_holdsBy : Nat := 143
def mX7_apart : Nat := 144
def mX7_cover : Nat := 145
def mX7_starts : Nat := 146
def mX7_brought : Nat := 147
def mX7_isDone : Nat := 148
def mX7_ifComes : Nat := 149
def mX7_runs1 : Nat := 150
def mX7_run : Nat := 151
def mX7_value : Nat := 152
def mX7_spent : Nat := 153
def mX7_draws : Nat := 154
def mX7_runs : Nat := 155
def mX7_wish : Nat := 156
def mX7_becomes : Nat := 157
def mX7_want : Nat := 158
def mX7_lowest : Nat := 159
def mX7_mean : Nat := 160
def mX7_odds : Nat := 161
def mX7_isRead : Nat := 162
def mX7_isLiveBy : Nat := 163
def mX7_isLive : Nat := 164
def mX7_live : Nat := 165
def mX7_out : Nat := 166
def mX7_codeGoes : Nat := 167
def mX7_sweepOnce : Nat := 168
def mX7_sweep : Nat := 169
def mX7_firstUnder : Nat := 170
def mX7_isAlike : Nat := 171
def mX7_isMerged : Nat := 172
def mX7_mergesOnce : Nat := 173
def mX7_merge : Nat := 174
def mX7_set : Nat := 175
def mX7_turn : Nat := 176
def mX7_keep : Nat := 177
def mX7_back : Nat := 178
def mX7_isSheet : Nat := 179
def mX7_sheet : Nat := 180
def mX7_lay : Nat := 181
def mX7_read : Nat := 182
def mX7_torn : Nat := 183
def mX7_sumOf : Nat := 184
def mX7_count : Nat := 185
def mL_law : Nat := 186
theorem eJ0_length_8abf5 : dcode mJ0_length_8abf5 = cJ0_length_8abf5 := rfl
theorem eJ0_charAt_5068e : dcode mJ0_charAt_5068e = cJ0_charAt_5068e := rfl
theorem eJ7_fill_53178 : dcode mJ7_fill_53178 = cJ7_fill_53178 := rfl
theorem eJ7_fill_d0a16 : dcode mJ7_fill_d0a16 = cJ7_fill_d0a16 := rfl
theorem eX3_makerOf : dcode mX3_makerOf = cX3_makerOf := rfl
theorem eX3_parentOf : dcode mX3_parentOf = cX3_parentOf := rfl
theorem eX0_guardInner : dcode mX0_guardInner = cX0_guardInner := rfl
theorem eX0_measureIf : dcode mX0_measureIf = cX0_measureIf := rfl
theorem eX0_measure : dcode mX0_measure = cX0_measure := rfl
theorem eX6_oneIf : dcode mX6_oneIf = cX6_oneIf := rfl
theorem eX0_guardedIfs : dcode mX0_guardedIfs = cX0_guardedIfs := rfl
theorem eX1_howManyWays : dcode mX1_howManyWays = cX1_howManyWays := rfl
theorem eX1_holding : dcode mX1_holding = cX1_holding := rfl
theorem eX1_neverBoth : dcode mX1_neverBoth = cX1_neverBoth := rfl
theorem eX1_isCovered : dcode mX1_isCovered = cX1_isCovered := rfl
theorem eX3_readsOf : dcode mX3_readsOf = cX3_readsOf := rfl
theorem eX1_liveByWay : dcode mX1_liveByWay = cX1_liveByWay := rfl
theorem eX1_liveOnes : dcode mX1_liveOnes = cX1_liveOnes := rfl
theorem eX2_begin : dcode mX2_begin = cX2_begin := rfl
theorem eX2_beginBySeed : dcode mX2_beginBySeed = cX2_beginBySeed := rfl
theorem eX2_computed : dcode mX2_computed = cX2_computed := rfl
theorem eX2_doOne : dcode mX2_doOne = cX2_doOne := rfl
theorem eX2_goOverIf : dcode mX2_goOverIf = cX2_goOverIf := rfl
theorem eX2_doAll : dcode mX2_doAll = cX2_doAll := rfl
theorem eX3_clear : dcode mX3_clear = cX3_clear := rfl
theorem eX3_becomeLike : dcode mX3_becomeLike = cX3_becomeLike := rfl
theorem eX3_hasRoomFor : dcode mX3_hasRoomFor = cX3_hasRoomFor := rfl
theorem eX3_append : dcode mX3_append = cX3_append := rfl
theorem eX3_hasInstruction : dcode mX3_hasInstruction = cX3_hasInstruction := rfl
theorem eX3_hasIf : dcode mX3_hasIf = cX3_hasIf := rfl
theorem eX3_guardCount : dcode mX3_guardCount = cX3_guardCount := rfl
theorem eX3_hasGuard : dcode mX3_hasGuard = cX3_hasGuard := rfl
theorem eX3_isCompute : dcode mX3_isCompute = cX3_isCompute := rfl
theorem eX3_ifOf : dcode mX3_ifOf = cX3_ifOf := rfl
theorem eX3_isYes : dcode mX3_isYes = cX3_isYes := rfl
theorem eX3_tenthsOf : dcode mX3_tenthsOf = cX3_tenthsOf := rfl
theorem eX3_depthOf : dcode mX3_depthOf = cX3_depthOf := rfl
theorem eX3_greatestDepth : dcode mX3_greatestDepth = cX3_greatestDepth := rfl
theorem eX3_isWithin : dcode mX3_isWithin = cX3_isWithin := rfl
theorem eX3_howManyUnder : dcode mX3_howManyUnder = cX3_howManyUnder := rfl
theorem eX3_howManyOf : dcode mX3_howManyOf = cX3_howManyOf := rfl
theorem eX3_secondsOf : dcode mX3_secondsOf = cX3_secondsOf := rfl
theorem eX3_mostOfPart : dcode mX3_mostOfPart = cX3_mostOfPart := rfl
theorem eX3_mayChange : dcode mX3_mayChange = cX3_mayChange := rfl
theorem eX3_change : dcode mX3_change = cX3_change := rfl
theorem eX3_findIfs : dcode mX3_findIfs = cX3_findIfs := rfl
theorem eX3_move : dcode mX3_move = cX3_move := rfl
theorem eX3_dropUnread : dcode mX3_dropUnread = cX3_dropUnread := rfl
theorem eX3_firstUnder : dcode mX3_firstUnder = cX3_firstUnder := rfl
theorem eX3_areAlike : dcode mX3_areAlike = cX3_areAlike := rfl
theorem eX3_mayMerge : dcode mX3_mayMerge = cX3_mayMerge := rfl
theorem eX3_firstToMerge : dcode mX3_firstToMerge = cX3_firstToMerge := rfl
theorem eX3_mergeAhead : dcode mX3_mergeAhead = cX3_mergeAhead := rfl
theorem eX4_renew : dcode mX4_renew = cX4_renew := rfl
theorem eX4_write : dcode mX4_write = cX4_write := rfl
theorem eX4_faultOfChange : dcode mX4_faultOfChange = cX4_faultOfChange := rfl
theorem eX5_refuse : dcode mX5_refuse = cX5_refuse := rfl
theorem eX5_endOfSpan : dcode mX5_endOfSpan = cX5_endOfSpan := rfl
theorem eX5_readToken : dcode mX5_readToken = cX5_readToken := rfl
theorem eX5_takeSign : dcode mX5_takeSign = cX5_takeSign := rfl
theorem eX5_closeSide : dcode mX5_closeSide = cX5_closeSide := rfl
theorem eX5_nameIs : dcode mX5_nameIs = cX5_nameIs := rfl
theorem eX5_kindOfName : dcode mX5_kindOfName = cX5_kindOfName := rfl
theorem eX5_takeNumber : dcode mX5_takeNumber = cX5_takeNumber := rfl
theorem eX5_takeVariable : dcode mX5_takeVariable = cX5_takeVariable := rfl
theorem eX5_takeSecond : dcode mX5_takeSecond = cX5_takeSecond := rfl
theorem eX5_takeStatement : dcode mX5_takeStatement = cX5_takeStatement := rfl
theorem eX5_takeAll : dcode mX5_takeAll = cX5_takeAll := rfl
theorem eX6_feed : dcode mX6_feed = cX6_feed := rfl
theorem eX6_end : dcode mX6_end = cX6_end := rfl
theorem eX6_text : dcode mX6_text = cX6_text := rfl
theorem eX6_fault : dcode mX6_fault = cX6_fault := rfl
theorem eX6_measured : dcode mX6_measured = cX6_measured := rfl
theorem eX6_rule : dcode mX6_rule = cX6_rule := rfl
theorem eX6_code : dcode mX6_code = cX6_code := rfl
theorem eX6_guard : dcode mX6_guard = cX6_guard := rfl
theorem eX6_within : dcode mX6_within = cX6_within := rfl
theorem eX6_apart : dcode mX6_apart = cX6_apart := rfl
theorem eX6_cover : dcode mX6_cover = cX6_cover := rfl
theorem eX6_run : dcode mX6_run = cX6_run := rfl
theorem eX6_value : dcode mX6_value = cX6_value := rfl
theorem eX6_spent : dcode mX6_spent = cX6_spent := rfl
theorem eX6_runs : dcode mX6_runs = cX6_runs := rfl
theorem eX6_wish : dcode mX6_wish = cX6_wish := rfl
theorem eX6_want : dcode mX6_want = cX6_want := rfl
theorem eX6_greatestCommon : dcode mX6_greatestCommon = cX6_greatestCommon := rfl
theorem eX6_partOfFraction : dcode mX6_partOfFraction = cX6_partOfFraction := rfl
theorem eX6_mean : dcode mX6_mean = cX6_mean := rfl
theorem eX6_odds : dcode mX6_odds = cX6_odds := rfl
theorem eX6_live : dcode mX6_live = cX6_live := rfl
theorem eX6_out : dcode mX6_out = cX6_out := rfl
theorem eX6_sweep : dcode mX6_sweep = cX6_sweep := rfl
theorem eX6_merge : dcode mX6_merge = cX6_merge := rfl
theorem eX6_set : dcode mX6_set = cX6_set := rfl
theorem eX6_turn : dcode mX6_turn = cX6_turn := rfl
theorem eX6_keep : dcode mX6_keep = cX6_keep := rfl
theorem eX6_back : dcode mX6_back = cX6_back := rfl
theorem eX6_sheet : dcode mX6_sheet = cX6_sheet := rfl
theorem eX6_lay : dcode mX6_lay = cX6_lay := rfl
theorem eX6_read : dcode mX6_read = cX6_read := rfl
theorem eX6_torn : dcode mX6_torn = cX6_torn := rfl
theorem eX6_count : dcode mX6_count = cX6_count := rfl
theorem eX7_in : dcode mX7_in = cX7_in := rfl
theorem eX7_flag : dcode mX7_flag = cX7_flag := rfl
theorem eX7_firstDraft : dcode mX7_firstDraft = cX7_firstDraft := rfl
theorem eX7_keepDraft : dcode mX7_keepDraft = cX7_keepDraft := rfl
theorem eX7_feed : dcode mX7_feed = cX7_feed := rfl
theorem eX7_end : dcode mX7_end = cX7_end := rfl
theorem eX7_requires : dcode mX7_requires = cX7_requires := rfl
theorem eX7_byteAt : dcode mX7_byteAt = cX7_byteAt := rfl
theorem eX7_is : dcode mX7_is = cX7_is := rfl
theorem eX7_kindNow : dcode mX7_kindNow = cX7_kindNow := rfl
theorem eX7_reads : dcode mX7_reads = cX7_reads := rfl
theorem eX7_readNumber : dcode mX7_readNumber = cX7_readNumber := rfl
theorem eX7_readVariable : dcode mX7_readVariable = cX7_readVariable := rfl
theorem eX7_takes : dcode mX7_takes = cX7_takes := rfl
theorem eX7_readStatement : dcode mX7_readStatement = cX7_readStatement := rfl
theorem eX7_sideEnds : dcode mX7_sideEnds = cX7_sideEnds := rfl
theorem eX7_text : dcode mX7_text = cX7_text := rfl
theorem eX7_fault : dcode mX7_fault = cX7_fault := rfl
theorem eX7_of : dcode mX7_of = cX7_of := rfl
theorem eX7_isCode : dcode mX7_isCode = cX7_isCode := rfl
theorem eX7_ifs : dcode mX7_ifs = cX7_ifs := rfl
theorem eX7_codeOf : dcode mX7_codeOf = cX7_codeOf := rfl
theorem eX7_ifOf : dcode mX7_ifOf = cX7_ifOf := rfl
theorem eX7_isIf : dcode mX7_isIf = cX7_isIf := rfl
theorem eX7_isGuard : dcode mX7_isGuard = cX7_isGuard := rfl
theorem eX7_isPart : dcode mX7_isPart = cX7_isPart := rfl
theorem eX7_parentOf : dcode mX7_parentOf = cX7_parentOf := rfl
theorem eX7_depthOf : dcode mX7_depthOf = cX7_depthOf := rfl
theorem eX7_isWithin : dcode mX7_isWithin = cX7_isWithin := rfl
theorem eX7_costOf : dcode mX7_costOf = cX7_costOf := rfl
theorem eX7_flatOf : dcode mX7_flatOf = cX7_flatOf := rfl
theorem eX7_flatOfAll : dcode mX7_flatOfAll = cX7_flatOfAll := rfl
theorem eX7_deepest : dcode mX7_deepest = cX7_deepest := rfl
theorem eX7_meansUnder : dcode mX7_meansUnder = cX7_meansUnder := rfl
theorem eX7_findMeans : dcode mX7_findMeans = cX7_findMeans := rfl
theorem eX7_guardedMany : dcode mX7_guardedMany = cX7_guardedMany := rfl
theorem eX7_rule : dcode mX7_rule = cX7_rule := rfl
theorem eX7_code : dcode mX7_code = cX7_code := rfl
theorem eX7_standUnder : dcode mX7_standUnder = cX7_standUnder := rfl
theorem eX7_guard : dcode mX7_guard = cX7_guard := rfl
theorem eX7_within : dcode mX7_within = cX7_within := rfl
theorem eX7_holdsBy : dcode mX7_holdsBy = cX7_holdsBy := rfl
theorem eX7_apart : dcode mX7_apart = cX7_apart := rfl
theorem eX7_cover : dcode mX7_cover = cX7_cover := rfl
theorem eX7_starts : dcode mX7_starts = cX7_starts := rfl
theorem eX7_brought : dcode mX7_brought = cX7_brought := rfl
theorem eX7_isDone : dcode mX7_isDone = cX7_isDone := rfl
theorem eX7_ifComes : dcode mX7_ifComes = cX7_ifComes := rfl
theorem eX7_runs1 : dcode mX7_runs1 = cX7_runs1 := rfl
theorem eX7_run : dcode mX7_run = cX7_run := rfl
theorem eX7_value : dcode mX7_value = cX7_value := rfl
theorem eX7_spent : dcode mX7_spent = cX7_spent := rfl
theorem eX7_draws : dcode mX7_draws = cX7_draws := rfl
theorem eX7_runs : dcode mX7_runs = cX7_runs := rfl
theorem eX7_wish : dcode mX7_wish = cX7_wish := rfl
theorem eX7_becomes : dcode mX7_becomes = cX7_becomes := rfl
theorem eX7_want : dcode mX7_want = cX7_want := rfl
theorem eX7_lowest : dcode mX7_lowest = cX7_lowest := rfl
theorem eX7_mean : dcode mX7_mean = cX7_mean := rfl
theorem eX7_odds : dcode mX7_odds = cX7_odds := rfl
theorem eX7_isRead : dcode mX7_isRead = cX7_isRead := rfl
theorem eX7_isLiveBy : dcode mX7_isLiveBy = cX7_isLiveBy := rfl
theorem eX7_isLive : dcode mX7_isLive = cX7_isLive := rfl
theorem eX7_live : dcode mX7_live = cX7_live := rfl
theorem eX7_out : dcode mX7_out = cX7_out := rfl
theorem eX7_codeGoes : dcode mX7_codeGoes = cX7_codeGoes := rfl
theorem eX7_sweepOnce : dcode mX7_sweepOnce = cX7_sweepOnce := rfl
theorem eX7_sweep : dcode mX7_sweep = cX7_sweep := rfl
theorem eX7_firstUnder : dcode mX7_firstUnder = cX7_firstUnder := rfl
theorem eX7_isAlike : dcode mX7_isAlike = cX7_isAlike := rfl
theorem eX7_isMerged : dcode mX7_isMerged = cX7_isMerged := rfl
theorem eX7_mergesOnce : dcode mX7_mergesOnce = cX7_mergesOnce := rfl
theorem eX7_merge : dcode mX7_merge = cX7_merge := rfl
theorem eX7_set : dcode mX7_set = cX7_set := rfl
theorem eX7_turn : dcode mX7_turn = cX7_turn := rfl
theorem eX7_keep : dcode mX7_keep = cX7_keep := rfl
theorem eX7_back : dcode mX7_back = cX7_back := rfl
theorem eX7_isSheet : dcode mX7_isSheet = cX7_isSheet := rfl
theorem eX7_sheet : dcode mX7_sheet = cX7_sheet := rfl
theorem eX7_lay : dcode mX7_lay = cX7_lay := rfl
theorem eX7_read : dcode mX7_read = cX7_read := rfl
theorem eX7_torn : dcode mX7_torn = cX7_torn := rfl
theorem eX7_sumOf : dcode mX7_sumOf = cX7_sumOf := rfl
theorem eX7_count : dcode mX7_count = cX7_count := rfl
theorem eL_law : dcode mL_law = cL_law := rfl
theorem kc_bipush_10 : (Int8.ofInt (10)).toInt32 = nI 10 := by decide +kernel
theorem kc_bipush_100 : (Int8.ofInt (100)).toInt32 = nI 100 := by decide +kernel
theorem kc_bipush_102 : (Int8.ofInt (102)).toInt32 = nI 102 := by decide +kernel
theorem kc_bipush_105 : (Int8.ofInt (105)).toInt32 = nI 105 := by decide +kernel
theorem kc_bipush_108 : (Int8.ofInt (108)).toInt32 = nI 108 := by decide +kernel
theorem kc_bipush_109 : (Int8.ofInt (109)).toInt32 = nI 109 := by decide +kernel
theorem kc_bipush_112 : (Int8.ofInt (112)).toInt32 = nI 112 := by decide +kernel
theorem kc_bipush_115 : (Int8.ofInt (115)).toInt32 = nI 115 := by decide +kernel
theorem kc_bipush_116 : (Int8.ofInt (116)).toInt32 = nI 116 := by decide +kernel
theorem kc_bipush_117 : (Int8.ofInt (117)).toInt32 = nI 117 := by decide +kernel
theorem kc_bipush_118 : (Int8.ofInt (118)).toInt32 = nI 118 := by decide +kernel
theorem kc_bipush_120 : (Int8.ofInt (120)).toInt32 = nI 120 := by decide +kernel
theorem kc_bipush_121 : (Int8.ofInt (121)).toInt32 = nI 121 := by decide +kernel
theorem kc_bipush_122 : (Int8.ofInt (122)).toInt32 = nI 122 := by decide +kernel
theorem kc_bipush_123 : (Int8.ofInt (123)).toInt32 = nI 123 := by decide +kernel
theorem kc_bipush_125 : (Int8.ofInt (125)).toInt32 = nI 125 := by decide +kernel
theorem kc_bipush_127 : (Int8.ofInt (127)).toInt32 = nI 127 := by decide +kernel
theorem kc_bipush_13 : (Int8.ofInt (13)).toInt32 = nI 13 := by decide +kernel
theorem kc_bipush_16 : (Int8.ofInt (16)).toInt32 = nI 16 := by decide +kernel
theorem kc_bipush_24 : (Int8.ofInt (24)).toInt32 = nI 24 := by decide +kernel
theorem kc_bipush_31 : (Int8.ofInt (31)).toInt32 = nI 31 := by decide +kernel
theorem kc_bipush_32 : (Int8.ofInt (32)).toInt32 = nI 32 := by decide +kernel
theorem kc_bipush_40 : (Int8.ofInt (40)).toInt32 = nI 40 := by decide +kernel
theorem kc_bipush_48 : (Int8.ofInt (48)).toInt32 = nI 48 := by decide +kernel
theorem kc_bipush_57 : (Int8.ofInt (57)).toInt32 = nI 57 := by decide +kernel
theorem kc_bipush_59 : (Int8.ofInt (59)).toInt32 = nI 59 := by decide +kernel
theorem kc_bipush_6 : (Int8.ofInt (6)).toInt32 = nI 6 := by decide +kernel
theorem kc_bipush_7 : (Int8.ofInt (7)).toInt32 = nI 7 := by decide +kernel
theorem kc_bipush_8 : (Int8.ofInt (8)).toInt32 = nI 8 := by decide +kernel
theorem kc_bipush_9 : (Int8.ofInt (9)).toInt32 = nI 9 := by decide +kernel
theorem kc_bipush_97 : (Int8.ofInt (97)).toInt32 = nI 97 := by decide +kernel
theorem kc_bipush_98 : (Int8.ofInt (98)).toInt32 = nI 98 := by decide +kernel
theorem kc_bipush_99 : (Int8.ofInt (99)).toInt32 = nI 99 := by decide +kernel
theorem kc_bipush_m10 : (Int8.ofInt (-10)).toInt32 = (-10) := by decide +kernel
theorem kc_bipush_m11 : (Int8.ofInt (-11)).toInt32 = (-11) := by decide +kernel
theorem kc_bipush_m12 : (Int8.ofInt (-12)).toInt32 = (-12) := by decide +kernel
theorem kc_bipush_m14 : (Int8.ofInt (-14)).toInt32 = (-14) := by decide +kernel
theorem kc_bipush_m2 : (Int8.ofInt (-2)).toInt32 = (-2) := by decide +kernel
theorem kc_bipush_m20 : (Int8.ofInt (-20)).toInt32 = (-20) := by decide +kernel
theorem kc_bipush_m3 : (Int8.ofInt (-3)).toInt32 = (-3) := by decide +kernel
theorem kc_bipush_m4 : (Int8.ofInt (-4)).toInt32 = (-4) := by decide +kernel
theorem kc_iconst_0 : Int32.ofInt (0) = nI 0 := by decide +kernel
theorem kc_iconst_1 : Int32.ofInt (1) = nI 1 := by decide +kernel
theorem kc_iconst_2 : Int32.ofInt (2) = nI 2 := by decide +kernel
theorem kc_iconst_3 : Int32.ofInt (3) = nI 3 := by decide +kernel
theorem kc_iconst_4 : Int32.ofInt (4) = nI 4 := by decide +kernel
theorem kc_iconst_5 : Int32.ofInt (5) = nI 5 := by decide +kernel
theorem kc_iconst_m1 : Int32.ofInt (-1) = (-1) := by decide +kernel
theorem kc_lconst_0 : Int64.ofNat ((0 : Fin 2) : Nat) = lN 0 := by decide +kernel
theorem kc_lconst_1 : Int64.ofNat ((1 : Fin 2) : Nat) = lN 1 := by decide +kernel
theorem kc_sipush_12345 : (Int16.ofInt (12345)).toInt32 = nI 12345 := by decide +kernel
theorem kc_sipush_128 : (Int16.ofInt (128)).toInt32 = nI 128 := by decide +kernel
theorem kc_sipush_255 : (Int16.ofInt (255)).toInt32 = nI 255 := by decide +kernel
theorem kc_sipush_320 : (Int16.ofInt (320)).toInt32 = nI 320 := by decide +kernel
theorem kc_sipush_32767 : (Int16.ofInt (32767)).toInt32 = nI 32767 := by decide +kernel
theorem sw_ne {x : Int32} {n : Nat} (h : ¬ x = nI n) (hn : n < 2 ^ 31 := by decide) : x.toInt ≠ (n : Int) := fun e => h (by
  apply Int32.toInt_inj.mp
  rw [e, nI_toInt hn])
theorem dcat_le {st : List Value} (h : Nat.ble (dcat st) 8 = true) : dcat st ≤ 8 := Nat.le_of_ble_eq_true h
theorem dlen_le {a n : Nat} (h : Nat.ble a n = true) : a ≤ n := Nat.le_of_ble_eq_true h
theorem den_noV {M pc : Nat} {L : dL} {st : List Value} {σ : dS} {k q : Nat} {e : Nat × Nat × Nat} {cc : ByteArray} {as rest : List Value} (hc : dcode M = cc) (hd : decode cc pc = .ok (.invokevirtual k, 3)) (hl : dlink (down M) k = some e) (h0 : e.1 = 0) (h2 : as.length + 1 = dnar e.2.1) (hs : st = as.reverse ++ .ref q :: rest) (hO : ¬ disO σ q (dci e.2.1) = true) : den M pc L st σ = none := by
  refine den_no ?_
  rw [dstep_eq hc hd rfl, hs]
  have er : drecv (as.reverse ++ .ref q :: rest) (dnar e.2.1) = some q := by
    unfold drecv
    rw [← h2, show as.length + 1 - 1 = as.reverse.length by simp, List.getElem?_append_right (Nat.le_refl _), Nat.sub_self]
    rfl
  simp only [dexec, hl, Option.bind_some, h0, er, if_true]
  exact if_neg hO
theorem den_noP {M pc : Nat} {L : dL} {st : List Value} {σ : dS} {k q : Nat} {e : Nat × Nat × Nat} {cc : ByteArray} {as rest : List Value} (hc : dcode M = cc) (hd : decode cc pc = .ok (.invokevirtual k, 3)) (hl : dlink (down M) k = some e) (h0 : e.1 = 3) (h2 : as.length + 1 = dnar e.2.1) (hs : st = as.reverse ++ .ref q :: rest) (hO : ¬ (dN + 1 ≤ q ∧ q < dN + 7)) : den M pc L st σ = none := by
  refine den_no ?_
  rw [dstep_eq hc hd rfl, hs]
  have er : drecv (as.reverse ++ .ref q :: rest) (dnar e.2.1) = some q := by
    unfold drecv
    rw [← h2, show as.length + 1 - 1 = as.reverse.length by simp, List.getElem?_append_right (Nat.le_refl _), Nat.sub_self]
    rfl
  simp only [dexec, hl, Option.bind_some, h0, er]
  rw [if_neg (by decide), if_pos trivial]
  exact if_neg hO
theorem dcall_den {M : Nat} {as : List Value} {L : dL} {σ : dS} (h : ¬ M < 2) (hL : dent M as = L) : dcall M as σ = den M 0 L [] σ := by
  unfold dcall
  rw [if_neg h, hL]

