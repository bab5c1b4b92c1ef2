theorem ok_L_again : okY miL_again = true := by decide +kernel
theorem ok_L_alone : okY miL_alone = true := by decide +kernel
theorem ok_L_among : okY miL_among = true := by decide +kernel
theorem ok_L_at : okY miL_at = true := by decide +kernel
theorem ok_L_busiest : okY miL_busiest = true := by decide +kernel
theorem ok_L_byTurns : okY miL_byTurns = true := by decide +kernel
theorem ok_L_cart : okY miL_cart = true := by decide +kernel
theorem ok_L_cell : okY miL_cell = true := by decide +kernel
theorem ok_L_change : okY miL_change = true := by decide +kernel
theorem ok_L_clash : okY miL_clash = true := by decide +kernel
theorem ok_L_cost : okY miL_cost = true := by decide +kernel
theorem ok_L_critical : okY miL_critical = true := by decide +kernel
theorem ok_L_ended : okY miL_ended = true := by decide +kernel
theorem ok_L_far : okY miL_far = true := by decide +kernel
theorem ok_L_follows : okY miL_follows = true := by decide +kernel
theorem ok_L_goal : okY miL_goal = true := by decide +kernel
theorem ok_L_late : okY miL_late = true := by decide +kernel
theorem ok_L_move : okY miL_move = true := by decide +kernel
theorem ok_L_name : okY miL_name = true := by decide +kernel
theorem ok_L_near : okY miL_near = true := by decide +kernel
theorem ok_L_node : okY miL_node = true := by decide +kernel
theorem ok_L_ordered : okY miL_ordered = true := by decide +kernel
theorem ok_L_plan : okY miL_plan = true := by decide +kernel
theorem ok_L_reach : okY miL_reach = true := by decide +kernel
theorem ok_L_read : okY miL_read = true := by decide +kernel
theorem ok_L_shared : okY miL_shared = true := by decide +kernel
theorem ok_L_slack : okY miL_slack = true := by decide +kernel
theorem ok_L_tell : okY miL_tell = true := by decide +kernel
theorem ok_L_turned : okY miL_turned = true := by decide +kernel
theorem ok_L_used : okY miL_used = true := by decide +kernel
theorem ok_L_waits : okY miL_waits = true := by decide +kernel
theorem ok_L_way : okY miL_way = true := by decide +kernel
theorem ok_L_who : okY miL_who = true := by decide +kernel
theorem ok_L_without : okY miL_without = true := by decide +kernel
theorem ok_L_worse : okY miL_worse = true := by decide +kernel
theorem ok_L_write : okY miL_write = true := by decide +kernel
theorem ok_X0_clear : okY miX0_clear = true := by decide +kernel
theorem ok_X0_init : okY miX0_init = true := by decide +kernel
theorem ok_X0_keep : okY miX0_keep = true := by decide +kernel
theorem ok_X0_undoLatest : okY miX0_undoLatest = true := by decide +kernel
theorem ok_X10_again : okY miX10_again = true := by decide +kernel
theorem ok_X10_alone : okY miX10_alone = true := by decide +kernel
theorem ok_X10_among : okY miX10_among = true := by decide +kernel
theorem ok_X10_apart : okY miX10_apart = true := by decide +kernel
theorem ok_X10_at : okY miX10_at = true := by decide +kernel
theorem ok_X10_bestOrder : okY miX10_bestOrder = true := by decide +kernel
theorem ok_X10_branches : okY miX10_branches = true := by decide +kernel
theorem ok_X10_busiest : okY miX10_busiest = true := by decide +kernel
theorem ok_X10_byTurns : okY miX10_byTurns = true := by decide +kernel
theorem ok_X10_cart : okY miX10_cart = true := by decide +kernel
theorem ok_X10_cartLine : okY miX10_cartLine = true := by decide +kernel
theorem ok_X10_cell : okY miX10_cell = true := by decide +kernel
theorem ok_X10_change : okY miX10_change = true := by decide +kernel
theorem ok_X10_changes : okY miX10_changes = true := by decide +kernel
theorem ok_X10_chosen : okY miX10_chosen = true := by decide +kernel
theorem ok_X10_clash : okY miX10_clash = true := by decide +kernel
theorem ok_X10_cost : okY miX10_cost = true := by decide +kernel
theorem ok_X10_costAt : okY miX10_costAt = true := by decide +kernel
theorem ok_X10_count : okY miX10_count = true := by decide +kernel
theorem ok_X10_critical : okY miX10_critical = true := by decide +kernel
theorem ok_X10_digit : okY miX10_digit = true := by decide +kernel
theorem ok_X10_end : okY miX10_end = true := by decide +kernel
theorem ok_X10_ended : okY miX10_ended = true := by decide +kernel
theorem ok_X10_far : okY miX10_far = true := by decide +kernel
theorem ok_X10_fault : okY miX10_fault = true := by decide +kernel
theorem ok_X10_feed : okY miX10_feed = true := by decide +kernel
theorem ok_X10_follows : okY miX10_follows = true := by decide +kernel
theorem ok_X10_forbids : okY miX10_forbids = true := by decide +kernel
theorem ok_X10_forbidsAll : okY miX10_forbidsAll = true := by decide +kernel
theorem ok_X10_frees : okY miX10_frees = true := by decide +kernel
theorem ok_X10_goal : okY miX10_goal = true := by decide +kernel
theorem ok_X10_here : okY miX10_here = true := by decide +kernel
theorem ok_X10_init : okY miX10_init = true := by decide +kernel
theorem ok_X10_is : okY miX10_is = true := by decide +kernel
theorem ok_X10_isBound : okY miX10_isBound = true := by decide +kernel
theorem ok_X10_isCart : okY miX10_isCart = true := by decide +kernel
theorem ok_X10_isCell : okY miX10_isCell = true := by decide +kernel
theorem ok_X10_isClash : okY miX10_isClash = true := by decide +kernel
theorem ok_X10_isDigit : okY miX10_isDigit = true := by decide +kernel
theorem ok_X10_isIn : okY miX10_isIn = true := by decide +kernel
theorem ok_X10_isName : okY miX10_isName = true := by decide +kernel
theorem ok_X10_isOrder : okY miX10_isOrder = true := by decide +kernel
theorem ok_X10_isPlaceOrGoal : okY miX10_isPlaceOrGoal = true := by decide +kernel
theorem ok_X10_keepsWay : okY miX10_keepsWay = true := by decide +kernel
theorem ok_X10_late : okY miX10_late = true := by decide +kernel
theorem ok_X10_lateBy : okY miX10_lateBy = true := by decide +kernel
theorem ok_X10_lays : okY miX10_lays = true := by decide +kernel
theorem ok_X10_laysAlone : okY miX10_laysAlone = true := by decide +kernel
theorem ok_X10_laysClashes : okY miX10_laysClashes = true := by decide +kernel
theorem ok_X10_laysFar : okY miX10_laysFar = true := by decide +kernel
theorem ok_X10_laysOrder : okY miX10_laysOrder = true := by decide +kernel
theorem ok_X10_laysStop : okY miX10_laysStop = true := by decide +kernel
theorem ok_X10_laysTurns : okY miX10_laysTurns = true := by decide +kernel
theorem ok_X10_laysVisits : okY miX10_laysVisits = true := by decide +kernel
theorem ok_X10_laysWay : okY miX10_laysWay = true := by decide +kernel
theorem ok_X10_letter : okY miX10_letter = true := by decide +kernel
theorem ok_X10_letters : okY miX10_letters = true := by decide +kernel
theorem ok_X10_mayGo : okY miX10_mayGo = true := by decide +kernel
theorem ok_X10_move : okY miX10_move = true := by decide +kernel
theorem ok_X10_moveOf : okY miX10_moveOf = true := by decide +kernel
theorem ok_X10_must : okY miX10_must = true := by decide +kernel
theorem ok_X10_name : okY miX10_name = true := by decide +kernel
theorem ok_X10_named : okY miX10_named = true := by decide +kernel
theorem ok_X10_near : okY miX10_near = true := by decide +kernel
theorem ok_X10_next : okY miX10_next = true := by decide +kernel
theorem ok_X10_node : okY miX10_node = true := by decide +kernel
theorem ok_X10_notSooner : okY miX10_notSooner = true := by decide +kernel
theorem ok_X10_octet : okY miX10_octet = true := by decide +kernel
theorem ok_X10_ordered : okY miX10_ordered = true := by decide +kernel
theorem ok_X10_orders : okY miX10_orders = true := by decide +kernel
theorem ok_X10_plan : okY miX10_plan = true := by decide +kernel
theorem ok_X10_reach : okY miX10_reach = true := by decide +kernel
theorem ok_X10_read : okY miX10_read = true := by decide +kernel
theorem ok_X10_remembers : okY miX10_remembers = true := by decide +kernel
theorem ok_X10_rowLine : okY miX10_rowLine = true := by decide +kernel
theorem ok_X10_shared : okY miX10_shared = true := by decide +kernel
theorem ok_X10_signOf : okY miX10_signOf = true := by decide +kernel
theorem ok_X10_slack : okY miX10_slack = true := by decide +kernel
theorem ok_X10_sortOf : okY miX10_sortOf = true := by decide +kernel
theorem ok_X10_spot : okY miX10_spot = true := by decide +kernel
theorem ok_X10_sumAt : okY miX10_sumAt = true := by decide +kernel
theorem ok_X10_takes : okY miX10_takes = true := by decide +kernel
theorem ok_X10_tell : okY miX10_tell = true := by decide +kernel
theorem ok_X10_thrown : okY miX10_thrown = true := by decide +kernel
theorem ok_X10_turned : okY miX10_turned = true := by decide +kernel
theorem ok_X10_undo : okY miX10_undo = true := by decide +kernel
theorem ok_X10_used : okY miX10_used = true := by decide +kernel
theorem ok_X10_usedBy : okY miX10_usedBy = true := by decide +kernel
theorem ok_X10_waits : okY miX10_waits = true := by decide +kernel
theorem ok_X10_waitsFor : okY miX10_waitsFor = true := by decide +kernel
theorem ok_X10_way : okY miX10_way = true := by decide +kernel
theorem ok_X10_wayAt : okY miX10_wayAt = true := by decide +kernel
theorem ok_X10_who : okY miX10_who = true := by decide +kernel
theorem ok_X10_without : okY miX10_without = true := by decide +kernel
theorem ok_X10_wordSize : okY miX10_wordSize = true := by decide +kernel
theorem ok_X10_worse : okY miX10_worse = true := by decide +kernel
theorem ok_X10_write : okY miX10_write = true := by decide +kernel
theorem ok_X10_wrong : okY miX10_wrong = true := by decide +kernel
theorem ok_X10_wrongPlan : okY miX10_wrongPlan = true := by decide +kernel
theorem ok_X1_init : okY miX1_init = true := by decide +kernel
theorem ok_X2_copyFrom : okY miX2_copyFrom = true := by decide +kernel
theorem ok_X2_countFree : okY miX2_countFree = true := by decide +kernel
theorem ok_X2_empty : okY miX2_empty = true := by decide +kernel
theorem ok_X2_has : okY miX2_has = true := by decide +kernel
theorem ok_X2_init : okY miX2_init = true := by decide +kernel
theorem ok_X2_isTaken : okY miX2_isTaken = true := by decide +kernel
theorem ok_X2_lets : okY miX2_lets = true := by decide +kernel
theorem ok_X2_reachedFrom : okY miX2_reachedFrom = true := by decide +kernel
theorem ok_X2_refresh : okY miX2_refresh = true := by decide +kernel
theorem ok_X2_swapGoals : okY miX2_swapGoals = true := by decide +kernel
theorem ok_X3_clear : okY miX3_clear = true := by decide +kernel
theorem ok_X3_find : okY miX3_find = true := by decide +kernel
theorem ok_X3_forbidAlways : okY miX3_forbidAlways = true := by decide +kernel
theorem ok_X3_forbidCell : okY miX3_forbidCell = true := by decide +kernel
theorem ok_X3_forbidMove : okY miX3_forbidMove = true := by decide +kernel
theorem ok_X3_freeFrom : okY miX3_freeFrom = true := by decide +kernel
theorem ok_X3_init : okY miX3_init = true := by decide +kernel
theorem ok_X3_leastCost : okY miX3_leastCost = true := by decide +kernel
theorem ok_X3_leastStep : okY miX3_leastStep = true := by decide +kernel
theorem ok_X3_lookBack : okY miX3_lookBack = true := by decide +kernel
theorem ok_X4_delay : okY miX4_delay = true := by decide +kernel
theorem ok_X4_init : okY miX4_init = true := by decide +kernel
theorem ok_X4_leaveCells : okY miX4_leaveCells = true := by decide +kernel
theorem ok_X4_run : okY miX4_run = true := by decide +kernel
theorem ok_X4_sumDelays : okY miX4_sumDelays = true := by decide +kernel
theorem ok_X4_waitForOthers : okY miX4_waitForOthers = true := by decide +kernel
theorem ok_X5_append : okY miX5_append = true := by decide +kernel
theorem ok_X5_failAt : okY miX5_failAt = true := by decide +kernel
theorem ok_X5_init : okY miX5_init = true := by decide +kernel
theorem ok_X5_isToldName : okY miX5_isToldName = true := by decide +kernel
theorem ok_X5_parse : okY miX5_parse = true := by decide +kernel
theorem ok_X5_skipBlanks : okY miX5_skipBlanks = true := by decide +kernel
theorem ok_X5_takeCart : okY miX5_takeCart = true := by decide +kernel
theorem ok_X5_takeCell : okY miX5_takeCell = true := by decide +kernel
theorem ok_X5_takeGiven : okY miX5_takeGiven = true := by decide +kernel
theorem ok_X5_takeLine : okY miX5_takeLine = true := by decide +kernel
theorem ok_X5_takeName : okY miX5_takeName = true := by decide +kernel
theorem ok_X5_takeNumber : okY miX5_takeNumber = true := by decide +kernel
theorem ok_X5_takeRow : okY miX5_takeRow = true := by decide +kernel
theorem ok_X5_takeSemicolon : okY miX5_takeSemicolon = true := by decide +kernel
theorem ok_X5_takeWord : okY miX5_takeWord = true := by decide +kernel
theorem ok_X5_wordIs : okY miX5_wordIs = true := by decide +kernel
theorem ok_X6_addRoot : okY miX6_addRoot = true := by decide +kernel
theorem ok_X6_build : okY miX6_build = true := by decide +kernel
theorem ok_X6_choose : okY miX6_choose = true := by decide +kernel
theorem ok_X6_clashesWith : okY miX6_clashesWith = true := by decide +kernel
theorem ok_X6_forbidAll : okY miX6_forbidAll = true := by decide +kernel
theorem ok_X6_goOn : okY miX6_goOn = true := by decide +kernel
theorem ok_X6_grow : okY miX6_grow = true := by decide +kernel
theorem ok_X6_init : okY miX6_init = true := by decide +kernel
theorem ok_X6_leastWaiting : okY miX6_leastWaiting = true := by decide +kernel
theorem ok_X6_load : okY miX6_load = true := by decide +kernel
theorem ok_X6_nextNode : okY miX6_nextNode = true := by decide +kernel
theorem ok_X7_forbidWay : okY miX7_forbidWay = true := by decide +kernel
theorem ok_X7_freeCart : okY miX7_freeCart = true := by decide +kernel
theorem ok_X7_goInOrder : okY miX7_goInOrder = true := by decide +kernel
theorem ok_X7_init : okY miX7_init = true := by decide +kernel
theorem ok_X7_takeOrder : okY miX7_takeOrder = true := by decide +kernel
theorem ok_X8_allGo : okY miX8_allGo = true := by decide +kernel
theorem ok_X8_apart : okY miX8_apart = true := by decide +kernel
theorem ok_X8_cartIn : okY miX8_cartIn = true := by decide +kernel
theorem ok_X8_cellOf : okY miX8_cellOf = true := by decide +kernel
theorem ok_X8_comes : okY miX8_comes = true := by decide +kernel
theorem ok_X8_countClashes : okY miX8_countClashes = true := by decide +kernel
theorem ok_X8_countLeaving : okY miX8_countLeaving = true := by decide +kernel
theorem ok_X8_countSteps : okY miX8_countSteps = true := by decide +kernel
theorem ok_X8_countVisitors : okY miX8_countVisitors = true := by decide +kernel
theorem ok_X8_findClashAt : okY miX8_findClashAt = true := by decide +kernel
theorem ok_X8_findFirstClash : okY miX8_findFirstClash = true := by decide +kernel
theorem ok_X8_firstTimeIn : okY miX8_firstTimeIn = true := by decide +kernel
theorem ok_X8_goAlone : okY miX8_goAlone = true := by decide +kernel
theorem ok_X8_init : okY miX8_init = true := by decide +kernel
theorem ok_X8_keepClash : okY miX8_keepClash = true := by decide +kernel
theorem ok_X8_lastEnd : okY miX8_lastEnd = true := by decide +kernel
theorem ok_X8_moveOf : okY miX8_moveOf = true := by decide +kernel
theorem ok_X8_put : okY miX8_put = true := by decide +kernel
theorem ok_X8_sortOfClash : okY miX8_sortOfClash = true := by decide +kernel
theorem ok_X8_sumCosts : okY miX8_sumCosts = true := by decide +kernel
theorem ok_X8_visitedBy : okY miX8_visitedBy = true := by decide +kernel
theorem ok_X9_again : okY miX9_again = true := by decide +kernel
theorem ok_X9_alone : okY miX9_alone = true := by decide +kernel
theorem ok_X9_among : okY miX9_among = true := by decide +kernel
theorem ok_X9_at : okY miX9_at = true := by decide +kernel
theorem ok_X9_bestOrder : okY miX9_bestOrder = true := by decide +kernel
theorem ok_X9_busiest : okY miX9_busiest = true := by decide +kernel
theorem ok_X9_byTurns : okY miX9_byTurns = true := by decide +kernel
theorem ok_X9_cart : okY miX9_cart = true := by decide +kernel
theorem ok_X9_cell : okY miX9_cell = true := by decide +kernel
theorem ok_X9_change : okY miX9_change = true := by decide +kernel
theorem ok_X9_clash : okY miX9_clash = true := by decide +kernel
theorem ok_X9_cost : okY miX9_cost = true := by decide +kernel
theorem ok_X9_count : okY miX9_count = true := by decide +kernel
theorem ok_X9_critical : okY miX9_critical = true := by decide +kernel
theorem ok_X9_end : okY miX9_end = true := by decide +kernel
theorem ok_X9_ended : okY miX9_ended = true := by decide +kernel
theorem ok_X9_far : okY miX9_far = true := by decide +kernel
theorem ok_X9_fault : okY miX9_fault = true := by decide +kernel
theorem ok_X9_feed : okY miX9_feed = true := by decide +kernel
theorem ok_X9_findBestOrder : okY miX9_findBestOrder = true := by decide +kernel
theorem ok_X9_follows : okY miX9_follows = true := by decide +kernel
theorem ok_X9_goal : okY miX9_goal = true := by decide +kernel
theorem ok_X9_indexOf : okY miX9_indexOf = true := by decide +kernel
theorem ok_X9_init : okY miX9_init = true := by decide +kernel
theorem ok_X9_late : okY miX9_late = true := by decide +kernel
theorem ok_X9_move : okY miX9_move = true := by decide +kernel
theorem ok_X9_name : okY miX9_name = true := by decide +kernel
theorem ok_X9_near : okY miX9_near = true := by decide +kernel
theorem ok_X9_needCart : okY miX9_needCart = true := by decide +kernel
theorem ok_X9_needCell : okY miX9_needCell = true := by decide +kernel
theorem ok_X9_needOrder : okY miX9_needOrder = true := by decide +kernel
theorem ok_X9_needStop : okY miX9_needStop = true := by decide +kernel
theorem ok_X9_needTime : okY miX9_needTime = true := by decide +kernel
theorem ok_X9_needTwo : okY miX9_needTwo = true := by decide +kernel
theorem ok_X9_node : okY miX9_node = true := by decide +kernel
theorem ok_X9_octet : okY miX9_octet = true := by decide +kernel
theorem ok_X9_ordered : okY miX9_ordered = true := by decide +kernel
theorem ok_X9_plan : okY miX9_plan = true := by decide +kernel
theorem ok_X9_planned : okY miX9_planned = true := by decide +kernel
theorem ok_X9_putWritten : okY miX9_putWritten = true := by decide +kernel
theorem ok_X9_quotientBits : okY miX9_quotientBits = true := by decide +kernel
theorem ok_X9_reach : okY miX9_reach = true := by decide +kernel
theorem ok_X9_read : okY miX9_read = true := by decide +kernel
theorem ok_X9_sceneChanged : okY miX9_sceneChanged = true := by decide +kernel
theorem ok_X9_shared : okY miX9_shared = true := by decide +kernel
theorem ok_X9_slack : okY miX9_slack = true := by decide +kernel
theorem ok_X9_supposedSum : okY miX9_supposedSum = true := by decide +kernel
theorem ok_X9_tell : okY miX9_tell = true := by decide +kernel
theorem ok_X9_treeOf : okY miX9_treeOf = true := by decide +kernel
theorem ok_X9_turned : okY miX9_turned = true := by decide +kernel
theorem ok_X9_undo : okY miX9_undo = true := by decide +kernel
theorem ok_X9_used : okY miX9_used = true := by decide +kernel
theorem ok_X9_waits : okY miX9_waits = true := by decide +kernel
theorem ok_X9_way : okY miX9_way = true := by decide +kernel
theorem ok_X9_waysAlone : okY miX9_waysAlone = true := by decide +kernel
theorem ok_X9_waysByTurns : okY miX9_waysByTurns = true := by decide +kernel
theorem ok_X9_who : okY miX9_who = true := by decide +kernel
theorem ok_X9_without : okY miX9_without = true := by decide +kernel
theorem ok_X9_worse : okY miX9_worse = true := by decide +kernel
theorem ok_X9_write : okY miX9_write = true := by decide +kernel
theorem cs_X0_39 : CVN RX0 39 miX2_swapGoals := ⟨⟨_, gw_508⟩, gw_511, gw_135, gw_510, gw_2, ok_X2_swapGoals⟩
theorem cs_X2_53 : CSN RX2 53 miX9_indexOf := ⟨⟨_, gw_976⟩, gw_619, gw_133, gw_618, ok_X9_indexOf⟩
theorem cs_X2_57 : CV RX2 57 miX2_lets := ⟨gw_520, gw_523, gw_135, gw_522, gw_5, ok_X2_lets⟩
theorem cs_X2_67 : CV RX2 67 miX2_has := ⟨gw_528, gw_531, gw_135, gw_530, gw_6, ok_X2_has⟩
theorem cs_X3_27 : CV RX3 27 miX3_forbidCell := ⟨gw_1438, gw_599, gw_137, gw_598, gw_19, ok_X3_forbidCell⟩
theorem cs_X3_43 : CV RX3 43 miX3_leastCost := ⟨gw_569, gw_572, gw_137, gw_571, gw_13, ok_X3_leastCost⟩
theorem cs_X3_47 : CV RX3 47 miX3_lookBack := ⟨gw_578, gw_581, gw_137, gw_580, gw_15, ok_X3_lookBack⟩
theorem cs_X3_51 : CV RX3 51 miX3_leastStep := ⟨gw_582, gw_585, gw_137, gw_584, gw_16, ok_X3_leastStep⟩
theorem cs_X3_57 : CV RX3 57 miX3_freeFrom := ⟨gw_573, gw_576, gw_137, gw_575, gw_14, ok_X3_freeFrom⟩
theorem cs_X4_30 : CVN RX4 30 miX8_comes := ⟨⟨_, gw_1302⟩, gw_603, gw_138, gw_602, gw_20, ok_X8_comes⟩
theorem cs_X4_40 : CV RX4 40 miX4_waitForOthers := ⟨gw_1304, gw_1307, gw_141, gw_1306, gw_74, ok_X4_waitForOthers⟩
theorem cs_X4_44 : CV RX4 44 miX4_leaveCells := ⟨gw_1313, gw_1316, gw_141, gw_1315, gw_76, ok_X4_leaveCells⟩
theorem cs_X4_47 : CVN RX4 47 miX8_cellOf := ⟨⟨_, gw_1308⟩, gw_595, gw_138, gw_594, gw_18, ok_X8_cellOf⟩
theorem cs_X4_50 : CVN RX4 50 miX8_cartIn := ⟨⟨_, gw_1309⟩, gw_1312, gw_138, gw_1311, gw_75, ok_X8_cartIn⟩
theorem cs_X4_56 : CV RX4 56 miX4_delay := ⟨gw_1393, gw_1320, gw_141, gw_1319, gw_77, ok_X4_delay⟩
theorem cs_X5_30 : CIN RX5 30 miX2_init := ⟨⟨_, gw_178⟩, gw_180, gw_135, gw_179, ok_X2_init⟩
theorem cs_X5_35 : CVN RX5 35 miX2_empty := ⟨⟨_, gw_654⟩, gw_657, gw_135, gw_656, gw_28, ok_X2_empty⟩
theorem cs_X5_38 : CV RX5 38 miX5_takeLine := ⟨gw_661, gw_664, gw_134, gw_663, gw_29, ok_X5_takeLine⟩
theorem cs_X5_45 : CV RX5 45 miX5_skipBlanks := ⟨gw_665, gw_668, gw_134, gw_667, gw_30, ok_X5_skipBlanks⟩
theorem cs_X5_48 : CV RX5 48 miX5_takeWord := ⟨gw_669, gw_672, gw_134, gw_671, gw_31, ok_X5_takeWord⟩
theorem cs_X5_53 : CV RX5 53 miX5_wordIs := ⟨gw_674, gw_677, gw_134, gw_676, gw_32, ok_X5_wordIs⟩
theorem cs_X5_60 : CV RX5 60 miX5_takeRow := ⟨gw_726, gw_729, gw_134, gw_728, gw_33, ok_X5_takeRow⟩
theorem cs_X5_63 : CV RX5 63 miX5_takeSemicolon := ⟨gw_794, gw_797, gw_134, gw_796, gw_35, ok_X5_takeSemicolon⟩
theorem cs_X5_68 : CV RX5 68 miX5_takeCart := ⟨gw_799, gw_802, gw_134, gw_801, gw_36, ok_X5_takeCart⟩
theorem cs_X5_71 : CV RX5 71 miX5_failAt := ⟨gw_790, gw_793, gw_134, gw_792, gw_34, ok_X5_failAt⟩
theorem cs_X5_96 : CV RX5 96 miX5_takeName := ⟨gw_803, gw_806, gw_134, gw_805, gw_37, ok_X5_takeName⟩
theorem cs_X5_101 : CV RX5 101 miX5_takeGiven := ⟨gw_813, gw_816, gw_134, gw_815, gw_39, ok_X5_takeGiven⟩
theorem cs_X5_107 : CV RX5 107 miX5_takeCell := ⟨gw_817, gw_820, gw_134, gw_819, gw_40, ok_X5_takeCell⟩
theorem cs_X5_116 : CV RX5 116 miX5_isToldName := ⟨gw_809, gw_812, gw_134, gw_811, gw_38, ok_X5_isToldName⟩
theorem cs_X5_125 : CV RX5 125 miX5_takeNumber := ⟨gw_821, gw_824, gw_134, gw_823, gw_41, ok_X5_takeNumber⟩
theorem cs_X5_128 : CSN RX5 128 miX9_indexOf := ⟨⟨_, gw_825⟩, gw_619, gw_133, gw_618, ok_X9_indexOf⟩
theorem cs_X6_19 : CIN RX6 19 miX8_init := ⟨⟨_, gw_351⟩, gw_299, gw_138, gw_298, ok_X8_init⟩
theorem cs_X6_51 : CVN RX6 51 miX8_goAlone := ⟨⟨_, gw_1106⟩, gw_639, gw_138, gw_638, gw_26, ok_X8_goAlone⟩
theorem cs_X6_55 : CVN RX6 55 miX8_allGo := ⟨⟨_, gw_1107⟩, gw_616, gw_138, gw_615, gw_23, ok_X8_allGo⟩
theorem cs_X6_59 : CV RX6 59 miX6_addRoot := ⟨gw_1108, gw_1111, gw_139, gw_1110, gw_58, ok_X6_addRoot⟩
theorem cs_X6_62 : CV RX6 62 miX6_choose := ⟨gw_1179, gw_1182, gw_139, gw_1181, gw_60, ok_X6_choose⟩
theorem cs_X6_66 : CV RX6 66 miX6_goOn := ⟨gw_1187, gw_1190, gw_139, gw_1189, gw_62, ok_X6_goOn⟩
theorem cs_X6_76 : CV RX6 76 miX6_grow := ⟨gw_1201, gw_1204, gw_139, gw_1203, gw_65, ok_X6_grow⟩
theorem cs_X6_83 : CIN RX6 83 miX1_init := ⟨⟨_, gw_1117⟩, gw_1119, gw_160, gw_1118, ok_X1_init⟩
theorem cs_X6_86 : CV RX6 86 miX6_nextNode := ⟨gw_1112, gw_1115, gw_139, gw_1114, gw_59, ok_X6_nextNode⟩
theorem cs_X6_90 : CVN RX6 90 miX8_sumCosts := ⟨⟨_, gw_1177⟩, gw_612, gw_138, gw_611, gw_22, ok_X8_sumCosts⟩
theorem cs_X6_97 : CVN RX6 97 miX8_countClashes := ⟨⟨_, gw_1178⟩, gw_1064, gw_138, gw_1063, gw_54, ok_X8_countClashes⟩
theorem cs_X6_103 : CV RX6 103 miX6_leastWaiting := ⟨gw_1183, gw_1186, gw_139, gw_1185, gw_61, ok_X6_leastWaiting⟩
theorem cs_X6_106 : CV RX6 106 miX6_load := ⟨gw_1191, gw_1194, gw_139, gw_1193, gw_63, ok_X6_load⟩
theorem cs_X6_113 : CVN RX6 113 miX8_findFirstClash := ⟨⟨_, gw_1200⟩, gw_1044, gw_138, gw_1043, gw_49, ok_X8_findFirstClash⟩
theorem cs_X6_132 : CVN RX6 132 miX8_put := ⟨⟨_, gw_1195⟩, gw_1198, gw_138, gw_1197, gw_64, ok_X8_put⟩
theorem cs_X6_148 : CVN RX6 148 miX8_cellOf := ⟨⟨_, gw_1205⟩, gw_595, gw_138, gw_594, gw_18, ok_X8_cellOf⟩
theorem cs_X6_161 : CS RX6 161 miX6_forbidAll := ⟨gw_1206, gw_1208, gw_139, gw_1207, ok_X6_forbidAll⟩
theorem cs_X6_165 : CVN RX6 165 miX3_find := ⟨⟨_, gw_1212⟩, gw_568, gw_137, gw_567, gw_12, ok_X3_find⟩
theorem cs_X6_171 : CV RX6 171 miX6_clashesWith := ⟨gw_1213, gw_1216, gw_139, gw_1215, gw_66, ok_X6_clashesWith⟩
theorem cs_X6_178 : CVN RX6 178 miX3_clear := ⟨⟨_, gw_1209⟩, gw_561, gw_137, gw_560, gw_11, ok_X3_clear⟩
theorem cs_X6_181 : CVN RX6 181 miX3_forbidCell := ⟨⟨_, gw_1210⟩, gw_599, gw_137, gw_598, gw_19, ok_X3_forbidCell⟩
theorem cs_X6_185 : CVN RX6 185 miX3_forbidMove := ⟨⟨_, gw_1211⟩, gw_608, gw_137, gw_607, gw_21, ok_X3_forbidMove⟩
theorem cs_X7_11 : CIN RX7 11 miX8_init := ⟨⟨_, gw_398⟩, gw_299, gw_138, gw_298, ok_X8_init⟩
theorem cs_X7_41 : CS RX7 41 miX7_freeCart := ⟨gw_551, gw_553, gw_140, gw_552, ok_X7_freeCart⟩
theorem cs_X7_51 : CVN RX7 51 miX3_clear := ⟨⟨_, gw_558⟩, gw_561, gw_137, gw_560, gw_11, ok_X3_clear⟩
theorem cs_X7_62 : CVN RX7 62 miX3_find := ⟨⟨_, gw_565⟩, gw_568, gw_137, gw_567, gw_12, ok_X3_find⟩
theorem cs_X7_66 : CV RX7 66 miX7_forbidWay := ⟨gw_588, gw_591, gw_140, gw_590, gw_17, ok_X7_forbidWay⟩
theorem cs_X7_70 : CVN RX7 70 miX8_cellOf := ⟨⟨_, gw_592⟩, gw_595, gw_138, gw_594, gw_18, ok_X8_cellOf⟩
theorem cs_X7_73 : CVN RX7 73 miX3_forbidCell := ⟨⟨_, gw_596⟩, gw_599, gw_137, gw_598, gw_19, ok_X3_forbidCell⟩
theorem cs_X7_77 : CVN RX7 77 miX8_comes := ⟨⟨_, gw_600⟩, gw_603, gw_138, gw_602, gw_20, ok_X8_comes⟩
theorem cs_X7_81 : CVN RX7 81 miX3_forbidMove := ⟨⟨_, gw_605⟩, gw_608, gw_137, gw_607, gw_21, ok_X3_forbidMove⟩
theorem cs_X8_37 : CVN RX8 37 miX3_clear := ⟨⟨_, gw_640⟩, gw_561, gw_137, gw_560, gw_11, ok_X3_clear⟩
theorem cs_X8_42 : CVN RX8 42 miX3_find := ⟨⟨_, gw_641⟩, gw_568, gw_137, gw_567, gw_12, ok_X3_find⟩
theorem cs_X8_52 : CSN RX8 52 miX9_indexOf := ⟨⟨_, gw_617⟩, gw_619, gw_133, gw_618, ok_X9_indexOf⟩
theorem cs_X8_56 : CV RX8 56 miX8_cellOf := ⟨gw_604, gw_595, gw_138, gw_594, gw_18, ok_X8_cellOf⟩
theorem cs_X8_63 : CV RX8 63 miX8_firstTimeIn := ⟨gw_1265, gw_1268, gw_138, gw_1267, gw_71, ok_X8_firstTimeIn⟩
theorem cs_X8_66 : CV RX8 66 miX8_comes := ⟨gw_1260, gw_603, gw_138, gw_602, gw_20, ok_X8_comes⟩
theorem cs_X8_76 : CV RX8 76 miX8_lastEnd := ⟨gw_1049, gw_1052, gw_138, gw_1051, gw_51, ok_X8_lastEnd⟩
theorem cs_X8_80 : CV RX8 80 miX8_sortOfClash := ⟨gw_1057, gw_1060, gw_138, gw_1059, gw_53, ok_X8_sortOfClash⟩
theorem cs_X8_84 : CV RX8 84 miX8_keepClash := ⟨gw_1045, gw_1048, gw_138, gw_1047, gw_50, ok_X8_keepClash⟩
theorem cs_X8_88 : CV RX8 88 miX8_findClashAt := ⟨gw_1053, gw_1056, gw_138, gw_1055, gw_52, ok_X8_findClashAt⟩
theorem cs_X9_9 : CIN RX9 9 miX5_init := ⟨⟨_, gw_172⟩, gw_174, gw_134, gw_173, ok_X5_init⟩
theorem cs_X9_18 : CIN RX9 18 miX2_init := ⟨⟨_, gw_258⟩, gw_180, gw_135, gw_179, ok_X2_init⟩
theorem cs_X9_28 : CIN RX9 28 miX0_init := ⟨⟨_, gw_261⟩, gw_263, gw_136, gw_262, ok_X0_init⟩
theorem cs_X9_35 : CIN RX9 35 miX3_init := ⟨⟨_, gw_281⟩, gw_283, gw_137, gw_282, ok_X3_init⟩
theorem cs_X9_42 : CIN RX9 42 miX8_init := ⟨⟨_, gw_297⟩, gw_299, gw_138, gw_298, ok_X8_init⟩
theorem cs_X9_57 : CIN RX9 57 miX6_init := ⟨⟨_, gw_344⟩, gw_346, gw_139, gw_345, ok_X6_init⟩
theorem cs_X9_64 : CIN RX9 64 miX7_init := ⟨⟨_, gw_393⟩, gw_395, gw_140, gw_394, ok_X7_init⟩
theorem cs_X9_71 : CIN RX9 71 miX4_init := ⟨⟨_, gw_430⟩, gw_432, gw_141, gw_431, ok_X4_init⟩
theorem cs_X9_89 : CVN RX9 89 miX5_append := ⟨⟨_, gw_488⟩, gw_491, gw_134, gw_490, gw_0, ok_X5_append⟩
theorem cs_X9_93 : CVN RX9 93 miX5_parse := ⟨⟨_, gw_650⟩, gw_653, gw_134, gw_652, gw_27, ok_X5_parse⟩
theorem cs_X9_103 : CVN RX9 103 miX2_copyFrom := ⟨⟨_, gw_891⟩, gw_894, gw_135, gw_893, gw_43, ok_X2_copyFrom⟩
theorem cs_X9_107 : CVN RX9 107 miX0_clear := ⟨⟨_, gw_898⟩, gw_901, gw_136, gw_900, gw_44, ok_X0_clear⟩
theorem cs_X9_110 : CV RX9 110 miX9_sceneChanged := ⟨gw_512, gw_515, gw_133, gw_514, gw_3, ok_X9_sceneChanged⟩
theorem cs_X9_116 : CVN RX9 116 miX2_refresh := ⟨⟨_, gw_516⟩, gw_519, gw_135, gw_518, gw_4, ok_X2_refresh⟩
theorem cs_X9_119 : CVN RX9 119 miX2_has := ⟨⟨_, gw_914⟩, gw_531, gw_135, gw_530, gw_6, ok_X2_has⟩
theorem cs_X9_129 : CV RX9 129 miX9_needCell := ⟨gw_910, gw_913, gw_133, gw_912, gw_45, ok_X9_needCell⟩
theorem cs_X9_133 : CV RX9 133 miX9_needCart := ⟨gw_938, gw_941, gw_133, gw_940, gw_46, ok_X9_needCart⟩
theorem cs_X9_151 : CVN RX9 151 miX2_isTaken := ⟨⟨_, gw_972⟩, gw_975, gw_135, gw_974, gw_47, ok_X2_isTaken⟩
theorem cs_X9_158 : CVN RX9 158 miX0_keep := ⟨⟨_, gw_992⟩, gw_995, gw_136, gw_994, gw_48, ok_X0_keep⟩
theorem cs_X9_162 : CS RX9 162 miX9_indexOf := ⟨gw_1004, gw_619, gw_133, gw_618, ok_X9_indexOf⟩
theorem cs_X9_166 : CS RX9 166 miX9_needTwo := ⟨gw_1012, gw_1014, gw_133, gw_1013, ok_X9_needTwo⟩
theorem cs_X9_170 : CVN RX9 170 miX2_swapGoals := ⟨⟨_, gw_1015⟩, gw_511, gw_135, gw_510, gw_2, ok_X2_swapGoals⟩
theorem cs_X9_176 : CVN RX9 176 miX0_undoLatest := ⟨⟨_, gw_504⟩, gw_507, gw_136, gw_506, gw_1, ok_X0_undoLatest⟩
theorem cs_X9_179 : CVN RX9 179 miX8_goAlone := ⟨⟨_, gw_636⟩, gw_639, gw_138, gw_638, gw_26, ok_X8_goAlone⟩
theorem cs_X9_183 : CV RX9 183 miX9_waysAlone := ⟨gw_632, gw_635, gw_133, gw_634, gw_25, ok_X9_waysAlone⟩
theorem cs_X9_190 : CS RX9 190 miX9_needTime := ⟨gw_1030, gw_1032, gw_133, gw_1031, ok_X9_needTime⟩
theorem cs_X9_193 : CVN RX9 193 miX8_cellOf := ⟨⟨_, gw_1033⟩, gw_595, gw_138, gw_594, gw_18, ok_X8_cellOf⟩
theorem cs_X9_196 : CVN RX9 196 miX8_allGo := ⟨⟨_, gw_613⟩, gw_616, gw_138, gw_615, gw_23, ok_X8_allGo⟩
theorem cs_X9_200 : CVN RX9 200 miX8_findFirstClash := ⟨⟨_, gw_1041⟩, gw_1044, gw_138, gw_1043, gw_49, ok_X8_findFirstClash⟩
theorem cs_X9_203 : CVN RX9 203 miX8_countClashes := ⟨⟨_, gw_1061⟩, gw_1064, gw_138, gw_1063, gw_54, ok_X8_countClashes⟩
theorem cs_X9_219 : CVN RX9 219 miX2_reachedFrom := ⟨⟨_, gw_1072⟩, gw_1075, gw_135, gw_1074, gw_55, ok_X2_reachedFrom⟩
theorem cs_X9_229 : CVN RX9 229 miX3_clear := ⟨⟨_, gw_1089⟩, gw_561, gw_137, gw_560, gw_11, ok_X3_clear⟩
theorem cs_X9_230 : CVN RX9 230 miX3_leastCost := ⟨⟨_, gw_1090⟩, gw_572, gw_137, gw_571, gw_13, ok_X3_leastCost⟩
theorem cs_X9_235 : CVN RX9 235 miX6_build := ⟨⟨_, gw_1102⟩, gw_1105, gw_139, gw_1104, gw_57, ok_X6_build⟩
theorem cs_X9_239 : CV RX9 239 miX9_treeOf := ⟨gw_1098, gw_1101, gw_133, gw_1100, gw_56, ok_X9_treeOf⟩
theorem cs_X9_249 : CVN RX9 249 miX8_sumCosts := ⟨⟨_, gw_609⟩, gw_612, gw_138, gw_611, gw_22, ok_X8_sumCosts⟩
theorem cs_X9_262 : CVN RX9 262 miX8_lastEnd := ⟨⟨_, gw_1218⟩, gw_1052, gw_138, gw_1051, gw_51, ok_X8_lastEnd⟩
theorem cs_X9_296 : CV RX9 296 miX9_planned := ⟨gw_1233, gw_1236, gw_133, gw_1235, gw_67, ok_X9_planned⟩
theorem cs_X9_300 : CVN RX9 300 miX8_moveOf := ⟨⟨_, gw_1244⟩, gw_1247, gw_138, gw_1246, gw_68, ok_X8_moveOf⟩
theorem cs_X9_303 : CVN RX9 303 miX8_countLeaving := ⟨⟨_, gw_1256⟩, gw_1259, gw_138, gw_1258, gw_69, ok_X8_countLeaving⟩
theorem cs_X9_307 : CVN RX9 307 miX8_countVisitors := ⟨⟨_, gw_1261⟩, gw_1264, gw_138, gw_1263, gw_70, ok_X8_countVisitors⟩
theorem cs_X9_311 : CVN RX9 311 miX8_countSteps := ⟨⟨_, gw_1283⟩, gw_1286, gw_138, gw_1285, gw_72, ok_X8_countSteps⟩
theorem cs_X9_314 : CS RX9 314 miX9_needStop := ⟨gw_1294, gw_1296, gw_133, gw_1295, ok_X9_needStop⟩
theorem cs_X9_317 : CVN RX9 317 miX4_run := ⟨⟨_, gw_1297⟩, gw_1300, gw_141, gw_1299, gw_73, ok_X4_run⟩
theorem cs_X9_321 : CVN RX9 321 miX4_delay := ⟨⟨_, gw_1317⟩, gw_1320, gw_141, gw_1319, gw_77, ok_X4_delay⟩
theorem cs_X9_325 : CS RX9 325 miX9_quotientBits := ⟨gw_1328, gw_1330, gw_133, gw_1329, ok_X9_quotientBits⟩
theorem cs_X9_333 : CVN RX9 333 miX8_cartIn := ⟨⟨_, gw_1341⟩, gw_1312, gw_138, gw_1311, gw_75, ok_X8_cartIn⟩
theorem cs_X9_336 : CVN RX9 336 miX8_apart := ⟨⟨_, gw_1349⟩, gw_1352, gw_138, gw_1351, gw_78, ok_X8_apart⟩
theorem cs_X9_340 : CV RX9 340 miX9_supposedSum := ⟨gw_1363, gw_1366, gw_133, gw_1365, gw_79, ok_X9_supposedSum⟩
theorem cs_X9_343 : CVN RX9 343 miX8_comes := ⟨⟨_, gw_1374⟩, gw_603, gw_138, gw_602, gw_20, ok_X8_comes⟩
theorem cs_X9_346 : CVN RX9 346 miX4_sumDelays := ⟨⟨_, gw_1389⟩, gw_1392, gw_141, gw_1391, gw_80, ok_X4_sumDelays⟩
theorem cs_X9_350 : CVN RX9 350 miX8_visitedBy := ⟨⟨_, gw_1415⟩, gw_1418, gw_138, gw_1417, gw_81, ok_X8_visitedBy⟩
theorem cs_X9_353 : CVN RX9 353 miX8_firstTimeIn := ⟨⟨_, gw_1419⟩, gw_1268, gw_138, gw_1267, gw_71, ok_X8_firstTimeIn⟩
theorem cs_X9_356 : CVN RX9 356 miX3_forbidAlways := ⟨⟨_, gw_1434⟩, gw_1437, gw_137, gw_1436, gw_82, ok_X3_forbidAlways⟩
theorem cs_X9_364 : CVN RX9 364 miX7_takeOrder := ⟨⟨_, gw_546⟩, gw_549, gw_140, gw_548, gw_9, ok_X7_takeOrder⟩
theorem cs_X9_367 : CVN RX9 367 miX7_goInOrder := ⟨⟨_, gw_554⟩, gw_557, gw_140, gw_556, gw_10, ok_X7_goInOrder⟩
theorem cs_X9_371 : CV RX9 371 miX9_needOrder := ⟨gw_1446, gw_1449, gw_133, gw_1448, gw_83, ok_X9_needOrder⟩
theorem cs_X9_374 : CV RX9 374 miX9_waysByTurns := ⟨gw_542, gw_545, gw_133, gw_544, gw_8, ok_X9_waysByTurns⟩
theorem cs_X9_380 : CV RX9 380 miX9_findBestOrder := ⟨gw_536, gw_539, gw_133, gw_538, gw_7, ok_X9_findBestOrder⟩
theorem cs_X9_406 : CV RX9 406 miX9_putWritten := ⟨gw_1473, gw_1476, gw_133, gw_1475, gw_84, ok_X9_putWritten⟩
theorem cs_X9_409 : CVN RX9 409 miX2_countFree := ⟨⟨_, gw_628⟩, gw_631, gw_135, gw_630, gw_24, ok_X2_countFree⟩
theorem cs_X10_131 : CV RX10 131 miX10_here := ⟨gw_1670, gw_1673, gw_142, gw_1672, gw_85, ok_X10_here⟩
theorem cs_X10_135 : CV RX10 135 miX10_wordSize := ⟨gw_1679, gw_1682, gw_142, gw_1681, gw_87, ok_X10_wordSize⟩
theorem cs_X10_147 : CV RX10 147 miX10_is := ⟨gw_1675, gw_1678, gw_142, gw_1677, gw_86, ok_X10_is⟩
theorem cs_X10_151 : CV RX10 151 miX10_wrong := ⟨gw_1689, gw_1692, gw_142, gw_1691, gw_89, ok_X10_wrong⟩
theorem cs_X10_165 : CS RX10 165 miX10_letters := ⟨gw_1764, gw_1766, gw_142, gw_1765, ok_X10_letters⟩
theorem cs_X10_169 : CV RX10 169 miX10_isDigit := ⟨gw_1725, gw_1728, gw_142, gw_1727, gw_96, ok_X10_isDigit⟩
theorem cs_X10_179 : CS RX10 179 miX10_sortOf := ⟨gw_1693, gw_1695, gw_142, gw_1694, ok_X10_sortOf⟩
theorem cs_X10_186 : CV RX10 186 miX10_digit := ⟨gw_1721, gw_1724, gw_142, gw_1723, gw_95, ok_X10_digit⟩
theorem cs_X10_189 : CV RX10 189 miX10_isName := ⟨gw_1701, gw_1704, gw_142, gw_1703, gw_91, ok_X10_isName⟩
theorem cs_X10_193 : CV RX10 193 miX10_named := ⟨gw_1707, gw_1710, gw_142, gw_1709, gw_92, ok_X10_named⟩
theorem cs_X10_197 : CV RX10 197 miX10_takes := ⟨gw_1713, gw_1716, gw_142, gw_1715, gw_93, ok_X10_takes⟩
theorem cs_X10_200 : CV RX10 200 miX10_spot := ⟨gw_1717, gw_1720, gw_142, gw_1719, gw_94, ok_X10_spot⟩
theorem cs_X10_204 : CV RX10 204 miX10_rowLine := ⟨gw_1685, gw_1688, gw_142, gw_1687, gw_88, ok_X10_rowLine⟩
theorem cs_X10_207 : CV RX10 207 miX10_cartLine := ⟨gw_1697, gw_1700, gw_142, gw_1699, gw_90, ok_X10_cartLine⟩
theorem cs_X10_210 : CV RX10 210 miX10_must := ⟨gw_1729, gw_1732, gw_142, gw_1731, gw_97, ok_X10_must⟩
theorem cs_X10_226 : CV RX10 226 miX10_changes := ⟨gw_1733, gw_1736, gw_142, gw_1735, gw_98, ok_X10_changes⟩
theorem cs_X10_229 : CS RX10 229 miX10_isIn := ⟨gw_1749, gw_1751, gw_142, gw_1750, ok_X10_isIn⟩
theorem cs_X10_233 : CV RX10 233 miX10_isCell := ⟨gw_1745, gw_1748, gw_142, gw_1747, gw_99, ok_X10_isCell⟩
theorem cs_X10_237 : CV RX10 237 miX10_isCart := ⟨gw_1756, gw_1759, gw_142, gw_1758, gw_100, ok_X10_isCart⟩
theorem cs_X10_240 : CS RX10 240 miX10_letter := ⟨gw_1767, gw_1769, gw_142, gw_1768, ok_X10_letter⟩
theorem cs_X10_244 : CV RX10 244 miX10_isPlaceOrGoal := ⟨gw_1774, gw_1777, gw_142, gw_1776, gw_101, ok_X10_isPlaceOrGoal⟩
theorem cs_X10_247 : CV RX10 247 miX10_remembers := ⟨gw_1778, gw_1781, gw_142, gw_1780, gw_102, ok_X10_remembers⟩
theorem cs_X10_250 : CV RX10 250 miX10_next := ⟨gw_1810, gw_1813, gw_142, gw_1812, gw_106, ok_X10_next⟩
theorem cs_X10_254 : CV RX10 254 miX10_mayGo := ⟨gw_1806, gw_1809, gw_142, gw_1808, gw_105, ok_X10_mayGo⟩
theorem cs_X10_257 : CV RX10 257 miX10_frees := ⟨gw_1798, gw_1801, gw_142, gw_1800, gw_103, ok_X10_frees⟩
theorem cs_X10_260 : CV RX10 260 miX10_laysWay := ⟨gw_1802, gw_1805, gw_142, gw_1804, gw_104, ok_X10_laysWay⟩
theorem cs_X10_263 : CV RX10 263 miX10_wayAt := ⟨gw_1838, gw_1841, gw_142, gw_1840, gw_111, ok_X10_wayAt⟩
theorem cs_X10_267 : CV RX10 267 miX10_isClash := ⟨gw_1834, gw_1837, gw_142, gw_1836, gw_110, ok_X10_isClash⟩
theorem cs_X10_283 : CV RX10 283 miX10_keepsWay := ⟨gw_1826, gw_1829, gw_142, gw_1828, gw_108, ok_X10_keepsWay⟩
theorem cs_X10_287 : CV RX10 287 miX10_costAt := ⟨gw_1869, gw_1872, gw_142, gw_1871, gw_115, ok_X10_costAt⟩
theorem cs_X10_290 : CV RX10 290 miX10_laysAlone := ⟨gw_1822, gw_1825, gw_142, gw_1824, gw_107, ok_X10_laysAlone⟩
theorem cs_X10_293 : CV RX10 293 miX10_laysClashes := ⟨gw_1830, gw_1833, gw_142, gw_1832, gw_109, ok_X10_laysClashes⟩
theorem cs_X10_296 : CV RX10 296 miX10_laysFar := ⟨gw_1846, gw_1849, gw_142, gw_1848, gw_112, ok_X10_laysFar⟩
theorem cs_X10_299 : CV RX10 299 miX10_moveOf := ⟨gw_1885, gw_1888, gw_142, gw_1887, gw_119, ok_X10_moveOf⟩
theorem cs_X10_305 : CV RX10 305 miX10_forbids := ⟨gw_1881, gw_1884, gw_142, gw_1883, gw_118, ok_X10_forbids⟩
theorem cs_X10_308 : CV RX10 308 miX10_sumAt := ⟨gw_1865, gw_1868, gw_142, gw_1867, gw_114, ok_X10_sumAt⟩
theorem cs_X10_324 : CV RX10 324 miX10_chosen := ⟨gw_1873, gw_1876, gw_142, gw_1875, gw_116, ok_X10_chosen⟩
theorem cs_X10_327 : CV RX10 327 miX10_branches := ⟨gw_1877, gw_1880, gw_142, gw_1879, gw_117, ok_X10_branches⟩
theorem cs_X10_331 : CS RX10 331 miX10_isBound := ⟨gw_1858, gw_1860, gw_142, gw_1859, ok_X10_isBound⟩
theorem cs_X10_334 : CV RX10 334 miX10_lays := ⟨gw_1861, gw_1864, gw_142, gw_1863, gw_113, ok_X10_lays⟩
theorem cs_X10_337 : CV RX10 337 miX10_wrongPlan := ⟨gw_1897, gw_1900, gw_142, gw_1899, gw_120, ok_X10_wrongPlan⟩
theorem cs_X10_341 : CV RX10 341 miX10_usedBy := ⟨gw_1909, gw_1912, gw_142, gw_1911, gw_121, ok_X10_usedBy⟩
theorem cs_X10_344 : CV RX10 344 miX10_notSooner := ⟨gw_1933, gw_1936, gw_142, gw_1935, gw_124, ok_X10_notSooner⟩
theorem cs_X10_347 : CV RX10 347 miX10_laysStop := ⟨gw_1925, gw_1928, gw_142, gw_1927, gw_122, ok_X10_laysStop⟩
theorem cs_X10_351 : CV RX10 351 miX10_lateBy := ⟨gw_1941, gw_1944, gw_142, gw_1943, gw_126, ok_X10_lateBy⟩
theorem cs_X10_354 : CV RX10 354 miX10_laysVisits := ⟨gw_1929, gw_1932, gw_142, gw_1931, gw_123, ok_X10_laysVisits⟩
theorem cs_X10_357 : CV RX10 357 miX10_waitsFor := ⟨gw_1937, gw_1940, gw_142, gw_1939, gw_125, ok_X10_waitsFor⟩
theorem cs_X10_366 : CS RX10 366 miX10_apart := ⟨gw_1999, gw_2001, gw_142, gw_2000, ok_X10_apart⟩
theorem cs_X10_369 : CV RX10 369 miX10_orders := ⟨gw_2014, gw_2017, gw_142, gw_2016, gw_128, ok_X10_orders⟩
theorem cs_X10_372 : CV RX10 372 miX10_laysOrder := ⟨gw_2022, gw_2025, gw_142, gw_2024, gw_130, ok_X10_laysOrder⟩
theorem cs_X10_375 : CV RX10 375 miX10_forbidsAll := ⟨gw_2026, gw_2029, gw_142, gw_2028, gw_131, ok_X10_forbidsAll⟩
theorem cs_X10_378 : CV RX10 378 miX10_isOrder := ⟨gw_2010, gw_2013, gw_142, gw_2012, gw_127, ok_X10_isOrder⟩
theorem cs_X10_381 : CV RX10 381 miX10_laysTurns := ⟨gw_2018, gw_2021, gw_142, gw_2020, gw_129, ok_X10_laysTurns⟩
theorem cs_X10_387 : CS RX10 387 miX10_signOf := ⟨gw_2046, gw_2048, gw_142, gw_2047, ok_X10_signOf⟩
theorem cs_L_7 : CV RL 7 miX9_read := ⟨gw_646, gw_649, gw_133, gw_647, gw_648, ok_X9_read⟩
theorem cs_L_15 : CV RL 15 miX9_cell := ⟨gw_906, gw_909, gw_133, gw_907, gw_908, ok_X9_cell⟩
theorem cs_L_21 : CV RL 21 miX9_cart := ⟨gw_934, gw_937, gw_133, gw_935, gw_936, ok_X9_cart⟩
theorem cs_L_26 : CV RL 26 miX9_name := ⟨gw_960, gw_963, gw_133, gw_961, gw_962, ok_X9_name⟩
theorem cs_L_29 : CV RL 29 miX9_tell := ⟨gw_968, gw_971, gw_133, gw_969, gw_970, ok_X9_tell⟩
theorem cs_L_35 : CV RL 35 miX9_goal := ⟨gw_1000, gw_1003, gw_133, gw_1001, gw_1002, ok_X9_goal⟩
theorem cs_L_38 : CV RL 38 miX9_change := ⟨gw_1008, gw_1011, gw_133, gw_1009, gw_1010, ok_X9_change⟩
theorem cs_L_42 : CV RL 42 miX9_cost := ⟨gw_1019, gw_1022, gw_133, gw_1020, gw_1021, ok_X9_cost⟩
theorem cs_L_46 : CV RL 46 miX9_alone := ⟨gw_1026, gw_1029, gw_133, gw_1027, gw_1028, ok_X9_alone⟩
theorem cs_L_49 : CV RL 49 miX9_clash := ⟨gw_1037, gw_1040, gw_133, gw_1038, gw_1039, ok_X9_clash⟩
theorem cs_L_52 : CV RL 52 miX9_reach := ⟨gw_1068, gw_1071, gw_133, gw_1069, gw_1070, ok_X9_reach⟩
theorem cs_L_55 : CV RL 55 miX9_far := ⟨gw_1085, gw_1088, gw_133, gw_1086, gw_1087, ok_X9_far⟩
theorem cs_L_59 : CV RL 59 miX9_plan := ⟨gw_1094, gw_1097, gw_133, gw_1095, gw_1096, ok_X9_plan⟩
theorem cs_L_62 : CV RL 62 miX9_node := ⟨gw_1222, gw_1225, gw_133, gw_1223, gw_1224, ok_X9_node⟩
theorem cs_L_65 : CV RL 65 miX9_at := ⟨gw_1229, gw_1232, gw_133, gw_1230, gw_1231, ok_X9_at⟩
theorem cs_L_68 : CV RL 68 miX9_move := ⟨gw_1240, gw_1243, gw_133, gw_1241, gw_1242, ok_X9_move⟩
theorem cs_L_71 : CV RL 71 miX9_used := ⟨gw_1252, gw_1255, gw_133, gw_1253, gw_1254, ok_X9_used⟩
theorem cs_L_75 : CV RL 75 miX9_busiest := ⟨gw_1272, gw_1275, gw_133, gw_1273, gw_1274, ok_X9_busiest⟩
theorem cs_L_78 : CV RL 78 miX9_waits := ⟨gw_1279, gw_1282, gw_133, gw_1280, gw_1281, ok_X9_waits⟩
theorem cs_L_81 : CV RL 81 miX9_late := ⟨gw_1290, gw_1293, gw_133, gw_1291, gw_1292, ok_X9_late⟩
theorem cs_L_85 : CV RL 85 miX9_worse := ⟨gw_1324, gw_1327, gw_133, gw_1325, gw_1326, ok_X9_worse⟩
theorem cs_L_88 : CV RL 88 miX9_who := ⟨gw_1337, gw_1340, gw_133, gw_1338, gw_1339, ok_X9_who⟩
theorem cs_L_91 : CV RL 91 miX9_near := ⟨gw_1345, gw_1348, gw_133, gw_1346, gw_1347, ok_X9_near⟩
theorem cs_L_94 : CV RL 94 miX9_without := ⟨gw_1359, gw_1362, gw_133, gw_1360, gw_1361, ok_X9_without⟩
theorem cs_L_97 : CV RL 97 miX9_follows := ⟨gw_1370, gw_1373, gw_133, gw_1371, gw_1372, ok_X9_follows⟩
theorem cs_L_100 : CV RL 100 miX9_shared := ⟨gw_1378, gw_1381, gw_133, gw_1379, gw_1380, ok_X9_shared⟩
theorem cs_L_103 : CV RL 103 miX9_slack := ⟨gw_1385, gw_1388, gw_133, gw_1386, gw_1387, ok_X9_slack⟩
theorem cs_L_106 : CV RL 106 miX9_critical := ⟨gw_1397, gw_1400, gw_133, gw_1398, gw_1399, ok_X9_critical⟩
theorem cs_L_110 : CV RL 110 miX9_ended := ⟨gw_1404, gw_1407, gw_133, gw_1405, gw_1406, ok_X9_ended⟩
theorem cs_L_113 : CV RL 113 miX9_way := ⟨gw_1411, gw_1414, gw_133, gw_1412, gw_1413, ok_X9_way⟩
theorem cs_L_116 : CV RL 116 miX9_again := ⟨gw_1423, gw_1426, gw_133, gw_1424, gw_1425, ok_X9_again⟩
theorem cs_L_119 : CV RL 119 miX9_among := ⟨gw_1430, gw_1433, gw_133, gw_1431, gw_1432, ok_X9_among⟩
theorem cs_L_122 : CV RL 122 miX9_byTurns := ⟨gw_1442, gw_1445, gw_133, gw_1443, gw_1444, ok_X9_byTurns⟩
theorem cs_L_125 : CV RL 125 miX9_turned := ⟨gw_1453, gw_1456, gw_133, gw_1454, gw_1455, ok_X9_turned⟩
theorem cs_L_128 : CV RL 128 miX9_ordered := ⟨gw_1460, gw_1463, gw_133, gw_1461, gw_1462, ok_X9_ordered⟩
theorem cs_L_131 : CV RL 131 miX9_write := ⟨gw_1467, gw_1470, gw_133, gw_1468, gw_1469, ok_X9_write⟩
theorem cs_L_134 : CI RL 134 miX9_init := ⟨gw_164, gw_166, gw_133, gw_165, ok_X9_init⟩
theorem cs_L_137 : CI RL 137 miX10_init := ⟨gw_1479, gw_1481, gw_142, gw_1480, ok_X10_init⟩
theorem cs_L_138 : CV RL 138 miX9_feed := ⟨gw_484, gw_487, gw_133, gw_485, gw_486, ok_X9_feed⟩
theorem cs_L_141 : CV RL 141 miX10_feed := ⟨gw_1658, gw_1661, gw_142, gw_1659, gw_1660, ok_X10_feed⟩
theorem cs_L_142 : CV RL 142 miX9_end := ⟨gw_492, gw_495, gw_133, gw_493, gw_494, ok_X9_end⟩
theorem cs_L_146 : CV RL 146 miX10_end := ⟨gw_1662, gw_1665, gw_142, gw_1663, gw_1664, ok_X10_end⟩
theorem cs_L_147 : CSW RL 147 miL_read := ⟨gw_642, gw_644, gw_132, gw_643, ok_L_read⟩
theorem cs_L_152 : CV RL 152 miX10_read := ⟨gw_1666, gw_1669, gw_142, gw_1667, gw_1668, ok_X10_read⟩
theorem cs_L_153 : CV RL 153 miX10_thrown := ⟨gw_1654, gw_1657, gw_142, gw_1655, gw_1656, ok_X10_thrown⟩
theorem cs_L_156 : CV RL 156 miX9_fault := ⟨gw_496, gw_499, gw_133, gw_497, gw_498, ok_X9_fault⟩
theorem cs_L_159 : CV RL 159 miX10_fault := ⟨gw_1737, gw_1740, gw_142, gw_1738, gw_1739, ok_X10_fault⟩
theorem cs_L_160 : CSW RL 160 miL_cell := ⟨gw_902, gw_904, gw_132, gw_903, ok_L_cell⟩
theorem cs_L_163 : CV RL 163 miX10_cell := ⟨gw_1741, gw_1744, gw_142, gw_1742, gw_1743, ok_X10_cell⟩
theorem cs_L_164 : CSW RL 164 miL_cart := ⟨gw_930, gw_932, gw_132, gw_931, ok_L_cart⟩
theorem cs_L_166 : CV RL 166 miX10_cart := ⟨gw_1752, gw_1755, gw_142, gw_1753, gw_1754, ok_X10_cart⟩
theorem cs_L_167 : CSW RL 167 miL_name := ⟨gw_957, gw_959, gw_132, gw_958, ok_L_name⟩
theorem cs_L_169 : CV RL 169 miX10_name := ⟨gw_1760, gw_1763, gw_142, gw_1761, gw_1762, ok_X10_name⟩
theorem cs_L_170 : CSW RL 170 miL_tell := ⟨gw_964, gw_966, gw_132, gw_965, ok_L_tell⟩
theorem cs_L_173 : CV RL 173 miX10_tell := ⟨gw_1770, gw_1773, gw_142, gw_1771, gw_1772, ok_X10_tell⟩
theorem cs_L_174 : CSW RL 174 miL_goal := ⟨gw_997, gw_999, gw_132, gw_998, ok_L_goal⟩
theorem cs_L_176 : CV RL 176 miX10_goal := ⟨gw_1782, gw_1785, gw_142, gw_1783, gw_1784, ok_X10_goal⟩
theorem cs_L_177 : CSW RL 177 miL_change := ⟨gw_1005, gw_1007, gw_132, gw_1006, ok_L_change⟩
theorem cs_L_180 : CV RL 180 miX10_change := ⟨gw_1786, gw_1789, gw_142, gw_1787, gw_1788, ok_X10_change⟩
theorem cs_L_181 : CV RL 181 miX9_undo := ⟨gw_500, gw_503, gw_133, gw_501, gw_502, ok_X9_undo⟩
theorem cs_L_184 : CV RL 184 miX10_undo := ⟨gw_1790, gw_1793, gw_142, gw_1791, gw_1792, ok_X10_undo⟩
theorem cs_L_185 : CSW RL 185 miL_cost := ⟨gw_1016, gw_1018, gw_132, gw_1017, ok_L_cost⟩
theorem cs_L_188 : CV RL 188 miX10_cost := ⟨gw_1794, gw_1797, gw_142, gw_1795, gw_1796, ok_X10_cost⟩
theorem cs_L_189 : CSW RL 189 miL_alone := ⟨gw_1023, gw_1025, gw_132, gw_1024, ok_L_alone⟩
theorem cs_L_191 : CV RL 191 miX10_alone := ⟨gw_1814, gw_1817, gw_142, gw_1815, gw_1816, ok_X10_alone⟩
theorem cs_L_192 : CSW RL 192 miL_clash := ⟨gw_1034, gw_1036, gw_132, gw_1035, ok_L_clash⟩
theorem cs_L_194 : CV RL 194 miX10_clash := ⟨gw_1818, gw_1821, gw_142, gw_1819, gw_1820, ok_X10_clash⟩
theorem cs_L_195 : CSW RL 195 miL_reach := ⟨gw_1065, gw_1067, gw_132, gw_1066, ok_L_reach⟩
theorem cs_L_197 : CV RL 197 miX10_reach := ⟨gw_1842, gw_1845, gw_142, gw_1843, gw_1844, ok_X10_reach⟩
theorem cs_L_198 : CSW RL 198 miL_far := ⟨gw_1082, gw_1084, gw_132, gw_1083, ok_L_far⟩
theorem cs_L_201 : CV RL 201 miX10_far := ⟨gw_1850, gw_1853, gw_142, gw_1851, gw_1852, ok_X10_far⟩
theorem cs_L_202 : CSW RL 202 miL_plan := ⟨gw_1091, gw_1093, gw_132, gw_1092, ok_L_plan⟩
theorem cs_L_204 : CV RL 204 miX10_plan := ⟨gw_1854, gw_1857, gw_142, gw_1855, gw_1856, ok_X10_plan⟩
theorem cs_L_205 : CSW RL 205 miL_node := ⟨gw_1219, gw_1221, gw_132, gw_1220, ok_L_node⟩
theorem cs_L_207 : CV RL 207 miX10_node := ⟨gw_1889, gw_1892, gw_142, gw_1890, gw_1891, ok_X10_node⟩
theorem cs_L_208 : CSW RL 208 miL_at := ⟨gw_1226, gw_1228, gw_132, gw_1227, ok_L_at⟩
theorem cs_L_210 : CV RL 210 miX10_at := ⟨gw_1893, gw_1896, gw_142, gw_1894, gw_1895, ok_X10_at⟩
theorem cs_L_211 : CSW RL 211 miL_move := ⟨gw_1237, gw_1239, gw_132, gw_1238, ok_L_move⟩
theorem cs_L_213 : CV RL 213 miX10_move := ⟨gw_1901, gw_1904, gw_142, gw_1902, gw_1903, ok_X10_move⟩
theorem cs_L_214 : CSW RL 214 miL_used := ⟨gw_1249, gw_1251, gw_132, gw_1250, ok_L_used⟩
theorem cs_L_217 : CV RL 217 miX10_used := ⟨gw_1905, gw_1908, gw_142, gw_1906, gw_1907, ok_X10_used⟩
theorem cs_L_218 : CSW RL 218 miL_busiest := ⟨gw_1269, gw_1271, gw_132, gw_1270, ok_L_busiest⟩
theorem cs_L_220 : CV RL 220 miX10_busiest := ⟨gw_1913, gw_1916, gw_142, gw_1914, gw_1915, ok_X10_busiest⟩
theorem cs_L_221 : CSW RL 221 miL_waits := ⟨gw_1276, gw_1278, gw_132, gw_1277, ok_L_waits⟩
theorem cs_L_223 : CV RL 223 miX10_waits := ⟨gw_1917, gw_1920, gw_142, gw_1918, gw_1919, ok_X10_waits⟩
theorem cs_L_224 : CSW RL 224 miL_late := ⟨gw_1287, gw_1289, gw_132, gw_1288, ok_L_late⟩
theorem cs_L_227 : CV RL 227 miX10_late := ⟨gw_1921, gw_1924, gw_142, gw_1922, gw_1923, ok_X10_late⟩
theorem cs_L_228 : CSW RL 228 miL_worse := ⟨gw_1321, gw_1323, gw_132, gw_1322, ok_L_worse⟩
theorem cs_L_230 : CV RL 230 miX10_worse := ⟨gw_1977, gw_1980, gw_142, gw_1978, gw_1979, ok_X10_worse⟩
theorem cs_L_231 : CSW RL 231 miL_who := ⟨gw_1334, gw_1336, gw_132, gw_1335, ok_L_who⟩
theorem cs_L_233 : CV RL 233 miX10_who := ⟨gw_1991, gw_1994, gw_142, gw_1992, gw_1993, ok_X10_who⟩
theorem cs_L_234 : CSW RL 234 miL_near := ⟨gw_1342, gw_1344, gw_132, gw_1343, ok_L_near⟩
theorem cs_L_236 : CV RL 236 miX10_near := ⟨gw_1995, gw_1998, gw_142, gw_1996, gw_1997, ok_X10_near⟩
theorem cs_L_237 : CSW RL 237 miL_without := ⟨gw_1356, gw_1358, gw_132, gw_1357, ok_L_without⟩
theorem cs_L_239 : CV RL 239 miX10_without := ⟨gw_2002, gw_2005, gw_142, gw_2003, gw_2004, ok_X10_without⟩
theorem cs_L_240 : CSW RL 240 miL_follows := ⟨gw_1367, gw_1369, gw_132, gw_1368, ok_L_follows⟩
theorem cs_L_242 : CV RL 242 miX10_follows := ⟨gw_1953, gw_1956, gw_142, gw_1954, gw_1955, ok_X10_follows⟩
theorem cs_L_243 : CSW RL 243 miL_shared := ⟨gw_1375, gw_1377, gw_132, gw_1376, ok_L_shared⟩
theorem cs_L_245 : CV RL 245 miX10_shared := ⟨gw_1957, gw_1960, gw_142, gw_1958, gw_1959, ok_X10_shared⟩
theorem cs_L_246 : CSW RL 246 miL_slack := ⟨gw_1382, gw_1384, gw_132, gw_1383, ok_L_slack⟩
theorem cs_L_248 : CV RL 248 miX10_slack := ⟨gw_1945, gw_1948, gw_142, gw_1946, gw_1947, ok_X10_slack⟩
theorem cs_L_249 : CSW RL 249 miL_critical := ⟨gw_1394, gw_1396, gw_132, gw_1395, ok_L_critical⟩
theorem cs_L_252 : CV RL 252 miX10_critical := ⟨gw_1949, gw_1952, gw_142, gw_1950, gw_1951, ok_X10_critical⟩
theorem cs_L_253 : CSW RL 253 miL_ended := ⟨gw_1401, gw_1403, gw_132, gw_1402, ok_L_ended⟩
theorem cs_L_255 : CV RL 255 miX10_ended := ⟨gw_1961, gw_1964, gw_142, gw_1962, gw_1963, ok_X10_ended⟩
theorem cs_L_256 : CSW RL 256 miL_way := ⟨gw_1408, gw_1410, gw_132, gw_1409, ok_L_way⟩
theorem cs_L_258 : CV RL 258 miX10_way := ⟨gw_1965, gw_1968, gw_142, gw_1966, gw_1967, ok_X10_way⟩
theorem cs_L_259 : CSW RL 259 miL_again := ⟨gw_1420, gw_1422, gw_132, gw_1421, ok_L_again⟩
theorem cs_L_261 : CV RL 261 miX10_again := ⟨gw_1969, gw_1972, gw_142, gw_1970, gw_1971, ok_X10_again⟩
theorem cs_L_262 : CSW RL 262 miL_among := ⟨gw_1427, gw_1429, gw_132, gw_1428, ok_L_among⟩
theorem cs_L_264 : CV RL 264 miX10_among := ⟨gw_1973, gw_1976, gw_142, gw_1974, gw_1975, ok_X10_among⟩
theorem cs_L_265 : CSW RL 265 miL_byTurns := ⟨gw_1439, gw_1441, gw_132, gw_1440, ok_L_byTurns⟩
theorem cs_L_267 : CV RL 267 miX10_byTurns := ⟨gw_2006, gw_2009, gw_142, gw_2007, gw_2008, ok_X10_byTurns⟩
theorem cs_L_268 : CSW RL 268 miL_turned := ⟨gw_1450, gw_1452, gw_132, gw_1451, ok_L_turned⟩
theorem cs_L_270 : CV RL 270 miX10_turned := ⟨gw_2030, gw_2033, gw_142, gw_2031, gw_2032, ok_X10_turned⟩
theorem cs_L_271 : CV RL 271 miX9_bestOrder := ⟨gw_532, gw_535, gw_133, gw_533, gw_534, ok_X9_bestOrder⟩
theorem cs_L_275 : CV RL 275 miX10_bestOrder := ⟨gw_2034, gw_2037, gw_142, gw_2035, gw_2036, ok_X10_bestOrder⟩
theorem cs_L_276 : CSW RL 276 miL_ordered := ⟨gw_1457, gw_1459, gw_132, gw_1458, ok_L_ordered⟩
theorem cs_L_278 : CV RL 278 miX10_ordered := ⟨gw_2038, gw_2041, gw_142, gw_2039, gw_2040, ok_X10_ordered⟩
theorem cs_L_279 : CSW RL 279 miL_write := ⟨gw_1464, gw_1466, gw_132, gw_1465, ok_L_write⟩
theorem cs_L_281 : CV RL 281 miX10_write := ⟨gw_2042, gw_2045, gw_142, gw_2043, gw_2044, ok_X10_write⟩
theorem cs_L_282 : CV RL 282 miX9_octet := ⟨gw_620, gw_623, gw_133, gw_621, gw_622, ok_X9_octet⟩
theorem cs_L_285 : CV RL 285 miX10_octet := ⟨gw_2049, gw_2052, gw_142, gw_2050, gw_2051, ok_X10_octet⟩
theorem cs_L_286 : CV RL 286 miX9_count := ⟨gw_624, gw_627, gw_133, gw_625, gw_626, ok_X9_count⟩
theorem cs_L_289 : CV RL 289 miX10_count := ⟨gw_2053, gw_2056, gw_142, gw_2054, gw_2055, ok_X10_count⟩
theorem th_IAE0 : ∀ w ∈ vx_at0 RX9 101 "java/lang/IllegalArgumentException" xnames, w ∈ lw_tbl := by decide +kernel
theorem th_IAE1 : ∀ w ∈ vx_at0 RX9 101 "java/lang/IllegalArgumentException" xnames, gw_ok w = true := by decide +kernel
theorem th_IAE : TH RX9 99 101 "java/lang/IllegalArgumentException" := ⟨by decide +kernel, gw_826, gw_153, fun w h => gw_in (th_IAE0 w h) (th_IAE1 w h), by decide +kernel⟩
theorem th_IOB0 : ∀ w ∈ vx_at0 RX9 125 "java/lang/IndexOutOfBoundsException" xnames, w ∈ lw_tbl := by decide +kernel
theorem th_IOB1 : ∀ w ∈ vx_at0 RX9 125 "java/lang/IndexOutOfBoundsException" xnames, gw_ok w = true := by decide +kernel
theorem th_IOB : TH RX9 123 125 "java/lang/IndexOutOfBoundsException" := ⟨by decide +kernel, gw_915, gw_155, fun w h => gw_in (th_IOB0 w h) (th_IOB1 w h), by decide +kernel⟩
theorem th_NSE0 : ∀ w ∈ vx_at0 RX9 144 "java/util/NoSuchElementException" xnames, w ∈ lw_tbl := by decide +kernel
theorem th_NSE1 : ∀ w ∈ vx_at0 RX9 144 "java/util/NoSuchElementException" xnames, gw_ok w = true := by decide +kernel
theorem th_NSE : TH RX9 142 144 "java/util/NoSuchElementException" := ⟨by decide +kernel, gw_942, gw_156, fun w h => gw_in (th_NSE0 w h) (th_NSE1 w h), by decide +kernel⟩
theorem th_ISE0 : ∀ w ∈ vx_at0 RX9 157 "java/lang/IllegalStateException" xnames, w ∈ lw_tbl := by decide +kernel
theorem th_ISE1 : ∀ w ∈ vx_at0 RX9 157 "java/lang/IllegalStateException" xnames, gw_ok w = true := by decide +kernel
theorem th_ISE : TH RX9 155 157 "java/lang/IllegalStateException" := ⟨by decide +kernel, gw_977, gw_157, fun w h => gw_in (th_ISE0 w h) (th_ISE1 w h), by decide +kernel⟩
