/-! ===== printed by program (wip/p44/lay_gl.py): what the law's methods hear of their callees ===== -/
set_option maxRecDepth 100000 in
theorem gL_law_L_build : GoodIn wsL_law (va_wsS RL 113 yL_build wsL_build) := goodIn_app (goodIn_of _ (by decide +kernel)) ggL_law_L_build
set_option maxRecDepth 100000 in
theorem gL_law_X10_save : GoodIn wsL_law (wsV RL 116 RX10 yX10_save wsX10_save) := goodIn_app (goodIn_of _ (by decide +kernel)) ggL_law_X10_save
set_option maxRecDepth 100000 in
theorem gL_law_L_state : GoodIn wsL_law (va_wsS RL 119 yL_state wsL_state) := goodIn_app (goodIn_of _ (by decide +kernel)) ggL_law_L_state
set_option maxRecDepth 100000 in
theorem gL_law_X10_leafletOf : GoodIn wsL_law (wsV RL 89 RX10 yX10_leafletOf wsX10_leafletOf) := goodIn_app (goodIn_of _ (by decide +kernel)) ggL_law_X10_leafletOf
set_option maxRecDepth 100000 in
theorem gL_law_X10_shelfOf : GoodIn wsL_law (wsV RL 123 RX10 yX10_shelfOf wsX10_shelfOf) := goodIn_app (goodIn_of _ (by decide +kernel)) ggL_law_X10_shelfOf
set_option maxRecDepth 100000 in
theorem gL_law_J6_bitCount_0f7a4 : GoodIn wsL_law (va_wsS RL 126 yJ6_bitCount_0f7a4 wsJ6_bitCount_0f7a4) := goodIn_app (goodIn_of _ (by decide +kernel)) ggL_law_J6_bitCount_0f7a4
set_option maxRecDepth 100000 in
theorem gL_law_J4_init_da8c8 : GoodIn wsL_law (wsJ4_init_da8c8) := ggL_law_J4_init_da8c8
set_option maxRecDepth 100000 in
theorem gL_law_J4_append_15ec4 : GoodIn wsL_law (wsV RL 136 RJ4 yJ4_append_15ec4 wsJ4_append_15ec4) := goodIn_app (goodIn_of _ (by decide +kernel)) ggL_law_J4_append_15ec4
set_option maxRecDepth 100000 in
theorem gL_law_J4_append_bf812 : GoodIn wsL_law (wsV RL 139 RJ4 yJ4_append_bf812 wsJ4_append_bf812) := goodIn_app (goodIn_of _ (by decide +kernel)) ggL_law_J4_append_bf812
set_option maxRecDepth 100000 in
theorem gL_law_J4_toString_0e30d : GoodIn wsL_law (wsV RL 144 RJ4 yJ4_toString_0e30d wsJ4_toString_0e30d) := goodIn_app (goodIn_of _ (by decide +kernel)) ggL_law_J4_toString_0e30d
set_option maxRecDepth 100000 in
theorem gL_law_L_put : GoodIn wsL_law (va_wsS RL 148 yL_put wsL_put) := goodIn_app (goodIn_of _ (by decide +kernel)) ggL_law_L_put
set_option maxRecDepth 100000 in
theorem gL_law_X10_commands : GoodIn wsL_law (wsV RL 152 RX10 yX10_commands wsX10_commands) := goodIn_app (goodIn_of _ (by decide +kernel)) ggL_law_X10_commands
set_option maxRecDepth 100000 in
theorem gL_law_X10_move : GoodIn wsL_law (wsV RL 72 RX10 yX10_move wsX10_move) := goodIn_app (goodIn_of _ (by decide +kernel)) ggL_law_X10_move
set_option maxRecDepth 100000 in
theorem gL_law_X10_account : GoodIn wsL_law (wsV RL 34 RX10 yX10_account wsX10_account) := goodIn_app (goodIn_of _ (by decide +kernel)) ggL_law_X10_account
set_option maxRecDepth 100000 in
theorem gL_law_X10_faultPosition : GoodIn wsL_law (wsV RL 155 RX10 yX10_faultPosition wsX10_faultPosition) := goodIn_app (goodIn_of _ (by decide +kernel)) ggL_law_X10_faultPosition
set_option maxRecDepth 100000 in
theorem gL_law_X10_undo : GoodIn wsL_law (wsV RL 158 RX10 yX10_undo wsX10_undo) := goodIn_app (goodIn_of _ (by decide +kernel)) ggL_law_X10_undo
set_option maxRecDepth 100000 in
theorem gL_law_L_runs : GoodIn wsL_law (va_wsS RL 161 yL_runs wsL_runs) := goodIn_app (goodIn_of _ (by decide +kernel)) ggL_law_L_runs
set_option maxRecDepth 100000 in
theorem gL_law_X10_reason : GoodIn wsL_law (wsV RL 164 RX10 yX10_reason wsX10_reason) := goodIn_app (goodIn_of _ (by decide +kernel)) ggL_law_X10_reason
set_option maxRecDepth 100000 in
theorem gL_law_L_faults : GoodIn wsL_law (va_wsS RL 173 yL_faults wsL_faults) := goodIn_app (goodIn_of _ (by decide +kernel)) ggL_law_L_faults
set_option maxRecDepth 100000 in
theorem gL_law_L_at : GoodIn wsL_law (va_wsS RL 24 yL_at wsL_at) := goodIn_app (goodIn_of _ (by decide +kernel)) ggL_law_L_at
set_option maxRecDepth 100000 in
theorem gL_law_X10_init : GoodIn wsL_law (wsX10_init) := ggL_law_X10_init
set_option maxRecDepth 100000 in
theorem gL_law_X10_isEven : GoodIn wsL_law (wsV RL 195 RX10 yX10_isEven wsX10_isEven) := goodIn_app (goodIn_of _ (by decide +kernel)) ggL_law_X10_isEven
set_option maxRecDepth 100000 in
theorem gL_law_L_act : GoodIn wsL_law (va_wsS RL 30 yL_act wsL_act) := goodIn_app (goodIn_of _ (by decide +kernel)) ggL_law_L_act
set_option maxRecDepth 100000 in
theorem gL_law_X10_line : GoodIn wsL_law (wsV RL 209 RX10 yX10_line wsX10_line) := goodIn_app (goodIn_of _ (by decide +kernel)) ggL_law_X10_line
set_option maxRecDepth 100000 in
theorem gL_law_L_isLine : GoodIn wsL_law (va_wsS RL 218 yL_isLine wsL_isLine) := goodIn_app (goodIn_of _ (by decide +kernel)) ggL_law_L_isLine
set_option maxRecDepth 100000 in
theorem gL_law_X10_wouldSkip : GoodIn wsL_law (wsV RL 222 RX10 yX10_wouldSkip wsX10_wouldSkip) := goodIn_app (goodIn_of _ (by decide +kernel)) ggL_law_X10_wouldSkip
set_option maxRecDepth 100000 in
theorem gL_law_X10_why : GoodIn wsL_law (wsV RL 225 RX10 yX10_why wsX10_why) := goodIn_app (goodIn_of _ (by decide +kernel)) ggL_law_X10_why
set_option maxRecDepth 100000 in
theorem gL_law_X10_whyAgain : GoodIn wsL_law (wsV RL 228 RX10 yX10_whyAgain wsX10_whyAgain) := goodIn_app (goodIn_of _ (by decide +kernel)) ggL_law_X10_whyAgain
set_option maxRecDepth 100000 in
theorem gL_law_X10_bestCousin : GoodIn wsL_law (wsV RL 231 RX10 yX10_bestCousin wsX10_bestCousin) := goodIn_app (goodIn_of _ (by decide +kernel)) ggL_law_X10_bestCousin
set_option maxRecDepth 100000 in
theorem gL_law_X10_wouldLeave : GoodIn wsL_law (wsV RL 234 RX10 yX10_wouldLeave wsX10_wouldLeave) := goodIn_app (goodIn_of _ (by decide +kernel)) ggL_law_X10_wouldLeave
set_option maxRecDepth 100000 in
theorem gL_law_X10_bestFolds : GoodIn wsL_law (wsV RL 237 RX10 yX10_bestFolds wsX10_bestFolds) := goodIn_app (goodIn_of _ (by decide +kernel)) ggL_law_X10_bestFolds
set_option maxRecDepth 100000 in
theorem gL_law_X10_fold : GoodIn wsL_law (wsV RL 51 RX10 yX10_fold wsX10_fold) := goodIn_app (goodIn_of _ (by decide +kernel)) ggL_law_X10_fold
set_option maxRecDepth 100000 in
theorem gL_law_X10_unfold : GoodIn wsL_law (wsV RL 54 RX10 yX10_unfold wsX10_unfold) := goodIn_app (goodIn_of _ (by decide +kernel)) ggL_law_X10_unfold
set_option maxRecDepth 100000 in
theorem gL_law_X10_build : GoodIn wsL_law (wsV RL 63 RX10 yX10_build wsX10_build) := goodIn_app (goodIn_of _ (by decide +kernel)) ggL_law_X10_build
set_option maxRecDepth 100000 in
theorem gL_law_X10_tin : GoodIn wsL_law (wsV RL 83 RX10 yX10_tin wsX10_tin) := goodIn_app (goodIn_of _ (by decide +kernel)) ggL_law_X10_tin
set_option maxRecDepth 100000 in
theorem gL_law_X10_skippedShare : GoodIn wsL_law (wsV RL 242 RX10 yX10_skippedShare wsX10_skippedShare) := goodIn_app (goodIn_of _ (by decide +kernel)) ggL_law_X10_skippedShare
set_option maxRecDepth 100000 in
theorem gL_law_X10_lose : GoodIn wsL_law (wsV RL 75 RX10 yX10_lose wsX10_lose) := goodIn_app (goodIn_of _ (by decide +kernel)) ggL_law_X10_lose
set_option maxRecDepth 100000 in
theorem gL_law_X10_canFinish : GoodIn wsL_law (wsV RL 251 RX10 yX10_canFinish wsX10_canFinish) := goodIn_app (goodIn_of _ (by decide +kernel)) ggL_law_X10_canFinish
set_option maxRecDepth 100000 in
theorem gL_law_X10_couldFinish : GoodIn wsL_law (wsV RL 255 RX10 yX10_couldFinish wsX10_couldFinish) := goodIn_app (goodIn_of _ (by decide +kernel)) ggL_law_X10_couldFinish
set_option maxRecDepth 100000 in
theorem gL_law_X10_lost : GoodIn wsL_law (wsV RL 86 RX10 yX10_lost wsX10_lost) := goodIn_app (goodIn_of _ (by decide +kernel)) ggL_law_X10_lost
set_option maxRecDepth 100000 in
theorem gL_law_X10_find : GoodIn wsL_law (wsV RL 78 RX10 yX10_find wsX10_find) := goodIn_app (goodIn_of _ (by decide +kernel)) ggL_law_X10_find
set_option maxRecDepth 100000 in
theorem gL_law_X10_finish : GoodIn wsL_law (wsV RL 66 RX10 yX10_finish wsX10_finish) := goodIn_app (goodIn_of _ (by decide +kernel)) ggL_law_X10_finish
set_option maxRecDepth 100000 in
theorem gL_law_X10_cousinOf : GoodIn wsL_law (wsV RL 96 RX10 yX10_cousinOf wsX10_cousinOf) := goodIn_app (goodIn_of _ (by decide +kernel)) ggL_law_X10_cousinOf
set_option maxRecDepth 100000 in
theorem gL_law_X10_apart : GoodIn wsL_law (wsV RL 69 RX10 yX10_apart wsX10_apart) := goodIn_app (goodIn_of _ (by decide +kernel)) ggL_law_X10_apart
set_option maxRecDepth 100000 in
theorem gL_law_X10_bestLanguage : GoodIn wsL_law (wsV RL 258 RX10 yX10_bestLanguage wsX10_bestLanguage) := goodIn_app (goodIn_of _ (by decide +kernel)) ggL_law_X10_bestLanguage
set_option maxRecDepth 100000 in
theorem gL_law_X10_learn : GoodIn wsL_law (wsV RL 60 RX10 yX10_learn wsX10_learn) := goodIn_app (goodIn_of _ (by decide +kernel)) ggL_law_X10_learn
set_option maxRecDepth 100000 in
theorem gL_law_X10_ranked : GoodIn wsL_law (wsV RL 261 RX10 yX10_ranked wsX10_ranked) := goodIn_app (goodIn_of _ (by decide +kernel)) ggL_law_X10_ranked
set_option maxRecDepth 100000 in
theorem gL_law_X10_restore : GoodIn wsL_law (wsV RL 264 RX10 yX10_restore wsX10_restore) := goodIn_app (goodIn_of _ (by decide +kernel)) ggL_law_X10_restore
