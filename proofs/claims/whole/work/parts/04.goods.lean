set_option maxRecDepth 20000 in
theorem ggX0_takeFrom_X2_size : GoodIn wsX0_takeFrom wsX2_size := goodIn_r _ [12, 13, 26, 27, 28, 29, 30] (by decide +kernel) (by decide +kernel)
set_option maxRecDepth 20000 in
theorem gX0_takeFrom_X2_size : GoodIn wsX0_takeFrom (wsV RX0 23 RX2 yX2_size wsX2_size) := goodIn_app (goodIn_of _ (by decide +kernel)) ggX0_takeFrom_X2_size
set_option maxRecDepth 20000 in
theorem ggX0_takeFrom_X2_thoughtOf : GoodIn wsX0_takeFrom wsX2_thoughtOf := goodIn_r _ [17, 18, 19, 20, 21, 11, 22, 13, 26, 27, 28, 29, 30] (by decide +kernel) (by decide +kernel)
set_option maxRecDepth 20000 in
theorem gX0_takeFrom_X2_thoughtOf : GoodIn wsX0_takeFrom (wsV RX0 35 RX2 yX2_thoughtOf wsX2_thoughtOf) := goodIn_app (goodIn_of _ (by decide +kernel)) ggX0_takeFrom_X2_thoughtOf
set_option maxRecDepth 20000 in
theorem ggX0_giveBackTo_X2_rethink : GoodIn wsX0_giveBackTo wsX2_rethink := goodIn_r _ [7, 8, 9, 10, 11, 6, 12, 13, 17, 18, 19, 20, 21] (by decide +kernel) (by decide +kernel)
set_option maxRecDepth 20000 in
theorem gX0_giveBackTo_X2_rethink : GoodIn wsX0_giveBackTo (wsV RX0 39 RX2 yX2_rethink wsX2_rethink) := goodIn_app (goodIn_of _ (by decide +kernel)) ggX0_giveBackTo_X2_rethink
set_option maxRecDepth 20000 in
theorem ggX1_followListening_X2_size : GoodIn wsX1_followListening wsX2_size := goodIn_r _ [6, 7, 41, 42, 43, 44, 45] (by decide +kernel) (by decide +kernel)
set_option maxRecDepth 20000 in
theorem gX1_followListening_X2_size : GoodIn wsX1_followListening (wsV RX1 19 RX2 yX2_size wsX2_size) := goodIn_app (goodIn_of _ (by decide +kernel)) ggX1_followListening_X2_size
set_option maxRecDepth 20000 in
theorem ggX1_followListening_X1_begin : GoodIn wsX1_followListening wsX1_begin := goodIn_r _ [12, 1, 13, 39, 40] (by decide +kernel) (by decide +kernel)
set_option maxRecDepth 20000 in
theorem gX1_followListening_X1_begin : GoodIn wsX1_followListening (wsV RX1 25 RX1 yX1_begin wsX1_begin) := goodIn_app (goodIn_of _ (by decide +kernel)) ggX1_followListening_X1_begin
set_option maxRecDepth 20000 in
theorem ggX1_followListening_X2_weightOf : GoodIn wsX1_followListening wsX2_weightOf := goodIn_r _ [17, 18, 19, 20, 21, 5, 22, 7, 41, 42, 43, 44, 45] (by decide +kernel) (by decide +kernel)
set_option maxRecDepth 20000 in
theorem gX1_followListening_X2_weightOf : GoodIn wsX1_followListening (wsV RX1 29 RX2 yX2_weightOf wsX2_weightOf) := goodIn_app (goodIn_of _ (by decide +kernel)) ggX1_followListening_X2_weightOf
set_option maxRecDepth 20000 in
theorem ggX1_followListening_X1_tie : GoodIn wsX1_followListening wsX1_tie := goodIn_r _ [26, 13, 27, 28, 29, 11, 30, 1, 39, 40] (by decide +kernel) (by decide +kernel)
set_option maxRecDepth 20000 in
theorem gX1_followListening_X1_tie : GoodIn wsX1_followListening (wsV RX1 33 RX1 yX1_tie wsX1_tie) := goodIn_app (goodIn_of _ (by decide +kernel)) ggX1_followListening_X1_tie
set_option maxRecDepth 20000 in
theorem ggX1_followListening_X1_followOn : GoodIn wsX1_followListening wsX1_followOn := goodIn_r _ [34, 1, 13, 35, 36, 37, 11, 38, 27, 28, 29, 30, 39, 40] (by decide +kernel) (by decide +kernel)
set_option maxRecDepth 20000 in
theorem gX1_followListening_X1_followOn : GoodIn wsX1_followListening (wsV RX1 37 RX1 yX1_followOn wsX1_followOn) := goodIn_app (goodIn_of _ (by decide +kernel)) ggX1_followListening_X1_followOn
set_option maxRecDepth 20000 in
theorem ggX1_followHanging_X2_size : GoodIn wsX1_followHanging wsX2_size := goodIn_r _ [6, 7, 51, 52, 53, 54, 55] (by decide +kernel) (by decide +kernel)
set_option maxRecDepth 20000 in
theorem gX1_followHanging_X2_size : GoodIn wsX1_followHanging (wsV RX1 19 RX2 yX2_size wsX2_size) := goodIn_app (goodIn_of _ (by decide +kernel)) ggX1_followHanging_X2_size
set_option maxRecDepth 20000 in
theorem ggX1_followHanging_X1_begin : GoodIn wsX1_followHanging wsX1_begin := goodIn_r _ [12, 1, 13, 49, 50] (by decide +kernel) (by decide +kernel)
set_option maxRecDepth 20000 in
theorem gX1_followHanging_X1_begin : GoodIn wsX1_followHanging (wsV RX1 25 RX1 yX1_begin wsX1_begin) := goodIn_app (goodIn_of _ (by decide +kernel)) ggX1_followHanging_X1_begin
set_option maxRecDepth 20000 in
theorem ggX1_followHanging_X2_hangTogether : GoodIn wsX1_followHanging wsX2_hangTogether := goodIn_r _ [17, 18, 19, 20, 5, 21, 22, 23, 24, 25, 26, 27, 28, 29, 30, 31, 32, 7, 51, 52, 53, 54, 55] (by decide +kernel) (by decide +kernel)
set_option maxRecDepth 20000 in
theorem gX1_followHanging_X2_hangTogether : GoodIn wsX1_followHanging (wsV RX1 40 RX2 yX2_hangTogether wsX2_hangTogether) := goodIn_app (goodIn_of _ (by decide +kernel)) ggX1_followHanging_X2_hangTogether
set_option maxRecDepth 20000 in
theorem ggX1_followHanging_X1_tie : GoodIn wsX1_followHanging wsX1_tie := goodIn_r _ [36, 13, 37, 38, 39, 11, 40, 1, 49, 50] (by decide +kernel) (by decide +kernel)
set_option maxRecDepth 20000 in
theorem gX1_followHanging_X1_tie : GoodIn wsX1_followHanging (wsV RX1 33 RX1 yX1_tie wsX1_tie) := goodIn_app (goodIn_of _ (by decide +kernel)) ggX1_followHanging_X1_tie
set_option maxRecDepth 20000 in
theorem ggX1_followHanging_X1_followOn : GoodIn wsX1_followHanging wsX1_followOn := goodIn_r _ [44, 1, 13, 45, 46, 47, 11, 48, 37, 38, 39, 40, 49, 50] (by decide +kernel) (by decide +kernel)
set_option maxRecDepth 20000 in
theorem gX1_followHanging_X1_followOn : GoodIn wsX1_followHanging (wsV RX1 37 RX1 yX1_followOn wsX1_followOn) := goodIn_app (goodIn_of _ (by decide +kernel)) ggX1_followHanging_X1_followOn
set_option maxRecDepth 20000 in
theorem ggX1_isTied_X1_isThere : GoodIn wsX1_isTied wsX1_isThere := goodIn_r _ [6, 7, 1, 8, 9] (by decide +kernel) (by decide +kernel)
set_option maxRecDepth 20000 in
theorem gX1_isTied_X1_isThere : GoodIn wsX1_isTied (wsV RX1 44 RX1 yX1_isThere wsX1_isThere) := goodIn_app (goodIn_of _ (by decide +kernel)) ggX1_isTied_X1_isThere
set_option maxRecDepth 20000 in
theorem ggX1_firstTiedTo_X1_isTied : GoodIn wsX1_firstTiedTo wsX1_isTied := goodIn_r _ [5, 6, 7, 8, 9, 4, 10, 11, 12, 13] (by decide +kernel) (by decide +kernel)
set_option maxRecDepth 20000 in
theorem gX1_firstTiedTo_X1_isTied : GoodIn wsX1_firstTiedTo (wsV RX1 48 RX1 yX1_isTied wsX1_isTied) := goodIn_app (goodIn_of _ (by decide +kernel)) ggX1_firstTiedTo_X1_isTied
set_option maxRecDepth 20000 in
theorem ggX1_countFirsts_X1_firstTiedTo : GoodIn wsX1_countFirsts wsX1_firstTiedTo := goodIn_r _ [6, 7, 8, 9, 5, 10, 11, 12, 13, 14, 15, 1, 16, 17] (by decide +kernel) (by decide +kernel)
set_option maxRecDepth 20000 in
theorem gX1_countFirsts_X1_firstTiedTo : GoodIn wsX1_countFirsts (wsV RX1 51 RX1 yX1_firstTiedTo wsX1_firstTiedTo) := goodIn_app (goodIn_of _ (by decide +kernel)) ggX1_countFirsts_X1_firstTiedTo
set_option maxRecDepth 20000 in
theorem ggX1_tie_X1_isThere : GoodIn wsX1_tie wsX1_isThere := goodIn_r _ [6, 7, 1, 8, 9] (by decide +kernel) (by decide +kernel)
set_option maxRecDepth 20000 in
theorem gX1_tie_X1_isThere : GoodIn wsX1_tie (wsV RX1 44 RX1 yX1_isThere wsX1_isThere) := goodIn_app (goodIn_of _ (by decide +kernel)) ggX1_tie_X1_isThere
set_option maxRecDepth 20000 in
theorem ggX1_followOn_X1_isTied : GoodIn wsX1_followOn wsX1_isTied := goodIn_r _ [7, 2, 8, 9, 10, 6, 11, 1, 12, 13] (by decide +kernel) (by decide +kernel)
set_option maxRecDepth 20000 in
theorem gX1_followOn_X1_isTied : GoodIn wsX1_followOn (wsV RX1 48 RX1 yX1_isTied wsX1_isTied) := goodIn_app (goodIn_of _ (by decide +kernel)) ggX1_followOn_X1_isTied
set_option maxRecDepth 20000 in
theorem ggX2_join_X2_rethink : GoodIn wsX2_join wsX2_rethink := goodIn_r _ [6, 7, 8, 9, 10, 5, 11, 1, 17, 18, 19, 20, 21] (by decide +kernel) (by decide +kernel)
set_option maxRecDepth 20000 in
theorem gX2_join_X2_rethink : GoodIn wsX2_join (wsV RX2 31 RX2 yX2_rethink wsX2_rethink) := goodIn_app (goodIn_of _ (by decide +kernel)) ggX2_join_X2_rethink
set_option maxRecDepth 20000 in
theorem ggX2_join_X2_weigh : GoodIn wsX2_join wsX2_weigh := goodIn_r _ [15, 16, 8, 9, 10, 5, 11, 1, 17, 18, 19, 20, 21] (by decide +kernel) (by decide +kernel)
set_option maxRecDepth 20000 in
theorem gX2_join_X2_weigh : GoodIn wsX2_join (wsV RX2 35 RX2 yX2_weigh wsX2_weigh) := goodIn_app (goodIn_of _ (by decide +kernel)) ggX2_join_X2_weigh
set_option maxRecDepth 20000 in
theorem ggX2_thoughtOf_X2_has : GoodIn wsX2_thoughtOf wsX2_has := goodIn_r _ [6, 7, 8, 9, 10, 11, 12] (by decide +kernel) (by decide +kernel)
set_option maxRecDepth 20000 in
theorem gX2_thoughtOf_X2_has : GoodIn wsX2_thoughtOf (wsV RX2 39 RX2 yX2_has wsX2_has) := goodIn_app (goodIn_of _ (by decide +kernel)) ggX2_thoughtOf_X2_has
set_option maxRecDepth 20000 in
theorem ggX2_rethink_X2_has : GoodIn wsX2_rethink wsX2_has := goodIn_r _ [6, 7, 8, 9, 10, 11, 12] (by decide +kernel) (by decide +kernel)
set_option maxRecDepth 20000 in
theorem gX2_rethink_X2_has : GoodIn wsX2_rethink (wsV RX2 39 RX2 yX2_has wsX2_has) := goodIn_app (goodIn_of _ (by decide +kernel)) ggX2_rethink_X2_has
set_option maxRecDepth 20000 in
theorem ggX2_isStubborn_X2_has : GoodIn wsX2_isStubborn wsX2_has := goodIn_r _ [6, 7, 8, 9, 10, 11, 12] (by decide +kernel) (by decide +kernel)
set_option maxRecDepth 20000 in
theorem gX2_isStubborn_X2_has : GoodIn wsX2_isStubborn (wsV RX2 39 RX2 yX2_has wsX2_has) := goodIn_app (goodIn_of _ (by decide +kernel)) ggX2_isStubborn_X2_has
set_option maxRecDepth 20000 in
theorem ggX2_makeStubborn_X2_has : GoodIn wsX2_makeStubborn wsX2_has := goodIn_r _ [6, 7, 8, 9, 10, 11, 12] (by decide +kernel) (by decide +kernel)
set_option maxRecDepth 20000 in
theorem gX2_makeStubborn_X2_has : GoodIn wsX2_makeStubborn (wsV RX2 39 RX2 yX2_has wsX2_has) := goodIn_app (goodIn_of _ (by decide +kernel)) ggX2_makeStubborn_X2_has
set_option maxRecDepth 20000 in
theorem ggX2_weightOf_X2_has : GoodIn wsX2_weightOf wsX2_has := goodIn_r _ [6, 7, 8, 9, 10, 11, 12] (by decide +kernel) (by decide +kernel)
set_option maxRecDepth 20000 in
theorem gX2_weightOf_X2_has : GoodIn wsX2_weightOf (wsV RX2 39 RX2 yX2_has wsX2_has) := goodIn_app (goodIn_of _ (by decide +kernel)) ggX2_weightOf_X2_has
set_option maxRecDepth 20000 in
theorem ggX2_weigh_X2_has : GoodIn wsX2_weigh wsX2_has := goodIn_r _ [6, 7, 8, 9, 10, 11, 12] (by decide +kernel) (by decide +kernel)
set_option maxRecDepth 20000 in
theorem gX2_weigh_X2_has : GoodIn wsX2_weigh (wsV RX2 39 RX2 yX2_has wsX2_has) := goodIn_app (goodIn_of _ (by decide +kernel)) ggX2_weigh_X2_has
set_option maxRecDepth 20000 in
theorem ggX2_hears_X2_has : GoodIn wsX2_hears wsX2_has := goodIn_r _ [12, 13, 14, 15, 16, 17, 18] (by decide +kernel) (by decide +kernel)
set_option maxRecDepth 20000 in
theorem gX2_hears_X2_has : GoodIn wsX2_hears (wsV RX2 39 RX2 yX2_has wsX2_has) := goodIn_app (goodIn_of _ (by decide +kernel)) ggX2_hears_X2_has
set_option maxRecDepth 20000 in
theorem ggX2_countHeard_X2_hears : GoodIn wsX2_countHeard wsX2_hears := goodIn_r _ [6, 7, 8, 9, 10, 11, 12, 13, 14, 15, 16, 5, 17, 1, 18, 19, 20, 21, 22] (by decide +kernel) (by decide +kernel)
set_option maxRecDepth 20000 in
theorem gX2_countHeard_X2_hears : GoodIn wsX2_countHeard (wsV RX2 49 RX2 yX2_hears wsX2_hears) := goodIn_app (goodIn_of _ (by decide +kernel)) ggX2_countHeard_X2_hears
set_option maxRecDepth 20000 in
theorem ggX2_thoughtAfterRound_X2_has : GoodIn wsX2_thoughtAfterRound wsX2_has := goodIn_r _ [9, 2, 23, 24, 25, 26, 27] (by decide +kernel) (by decide +kernel)
set_option maxRecDepth 20000 in
theorem gX2_thoughtAfterRound_X2_has : GoodIn wsX2_thoughtAfterRound (wsV RX2 39 RX2 yX2_has wsX2_has) := goodIn_app (goodIn_of _ (by decide +kernel)) ggX2_thoughtAfterRound_X2_has
set_option maxRecDepth 20000 in
theorem ggX2_thoughtAfterRound_X2_thoughtOf : GoodIn wsX2_thoughtAfterRound wsX2_thoughtOf := goodIn_r _ [13, 4, 5, 6, 7, 8, 9, 2, 23, 24, 25, 26, 27] (by decide +kernel) (by decide +kernel)
set_option maxRecDepth 20000 in
theorem gX2_thoughtAfterRound_X2_thoughtOf : GoodIn wsX2_thoughtAfterRound (wsV RX2 53 RX2 yX2_thoughtOf wsX2_thoughtOf) := goodIn_app (goodIn_of _ (by decide +kernel)) ggX2_thoughtAfterRound_X2_thoughtOf
set_option maxRecDepth 20000 in
theorem ggX2_thoughtAfterRound_X2_hears : GoodIn wsX2_thoughtAfterRound wsX2_hears := goodIn_r _ [17, 3, 4, 18, 19, 20, 21, 22, 5, 6, 7, 8, 9, 2, 23, 24, 25, 26, 27] (by decide +kernel) (by decide +kernel)
set_option maxRecDepth 20000 in
theorem gX2_thoughtAfterRound_X2_hears : GoodIn wsX2_thoughtAfterRound (wsV RX2 49 RX2 yX2_hears wsX2_hears) := goodIn_app (goodIn_of _ (by decide +kernel)) ggX2_thoughtAfterRound_X2_hears
set_option maxRecDepth 20000 in
theorem ggX2_hangTogether_X2_hears : GoodIn wsX2_hangTogether wsX2_hears := goodIn_r _ [5, 6, 7, 8, 9, 10, 11, 12, 13, 14, 15, 4, 16, 17, 18, 19, 20, 21, 22] (by decide +kernel) (by decide +kernel)
set_option maxRecDepth 20000 in
theorem gX2_hangTogether_X2_hears : GoodIn wsX2_hangTogether (wsV RX2 49 RX2 yX2_hears wsX2_hears) := goodIn_app (goodIn_of _ (by decide +kernel)) ggX2_hangTogether_X2_hears
set_option maxRecDepth 20000 in
theorem ggX2_spread_X2_thoughtOf : GoodIn wsX2_spread wsX2_thoughtOf := goodIn_r _ [13, 14, 15, 16, 17, 12, 18, 1, 19, 20, 21, 22, 23] (by decide +kernel) (by decide +kernel)
set_option maxRecDepth 20000 in
theorem gX2_spread_X2_thoughtOf : GoodIn wsX2_spread (wsV RX2 53 RX2 yX2_thoughtOf wsX2_thoughtOf) := goodIn_app (goodIn_of _ (by decide +kernel)) ggX2_spread_X2_thoughtOf
set_option maxRecDepth 20000 in
theorem ggX2_discord_X2_thoughtOf : GoodIn wsX2_discord wsX2_thoughtOf := goodIn_r _ [10, 11, 12, 13, 14, 9, 15, 1, 16, 17, 18, 19, 20] (by decide +kernel) (by decide +kernel)
set_option maxRecDepth 20000 in
theorem gX2_discord_X2_thoughtOf : GoodIn wsX2_discord (wsV RX2 53 RX2 yX2_thoughtOf wsX2_thoughtOf) := goodIn_app (goodIn_of _ (by decide +kernel)) ggX2_discord_X2_thoughtOf
set_option maxRecDepth 20000 in
theorem ggX2_sumOfThoughts_X2_thoughtOf : GoodIn wsX2_sumOfThoughts wsX2_thoughtOf := goodIn_r _ [6, 7, 8, 9, 10, 5, 11, 1, 12, 13, 14, 15, 16] (by decide +kernel) (by decide +kernel)
set_option maxRecDepth 20000 in
theorem gX2_sumOfThoughts_X2_thoughtOf : GoodIn wsX2_sumOfThoughts (wsV RX2 53 RX2 yX2_thoughtOf wsX2_thoughtOf) := goodIn_app (goodIn_of _ (by decide +kernel)) ggX2_sumOfThoughts_X2_thoughtOf
set_option maxRecDepth 20000 in
theorem ggX2_countStubborn_X2_isStubborn : GoodIn wsX2_countStubborn wsX2_isStubborn := goodIn_r _ [6, 7, 8, 9, 10, 5, 11, 1, 12, 13, 14, 15, 16] (by decide +kernel) (by decide +kernel)
set_option maxRecDepth 20000 in
theorem gX2_countStubborn_X2_isStubborn : GoodIn wsX2_countStubborn (wsV RX2 63 RX2 yX2_isStubborn wsX2_isStubborn) := goodIn_app (goodIn_of _ (by decide +kernel)) ggX2_countStubborn_X2_isStubborn
set_option maxRecDepth 20000 in
theorem ggX2_countMoving_X2_countStubborn : GoodIn wsX2_countMoving wsX2_countStubborn := goodIn_r _ [6, 1, 7, 8, 9, 5, 10, 11, 12, 13, 14, 15, 16, 17, 18, 19, 20] (by decide +kernel) (by decide +kernel)
set_option maxRecDepth 20000 in
theorem gX2_countMoving_X2_countStubborn : GoodIn wsX2_countMoving (wsV RX2 66 RX2 yX2_countStubborn wsX2_countStubborn) := goodIn_app (goodIn_of _ (by decide +kernel)) ggX2_countMoving_X2_countStubborn
set_option maxRecDepth 20000 in
theorem ggX3_init_X6_init : GoodIn wsX3_init wsX6_init := goodIn_r _ [14, 15, 2, 3, 16, 10, 17, 18, 19, 20, 21, 22, 23, 24] (by decide +kernel) (by decide +kernel)
set_option maxRecDepth 20000 in
theorem gX3_init_X6_init_n11 : GoodIn wsX3_init (wsX6_init) := ggX3_init_X6_init
set_option maxRecDepth 20000 in
theorem ggX3_isTold_X2_countMoving : GoodIn wsX3_isTold wsX2_countMoving := goodIn_r _ [5, 6, 7, 8, 9, 4, 10, 11, 12, 13, 14, 15, 16, 17, 18, 19, 66, 67, 68, 69, 70] (by decide +kernel) (by decide +kernel)
set_option maxRecDepth 20000 in
theorem gX3_isTold_X2_countMoving : GoodIn wsX3_isTold (wsV RX3 30 RX2 yX2_countMoving wsX2_countMoving) := goodIn_app (goodIn_of _ (by decide +kernel)) ggX3_isTold_X2_countMoving
set_option maxRecDepth 20000 in
theorem ggX3_isTold_X8_isFrom : GoodIn wsX3_isTold wsX8_isFrom := goodIn_r _ [22] (by decide +kernel) (by decide +kernel)
set_option maxRecDepth 20000 in
theorem gX3_isTold_X8_isFrom_n36 : GoodIn wsX3_isTold (wsX8_isFrom) := ggX3_isTold_X8_isFrom
set_option maxRecDepth 20000 in
theorem ggX3_isTold_X1_followListening : GoodIn wsX3_isTold wsX1_followListening := goodIn_r _ [27, 28, 29, 30, 31, 4, 32, 6, 33, 34, 35, 26, 36, 37, 38, 39, 40, 41, 42, 16, 17, 18, 19, 43, 44, 45, 46, 47, 48, 49, 50, 51, 52, 53, 54, 55, 56, 57, 58, 71, 72, 66, 67, 68, 69, 70] (by decide +kernel) (by decide +kernel)
set_option maxRecDepth 20000 in
theorem gX3_isTold_X1_followListening : GoodIn wsX3_isTold (wsV RX3 40 RX1 yX1_followListening wsX1_followListening) := goodIn_app (goodIn_of _ (by decide +kernel)) ggX3_isTold_X1_followListening
set_option maxRecDepth 20000 in
theorem ggX3_isTold_X2_size : GoodIn wsX3_isTold wsX2_size := goodIn_r _ [32, 6, 66, 67, 68, 69, 70] (by decide +kernel) (by decide +kernel)
set_option maxRecDepth 20000 in
theorem gX3_isTold_X2_size : GoodIn wsX3_isTold (wsV RX3 46 RX2 yX2_size wsX2_size) := goodIn_app (goodIn_of _ (by decide +kernel)) ggX3_isTold_X2_size
set_option maxRecDepth 20000 in
theorem ggX3_isTold_X2_isStubborn : GoodIn wsX3_isTold wsX2_isStubborn := goodIn_r _ [14, 15, 16, 17, 18, 4, 19, 6, 66, 67, 68, 69, 70] (by decide +kernel) (by decide +kernel)
set_option maxRecDepth 20000 in
theorem gX3_isTold_X2_isStubborn : GoodIn wsX3_isTold (wsV RX3 49 RX2 yX2_isStubborn wsX2_isStubborn) := goodIn_app (goodIn_of _ (by decide +kernel)) ggX3_isTold_X2_isStubborn
set_option maxRecDepth 20000 in
theorem ggX3_isTold_X3_isLedByStubborn : GoodIn wsX3_isTold wsX3_isLedByStubborn := goodIn_r _ [64, 59, 30, 31, 4, 32, 6, 60, 12, 13, 14, 15, 16, 17, 18, 19, 65, 56, 57, 26, 58, 37, 47, 48, 49, 50, 28, 66, 67, 68, 69, 70, 71, 72] (by decide +kernel) (by decide +kernel)
set_option maxRecDepth 20000 in
theorem gX3_isTold_X3_isLedByStubborn : GoodIn wsX3_isTold (va_wsS RX3 53 yX3_isLedByStubborn wsX3_isLedByStubborn) := goodIn_app (goodIn_of _ (by decide +kernel)) ggX3_isTold_X3_isLedByStubborn
set_option maxRecDepth 20000 in
theorem ggX3_work_X3_numberMoving : GoodIn wsX3_work wsX3_numberMoving := goodIn_r _ [9, 4, 1, 10, 11, 12, 13, 14, 15, 16, 17, 18, 19, 20, 21, 22, 23, 24, 25, 26, 27, 28, 29, 30, 31, 32, 33, 34, 35, 36, 37, 38, 39, 90, 91, 92, 93, 94, 95, 96, 97, 98, 99, 100, 101, 102] (by decide +kernel) (by decide +kernel)
set_option maxRecDepth 20000 in
theorem gX3_work_X3_numberMoving : GoodIn wsX3_work (wsV RX3 57 RX3 yX3_numberMoving wsX3_numberMoving) := goodIn_app (goodIn_of _ (by decide +kernel)) ggX3_work_X3_numberMoving
set_option maxRecDepth 20000 in
theorem ggX3_work_X3_fillSquare : GoodIn wsX3_work wsX3_fillSquare := goodIn_r _ [43, 4, 10, 11, 12, 13, 14, 15, 16, 17, 18, 19, 20, 21, 22, 23, 24, 44, 45, 46, 8, 47, 1, 48, 49, 50, 51, 52, 53, 54, 55, 28, 56, 39, 57, 58, 59, 60, 37, 61, 62, 63, 64, 65, 66, 67, 68, 69, 38, 90, 91, 92, 93, 94, 95, 96, 97, 98, 99, 100, 101, 102] (by decide +kernel) (by decide +kernel)
set_option maxRecDepth 20000 in
theorem gX3_work_X3_fillSquare : GoodIn wsX3_work (wsV RX3 60 RX3 yX3_fillSquare wsX3_fillSquare) := goodIn_app (goodIn_of _ (by decide +kernel)) ggX3_work_X3_fillSquare
set_option maxRecDepth 20000 in
theorem ggX3_work_X6_determinant : GoodIn wsX3_work wsX6_determinant := goodIn_r _ [73, 37, 74, 75, 76, 77, 28, 78, 79, 80, 81, 82, 83, 84, 85, 86, 87, 88, 89, 38, 39, 57, 58, 59, 60, 99, 100, 101, 102] (by decide +kernel) (by decide +kernel)
set_option maxRecDepth 20000 in
theorem gX3_work_X6_determinant : GoodIn wsX3_work (wsV RX3 63 RX6 yX6_determinant wsX6_determinant) := goodIn_app (goodIn_of _ (by decide +kernel)) ggX3_work_X6_determinant
set_option maxRecDepth 20000 in
theorem ggX3_work_X2_size : GoodIn wsX3_work wsX2_size := goodIn_r _ [14, 15, 94, 95, 96, 97, 98] (by decide +kernel) (by decide +kernel)
set_option maxRecDepth 20000 in
theorem gX3_work_X2_size : GoodIn wsX3_work (wsV RX3 46 RX2 yX2_size wsX2_size) := goodIn_app (goodIn_of _ (by decide +kernel)) ggX3_work_X2_size
set_option maxRecDepth 20000 in
theorem ggX3_work_X2_isStubborn : GoodIn wsX3_work wsX2_isStubborn := goodIn_r _ [19, 20, 21, 22, 23, 13, 24, 15, 94, 95, 96, 97, 98] (by decide +kernel) (by decide +kernel)
set_option maxRecDepth 20000 in
theorem gX3_work_X2_isStubborn : GoodIn wsX3_work (wsV RX3 49 RX2 yX2_isStubborn wsX2_isStubborn) := goodIn_app (goodIn_of _ (by decide +kernel)) ggX3_work_X2_isStubborn
set_option maxRecDepth 20000 in
theorem ggX3_work_X2_thoughtOf : GoodIn wsX3_work wsX2_thoughtOf := goodIn_r _ [64, 65, 21, 22, 23, 13, 24, 15, 94, 95, 96, 97, 98] (by decide +kernel) (by decide +kernel)
set_option maxRecDepth 20000 in
theorem gX3_work_X2_thoughtOf : GoodIn wsX3_work (wsV RX3 67 RX2 yX2_thoughtOf wsX2_thoughtOf) := goodIn_app (goodIn_of _ (by decide +kernel)) ggX3_work_X2_thoughtOf
set_option maxRecDepth 20000 in
theorem ggX3_sumOfUppers_X2_size : GoodIn wsX3_sumOfUppers wsX2_size := goodIn_r _ [5, 6, 13, 14, 15, 16, 17] (by decide +kernel) (by decide +kernel)
set_option maxRecDepth 20000 in
theorem gX3_sumOfUppers_X2_size : GoodIn wsX3_sumOfUppers (wsV RX3 46 RX2 yX2_size wsX2_size) := goodIn_app (goodIn_of _ (by decide +kernel)) ggX3_sumOfUppers_X2_size
set_option maxRecDepth 20000 in
theorem ggX3_sumOfUppers_X3_upperOf : GoodIn wsX3_sumOfUppers wsX3_upperOf := goodIn_r _ [11, 12, 18, 19, 20, 21] (by decide +kernel) (by decide +kernel)
set_option maxRecDepth 20000 in
theorem gX3_sumOfUppers_X3_upperOf : GoodIn wsX3_sumOfUppers (wsV RX3 71 RX3 yX3_upperOf wsX3_upperOf) := goodIn_app (goodIn_of _ (by decide +kernel)) ggX3_sumOfUppers_X3_upperOf
set_option maxRecDepth 20000 in
theorem ggX3_isLedByStubborn_X2_size : GoodIn wsX3_isLedByStubborn wsX2_size := goodIn_r _ [5, 6, 27, 28, 29, 30, 31] (by decide +kernel) (by decide +kernel)
set_option maxRecDepth 20000 in
theorem gX3_isLedByStubborn_X2_size : GoodIn wsX3_isLedByStubborn (wsV RX3 46 RX2 yX2_size wsX2_size) := goodIn_app (goodIn_of _ (by decide +kernel)) ggX3_isLedByStubborn_X2_size
set_option maxRecDepth 20000 in
theorem ggX3_isLedByStubborn_X2_isStubborn : GoodIn wsX3_isLedByStubborn wsX2_isStubborn := goodIn_r _ [10, 11, 12, 13, 14, 4, 15, 6, 27, 28, 29, 30, 31] (by decide +kernel) (by decide +kernel)
set_option maxRecDepth 20000 in
theorem gX3_isLedByStubborn_X2_isStubborn : GoodIn wsX3_isLedByStubborn (wsV RX3 49 RX2 yX2_isStubborn wsX2_isStubborn) := goodIn_app (goodIn_of _ (by decide +kernel)) ggX3_isLedByStubborn_X2_isStubborn
set_option maxRecDepth 20000 in
theorem ggX3_isLedByStubborn_X1_isTied : GoodIn wsX3_isLedByStubborn wsX1_isTied := goodIn_r _ [20, 21, 22, 23, 24, 19, 25, 26, 32, 33] (by decide +kernel) (by decide +kernel)
set_option maxRecDepth 20000 in
theorem gX3_isLedByStubborn_X1_isTied : GoodIn wsX3_isLedByStubborn (wsV RX3 74 RX1 yX1_isTied wsX1_isTied) := goodIn_app (goodIn_of _ (by decide +kernel)) ggX3_isLedByStubborn_X1_isTied
set_option maxRecDepth 20000 in
theorem ggX3_numberMoving_X2_size : GoodIn wsX3_numberMoving wsX2_size := goodIn_r _ [7, 8, 37, 38, 39, 40, 41] (by decide +kernel) (by decide +kernel)
set_option maxRecDepth 20000 in
theorem gX3_numberMoving_X2_size : GoodIn wsX3_numberMoving (wsV RX3 46 RX2 yX2_size wsX2_size) := goodIn_app (goodIn_of _ (by decide +kernel)) ggX3_numberMoving_X2_size
set_option maxRecDepth 20000 in
theorem ggX3_numberMoving_X2_isStubborn : GoodIn wsX3_numberMoving wsX2_isStubborn := goodIn_r _ [12, 13, 14, 15, 16, 6, 17, 8, 37, 38, 39, 40, 41] (by decide +kernel) (by decide +kernel)
set_option maxRecDepth 20000 in
theorem gX3_numberMoving_X2_isStubborn : GoodIn wsX3_numberMoving (wsV RX3 49 RX2 yX2_isStubborn wsX2_isStubborn) := goodIn_app (goodIn_of _ (by decide +kernel)) ggX3_numberMoving_X2_isStubborn
set_option maxRecDepth 20000 in
theorem ggX3_numberMoving_X6_begin : GoodIn wsX3_numberMoving wsX6_begin := goodIn_r _ [22, 23, 24, 25, 26, 27, 28, 29, 30, 31, 32, 42, 43, 44, 45] (by decide +kernel) (by decide +kernel)
set_option maxRecDepth 20000 in
theorem gX3_numberMoving_X6_begin : GoodIn wsX3_numberMoving (wsV RX3 78 RX6 yX6_begin wsX6_begin) := goodIn_app (goodIn_of _ (by decide +kernel)) ggX3_numberMoving_X6_begin
set_option maxRecDepth 20000 in
theorem ggX3_fillSquare_X2_size : GoodIn wsX3_fillSquare wsX2_size := goodIn_r _ [6, 7, 53, 54, 55, 56, 57] (by decide +kernel) (by decide +kernel)
set_option maxRecDepth 20000 in
theorem gX3_fillSquare_X2_size : GoodIn wsX3_fillSquare (wsV RX3 46 RX2 yX2_size wsX2_size) := goodIn_app (goodIn_of _ (by decide +kernel)) ggX3_fillSquare_X2_size
set_option maxRecDepth 20000 in
theorem ggX3_fillSquare_X2_isStubborn : GoodIn wsX3_fillSquare wsX2_isStubborn := goodIn_r _ [11, 12, 13, 14, 15, 5, 16, 7, 53, 54, 55, 56, 57] (by decide +kernel) (by decide +kernel)
set_option maxRecDepth 20000 in
theorem gX3_fillSquare_X2_isStubborn : GoodIn wsX3_fillSquare (wsV RX3 49 RX2 yX2_isStubborn wsX2_isStubborn) := goodIn_app (goodIn_of _ (by decide +kernel)) ggX3_fillSquare_X2_isStubborn
set_option maxRecDepth 20000 in
theorem ggX3_fillSquare_X3_fillRow : GoodIn wsX3_fillSquare wsX3_fillRow := goodIn_r _ [21, 1, 22, 2, 3, 4, 5, 6, 7, 23, 24, 25, 26, 27, 13, 14, 15, 16, 28, 29, 30, 31, 32, 33, 34, 35, 36, 37, 38, 8, 9, 10, 11, 12, 39, 40, 41, 42, 43, 44, 45, 46, 47, 48, 49, 50, 51, 52, 53, 54, 55, 56, 57, 58, 59, 60, 61] (by decide +kernel) (by decide +kernel)
set_option maxRecDepth 20000 in
theorem gX3_fillSquare_X3_fillRow : GoodIn wsX3_fillSquare (wsV RX3 82 RX3 yX3_fillRow wsX3_fillRow) := goodIn_app (goodIn_of _ (by decide +kernel)) ggX3_fillSquare_X3_fillRow
set_option maxRecDepth 20000 in
theorem ggX3_fillRow_X2_size : GoodIn wsX3_fillRow wsX2_size := goodIn_r _ [7, 8, 48, 49, 50, 51, 52] (by decide +kernel) (by decide +kernel)
set_option maxRecDepth 20000 in
theorem gX3_fillRow_X2_size : GoodIn wsX3_fillRow (wsV RX3 46 RX2 yX2_size wsX2_size) := goodIn_app (goodIn_of _ (by decide +kernel)) ggX3_fillRow_X2_size
set_option maxRecDepth 20000 in
theorem ggX3_fillRow_X2_weightOf : GoodIn wsX3_fillRow wsX2_weightOf := goodIn_r _ [12, 13, 14, 15, 16, 6, 17, 8, 48, 49, 50, 51, 52] (by decide +kernel) (by decide +kernel)
set_option maxRecDepth 20000 in
theorem gX3_fillRow_X2_weightOf : GoodIn wsX3_fillRow (wsV RX3 86 RX2 yX2_weightOf wsX2_weightOf) := goodIn_app (goodIn_of _ (by decide +kernel)) ggX3_fillRow_X2_weightOf
set_option maxRecDepth 20000 in
theorem ggX3_fillRow_X6_add : GoodIn wsX3_fillRow wsX6_add := goodIn_r _ [22, 23, 24, 25, 26, 21, 27, 28, 53, 54, 55, 56] (by decide +kernel) (by decide +kernel)
set_option maxRecDepth 20000 in
theorem gX3_fillRow_X6_add : GoodIn wsX3_fillRow (wsV RX3 90 RX6 yX6_add wsX6_add) := goodIn_app (goodIn_of _ (by decide +kernel)) ggX3_fillRow_X6_add
set_option maxRecDepth 20000 in
theorem ggX3_fillRow_X2_isStubborn : GoodIn wsX3_fillRow wsX2_isStubborn := goodIn_r _ [32, 33, 14, 15, 16, 6, 17, 8, 48, 49, 50, 51, 52] (by decide +kernel) (by decide +kernel)
set_option maxRecDepth 20000 in
theorem gX3_fillRow_X2_isStubborn : GoodIn wsX3_fillRow (wsV RX3 49 RX2 yX2_isStubborn wsX2_isStubborn) := goodIn_app (goodIn_of _ (by decide +kernel)) ggX3_fillRow_X2_isStubborn
set_option maxRecDepth 20000 in
theorem ggX3_fillRow_X2_thoughtOf : GoodIn wsX3_fillRow wsX2_thoughtOf := goodIn_r _ [37, 38, 14, 15, 16, 6, 17, 8, 48, 49, 50, 51, 52] (by decide +kernel) (by decide +kernel)
set_option maxRecDepth 20000 in
theorem gX3_fillRow_X2_thoughtOf : GoodIn wsX3_fillRow (wsV RX3 67 RX2 yX2_thoughtOf wsX2_thoughtOf) := goodIn_app (goodIn_of _ (by decide +kernel)) ggX3_fillRow_X2_thoughtOf
set_option maxRecDepth 20000 in
theorem ggX3_fillRow_X6_addBeside : GoodIn wsX3_fillRow wsX6_addBeside := goodIn_r _ [42, 43, 24, 25, 26, 21, 27, 28, 53, 54, 55, 56] (by decide +kernel) (by decide +kernel)
set_option maxRecDepth 20000 in
theorem gX3_fillRow_X6_addBeside : GoodIn wsX3_fillRow (wsV RX3 94 RX6 yX6_addBeside wsX6_addBeside) := goodIn_app (goodIn_of _ (by decide +kernel)) ggX3_fillRow_X6_addBeside
set_option maxRecDepth 20000 in
theorem ggX4_runMany_X4_runOne : GoodIn wsX4_runMany wsX4_runOne := goodIn_r _ [5, 6, 7, 8, 9, 10, 11, 12, 13, 14, 15, 16, 17, 18, 19, 20, 21, 22, 23, 24, 25, 26, 27, 28, 29, 30, 31, 32, 33, 34, 35, 36, 37, 38, 39, 40, 41, 42, 43, 44, 45, 46, 47, 48] (by decide +kernel) (by decide +kernel)
set_option maxRecDepth 20000 in
theorem gX4_runMany_X4_runOne : GoodIn wsX4_runMany (wsV RX4 18 RX4 yX4_runOne wsX4_runOne) := goodIn_app (goodIn_of _ (by decide +kernel)) ggX4_runMany_X4_runOne
set_option maxRecDepth 20000 in
theorem ggX4_runTillStill_X4_runOne : GoodIn wsX4_runTillStill wsX4_runOne := goodIn_r _ [5, 6, 7, 8, 9, 10, 11, 12, 13, 14, 15, 16, 17, 18, 19, 20, 21, 22, 23, 24, 25, 26, 27, 28, 29, 30, 31, 32, 33, 34, 35, 36, 37, 38, 39, 40, 41, 42, 43, 44, 45, 46, 47, 48] (by decide +kernel) (by decide +kernel)
set_option maxRecDepth 20000 in
theorem gX4_runTillStill_X4_runOne : GoodIn wsX4_runTillStill (wsV RX4 18 RX4 yX4_runOne wsX4_runOne) := goodIn_app (goodIn_of _ (by decide +kernel)) ggX4_runTillStill_X4_runOne
set_option maxRecDepth 20000 in
theorem ggX4_runOne_X2_size : GoodIn wsX4_runOne wsX2_size := goodIn_r _ [6, 7, 39, 40, 41, 42, 43] (by decide +kernel) (by decide +kernel)
set_option maxRecDepth 20000 in
theorem gX4_runOne_X2_size : GoodIn wsX4_runOne (wsV RX4 22 RX2 yX2_size wsX2_size) := goodIn_app (goodIn_of _ (by decide +kernel)) ggX4_runOne_X2_size
set_option maxRecDepth 20000 in
theorem ggX4_runOne_X2_thoughtAfterRound : GoodIn wsX4_runOne wsX2_thoughtAfterRound := goodIn_r _ [11, 12, 7, 13, 14, 15, 16, 17, 5, 18, 19, 20, 21, 22, 23, 24, 25, 26, 27, 28, 29, 30, 31, 39, 40, 41, 42, 43] (by decide +kernel) (by decide +kernel)
set_option maxRecDepth 20000 in
theorem gX4_runOne_X2_thoughtAfterRound : GoodIn wsX4_runOne (wsV RX4 28 RX2 yX2_thoughtAfterRound wsX2_thoughtAfterRound) := goodIn_app (goodIn_of _ (by decide +kernel)) ggX4_runOne_X2_thoughtAfterRound
set_option maxRecDepth 20000 in
theorem ggX4_runOne_X2_thoughtOf : GoodIn wsX4_runOne wsX2_thoughtOf := goodIn_r _ [22, 14, 15, 16, 17, 5, 18, 7, 39, 40, 41, 42, 43] (by decide +kernel) (by decide +kernel)
set_option maxRecDepth 20000 in
theorem gX4_runOne_X2_thoughtOf : GoodIn wsX4_runOne (wsV RX4 32 RX2 yX2_thoughtOf wsX2_thoughtOf) := goodIn_app (goodIn_of _ (by decide +kernel)) ggX4_runOne_X2_thoughtOf
set_option maxRecDepth 20000 in
theorem ggX4_runOne_X2_rethink : GoodIn wsX4_runOne wsX2_rethink := goodIn_r _ [36, 14, 15, 16, 17, 5, 18, 7, 39, 40, 41, 42, 43] (by decide +kernel) (by decide +kernel)
set_option maxRecDepth 20000 in
theorem gX4_runOne_X2_rethink : GoodIn wsX4_runOne (wsV RX4 35 RX2 yX2_rethink wsX2_rethink) := goodIn_app (goodIn_of _ (by decide +kernel)) ggX4_runOne_X2_rethink
set_option maxRecDepth 20000 in
theorem ggX4_remember_X2_size : GoodIn wsX4_remember wsX2_size := goodIn_r _ [6, 7, 19, 20, 21, 22, 23] (by decide +kernel) (by decide +kernel)
set_option maxRecDepth 20000 in
theorem gX4_remember_X2_size : GoodIn wsX4_remember (wsV RX4 22 RX2 yX2_size wsX2_size) := goodIn_app (goodIn_of _ (by decide +kernel)) ggX4_remember_X2_size
set_option maxRecDepth 20000 in
theorem ggX4_remember_X2_thoughtOf : GoodIn wsX4_remember wsX2_thoughtOf := goodIn_r _ [11, 12, 13, 14, 15, 5, 16, 7, 19, 20, 21, 22, 23] (by decide +kernel) (by decide +kernel)
set_option maxRecDepth 20000 in
theorem gX4_remember_X2_thoughtOf : GoodIn wsX4_remember (wsV RX4 32 RX2 yX2_thoughtOf wsX2_thoughtOf) := goodIn_app (goodIn_of _ (by decide +kernel)) ggX4_remember_X2_thoughtOf
set_option maxRecDepth 20000 in
theorem ggX4_putBack_X2_size : GoodIn wsX4_putBack wsX2_size := goodIn_r _ [6, 7, 19, 20, 21, 22, 23] (by decide +kernel) (by decide +kernel)
set_option maxRecDepth 20000 in
theorem gX4_putBack_X2_size : GoodIn wsX4_putBack (wsV RX4 22 RX2 yX2_size wsX2_size) := goodIn_app (goodIn_of _ (by decide +kernel)) ggX4_putBack_X2_size
set_option maxRecDepth 20000 in
theorem ggX4_putBack_X2_rethink : GoodIn wsX4_putBack wsX2_rethink := goodIn_r _ [11, 12, 13, 14, 15, 5, 16, 7, 19, 20, 21, 22, 23] (by decide +kernel) (by decide +kernel)
set_option maxRecDepth 20000 in
theorem gX4_putBack_X2_rethink : GoodIn wsX4_putBack (wsV RX4 35 RX2 yX2_rethink wsX2_rethink) := goodIn_app (goodIn_of _ (by decide +kernel)) ggX4_putBack_X2_rethink
set_option maxRecDepth 20000 in
theorem ggX5_init_X6_init : GoodIn wsX5_init wsX6_init := goodIn_r _ [12, 13, 2, 3, 14, 8, 15, 16, 17, 18, 19, 20, 21, 22] (by decide +kernel) (by decide +kernel)
set_option maxRecDepth 20000 in
theorem gX5_init_X6_init_n11 : GoodIn wsX5_init (wsX6_init) := ggX5_init_X6_init
set_option maxRecDepth 20000 in
theorem ggX5_areThere_X2_size : GoodIn wsX5_areThere wsX2_size := goodIn_r _ [5, 6, 48, 49, 50, 51, 52] (by decide +kernel) (by decide +kernel)
set_option maxRecDepth 20000 in
theorem gX5_areThere_X2_size : GoodIn wsX5_areThere (wsV RX5 26 RX2 yX2_size wsX2_size) := goodIn_app (goodIn_of _ (by decide +kernel)) ggX5_areThere_X2_size
set_option maxRecDepth 20000 in
theorem ggX5_areThere_X8_isFrom : GoodIn wsX5_areThere wsX8_isFrom := goodIn_r _ [9] (by decide +kernel) (by decide +kernel)
set_option maxRecDepth 20000 in
theorem gX5_areThere_X8_isFrom_n32 : GoodIn wsX5_areThere (wsX8_isFrom) := ggX5_areThere_X8_isFrom
set_option maxRecDepth 20000 in
theorem ggX5_areThere_X1_followListening : GoodIn wsX5_areThere wsX1_followListening := goodIn_r _ [14, 15, 16, 2, 3, 4, 5, 6, 17, 18, 19, 13, 20, 21, 22, 23, 24, 25, 26, 27, 28, 29, 30, 31, 32, 33, 34, 35, 36, 37, 38, 39, 40, 41, 42, 43, 44, 45, 46, 53, 54, 48, 49, 50, 51, 52] (by decide +kernel) (by decide +kernel)
set_option maxRecDepth 20000 in
theorem gX5_areThere_X1_followListening : GoodIn wsX5_areThere (wsV RX5 36 RX1 yX1_followListening wsX1_followListening) := goodIn_app (goodIn_of _ (by decide +kernel)) ggX5_areThere_X1_followListening
set_option maxRecDepth 20000 in
theorem ggX5_areThere_X1_isTied : GoodIn wsX5_areThere wsX1_isTied := goodIn_r _ [46, 21, 35, 36, 37, 13, 38, 15, 53, 54] (by decide +kernel) (by decide +kernel)
set_option maxRecDepth 20000 in
theorem gX5_areThere_X1_isTied : GoodIn wsX5_areThere (wsV RX5 42 RX1 yX1_isTied wsX1_isTied) := goodIn_app (goodIn_of _ (by decide +kernel)) ggX5_areThere_X1_isTied
set_option maxRecDepth 20000 in
theorem ggX5_work_X5_fillSquare : GoodIn wsX5_work wsX5_fillSquare := goodIn_r _ [8, 3, 9, 10, 11, 12, 13, 14, 15, 16, 17, 18, 19, 20, 21, 22, 23, 24, 25, 26, 27, 28, 29, 30, 31, 32, 33, 34, 35, 36, 37, 38, 39, 40, 41, 42, 43, 44, 45, 46, 74, 75, 76, 77, 78, 79, 80, 81, 82, 83, 84, 85] (by decide +kernel) (by decide +kernel)
set_option maxRecDepth 20000 in
theorem gX5_work_X5_fillSquare : GoodIn wsX5_work (wsV RX5 46 RX5 yX5_fillSquare wsX5_fillSquare) := goodIn_app (goodIn_of _ (by decide +kernel)) ggX5_work_X5_fillSquare
set_option maxRecDepth 20000 in
theorem ggX5_work_X2_size : GoodIn wsX5_work wsX2_size := goodIn_r _ [13, 14, 77, 78, 79, 80, 81] (by decide +kernel) (by decide +kernel)
set_option maxRecDepth 20000 in
theorem gX5_work_X2_size : GoodIn wsX5_work (wsV RX5 26 RX2 yX2_size wsX2_size) := goodIn_app (goodIn_of _ (by decide +kernel)) ggX5_work_X2_size
set_option maxRecDepth 20000 in
theorem ggX5_work_X6_determinantWithout : GoodIn wsX5_work wsX6_determinantWithout := goodIn_r _ [50, 27, 28, 51, 52, 53, 18, 54, 55, 56, 57, 58, 59, 60, 61, 62, 63, 64, 65, 66, 67, 68, 69, 70, 29, 43, 44, 45, 46, 82, 83, 84, 85] (by decide +kernel) (by decide +kernel)
set_option maxRecDepth 20000 in
theorem gX5_work_X6_determinantWithout : GoodIn wsX5_work (wsV RX5 49 RX6 yX6_determinantWithout wsX6_determinantWithout) := goodIn_app (goodIn_of _ (by decide +kernel)) ggX5_work_X6_determinantWithout
set_option maxRecDepth 20000 in
theorem ggX5_work_X5_weightsTogether : GoodIn wsX5_work wsX5_weightsTogether := goodIn_r _ [73, 9, 10, 11, 12, 13, 14, 30, 31, 32, 33, 34, 35, 36, 37, 38, 77, 78, 79, 80, 81] (by decide +kernel) (by decide +kernel)
set_option maxRecDepth 20000 in
theorem gX5_work_X5_weightsTogether : GoodIn wsX5_work (va_wsS RX5 53 yX5_weightsTogether wsX5_weightsTogether) := goodIn_app (goodIn_of _ (by decide +kernel)) ggX5_work_X5_weightsTogether
set_option maxRecDepth 20000 in
theorem ggX5_sumWithThoughts_X2_size : GoodIn wsX5_sumWithThoughts wsX2_size := goodIn_r _ [5, 6, 22, 23, 24, 25, 26] (by decide +kernel) (by decide +kernel)
set_option maxRecDepth 20000 in
theorem gX5_sumWithThoughts_X2_size : GoodIn wsX5_sumWithThoughts (wsV RX5 26 RX2 yX2_size wsX2_size) := goodIn_app (goodIn_of _ (by decide +kernel)) ggX5_sumWithThoughts_X2_size
set_option maxRecDepth 20000 in
theorem ggX5_sumWithThoughts_X5_partFor : GoodIn wsX5_sumWithThoughts wsX5_partFor := goodIn_r _ [11, 12, 27, 28, 29] (by decide +kernel) (by decide +kernel)
set_option maxRecDepth 20000 in
theorem gX5_sumWithThoughts_X5_partFor : GoodIn wsX5_sumWithThoughts (wsV RX5 57 RX5 yX5_partFor wsX5_partFor) := goodIn_app (goodIn_of _ (by decide +kernel)) ggX5_sumWithThoughts_X5_partFor
set_option maxRecDepth 20000 in
theorem ggX5_sumWithThoughts_X2_thoughtOf : GoodIn wsX5_sumWithThoughts wsX2_thoughtOf := goodIn_r _ [16, 17, 18, 19, 20, 4, 21, 6, 22, 23, 24, 25, 26] (by decide +kernel) (by decide +kernel)
set_option maxRecDepth 20000 in
theorem gX5_sumWithThoughts_X2_thoughtOf : GoodIn wsX5_sumWithThoughts (wsV RX5 60 RX2 yX2_thoughtOf wsX2_thoughtOf) := goodIn_app (goodIn_of _ (by decide +kernel)) ggX5_sumWithThoughts_X2_thoughtOf
set_option maxRecDepth 20000 in
theorem ggX5_fillSquare_X2_size : GoodIn wsX5_fillSquare wsX2_size := goodIn_r _ [6, 7, 43, 44, 45, 46, 47] (by decide +kernel) (by decide +kernel)
set_option maxRecDepth 20000 in
theorem gX5_fillSquare_X2_size : GoodIn wsX5_fillSquare (wsV RX5 26 RX2 yX2_size wsX2_size) := goodIn_app (goodIn_of _ (by decide +kernel)) ggX5_fillSquare_X2_size
set_option maxRecDepth 20000 in
theorem ggX5_fillSquare_X6_begin : GoodIn wsX5_fillSquare wsX6_begin := goodIn_r _ [12, 13, 14, 15, 16, 17, 18, 19, 20, 21, 22, 48, 49, 50, 51] (by decide +kernel) (by decide +kernel)
set_option maxRecDepth 20000 in
theorem gX5_fillSquare_X6_begin : GoodIn wsX5_fillSquare (wsV RX5 64 RX6 yX6_begin wsX6_begin) := goodIn_app (goodIn_of _ (by decide +kernel)) ggX5_fillSquare_X6_begin
set_option maxRecDepth 20000 in
theorem ggX5_fillSquare_X2_weightOf : GoodIn wsX5_fillSquare wsX2_weightOf := goodIn_r _ [26, 27, 28, 29, 30, 5, 31, 7, 43, 44, 45, 46, 47] (by decide +kernel) (by decide +kernel)
set_option maxRecDepth 20000 in
theorem gX5_fillSquare_X2_weightOf : GoodIn wsX5_fillSquare (wsV RX5 68 RX2 yX2_weightOf wsX2_weightOf) := goodIn_app (goodIn_of _ (by decide +kernel)) ggX5_fillSquare_X2_weightOf
set_option maxRecDepth 20000 in
theorem ggX5_fillSquare_X6_add : GoodIn wsX5_fillSquare wsX6_add := goodIn_r _ [35, 22, 36, 37, 38, 11, 39, 20, 48, 49, 50, 51] (by decide +kernel) (by decide +kernel)
set_option maxRecDepth 20000 in
theorem gX5_fillSquare_X6_add : GoodIn wsX5_fillSquare (wsV RX5 72 RX6 yX6_add wsX6_add) := goodIn_app (goodIn_of _ (by decide +kernel)) ggX5_fillSquare_X6_add
set_option maxRecDepth 20000 in
theorem ggX5_weightsTogether_X2_size : GoodIn wsX5_weightsTogether wsX2_size := goodIn_r _ [5, 6, 16, 17, 18, 19, 20] (by decide +kernel) (by decide +kernel)
set_option maxRecDepth 20000 in
theorem gX5_weightsTogether_X2_size : GoodIn wsX5_weightsTogether (wsV RX5 26 RX2 yX2_size wsX2_size) := goodIn_app (goodIn_of _ (by decide +kernel)) ggX5_weightsTogether_X2_size
set_option maxRecDepth 20000 in
theorem ggX5_weightsTogether_X2_weightOf : GoodIn wsX5_weightsTogether wsX2_weightOf := goodIn_r _ [10, 11, 12, 13, 14, 4, 15, 6, 16, 17, 18, 19, 20] (by decide +kernel) (by decide +kernel)
set_option maxRecDepth 20000 in
theorem gX5_weightsTogether_X2_weightOf : GoodIn wsX5_weightsTogether (wsV RX5 68 RX2 yX2_weightOf wsX2_weightOf) := goodIn_app (goodIn_of _ (by decide +kernel)) ggX5_weightsTogether_X2_weightOf
set_option maxRecDepth 20000 in
theorem ggX6_add_X6_isPlace : GoodIn wsX6_add wsX6_isPlace := goodIn_r _ [6, 7, 8, 9, 10, 11] (by decide +kernel) (by decide +kernel)
set_option maxRecDepth 20000 in
theorem gX6_add_X6_isPlace : GoodIn wsX6_add (wsV RX6 36 RX6 yX6_isPlace wsX6_isPlace) := goodIn_app (goodIn_of _ (by decide +kernel)) ggX6_add_X6_isPlace
set_option maxRecDepth 20000 in
theorem ggX6_addBeside_X6_isPlace : GoodIn wsX6_addBeside wsX6_isPlace := goodIn_r _ [6, 7, 8, 9, 10, 11] (by decide +kernel) (by decide +kernel)
set_option maxRecDepth 20000 in
theorem gX6_addBeside_X6_isPlace : GoodIn wsX6_addBeside (wsV RX6 36 RX6 yX6_isPlace wsX6_isPlace) := goodIn_app (goodIn_of _ (by decide +kernel)) ggX6_addBeside_X6_isPlace
set_option maxRecDepth 20000 in
theorem ggX6_determinant_X6_minorOf : GoodIn wsX6_determinant wsX6_minorOf := goodIn_r _ [7, 1, 2, 8, 9, 10, 11, 12, 13, 14, 15, 16, 17, 6, 18, 19, 20, 21, 22, 23, 24, 25, 26, 27, 28] (by decide +kernel) (by decide +kernel)
set_option maxRecDepth 20000 in
theorem gX6_determinant_X6_minorOf : GoodIn wsX6_determinant (wsV RX6 40 RX6 yX6_minorOf wsX6_minorOf) := goodIn_app (goodIn_of _ (by decide +kernel)) ggX6_determinant_X6_minorOf
set_option maxRecDepth 20000 in
theorem ggX6_determinantWithout_X6_determinant : GoodIn wsX6_determinantWithout wsX6_determinant := goodIn_r _ [7, 1, 8, 9, 10, 11, 6, 12, 13, 14, 15, 16, 17, 18, 19, 20, 21, 22, 23, 2, 24, 25, 26, 27, 28, 29, 30, 31, 32] (by decide +kernel) (by decide +kernel)
set_option maxRecDepth 20000 in
theorem gX6_determinantWithout_X6_determinant : GoodIn wsX6_determinantWithout (wsV RX6 44 RX6 yX6_determinant wsX6_determinant) := goodIn_app (goodIn_of _ (by decide +kernel)) ggX6_determinantWithout_X6_determinant
set_option maxRecDepth 20000 in
theorem ggX6_minorOf_J6_bitCount_0f7a4 : GoodIn wsX6_minorOf wsJ6_bitCount_0f7a4 := goodIn_r _ [6, 7, 8, 9] (by decide +kernel) (by decide +kernel)
set_option maxRecDepth 20000 in
theorem gX6_minorOf_J6_bitCount_0f7a4 : GoodIn wsX6_minorOf (va_wsS RX6 48 yJ6_bitCount_0f7a4 wsJ6_bitCount_0f7a4) := goodIn_app (goodIn_of _ (by decide +kernel)) ggX6_minorOf_J6_bitCount_0f7a4
set_option maxRecDepth 20000 in
theorem ggX6_minorOf_X6_cellOf : GoodIn wsX6_minorOf wsX6_cellOf := goodIn_r _ [14, 15, 16, 17, 18, 19, 13, 20, 1, 21, 22, 23, 24] (by decide +kernel) (by decide +kernel)
set_option maxRecDepth 20000 in
theorem gX6_minorOf_X6_cellOf : GoodIn wsX6_minorOf (wsV RX6 54 RX6 yX6_cellOf wsX6_cellOf) := goodIn_app (goodIn_of _ (by decide +kernel)) ggX6_minorOf_X6_cellOf
set_option maxRecDepth 20000 in
theorem ggX6_cellOf_X6_isPlace : GoodIn wsX6_cellOf wsX6_isPlace := goodIn_r _ [7, 8, 9, 10, 11, 12] (by decide +kernel) (by decide +kernel)
set_option maxRecDepth 20000 in
theorem gX6_cellOf_X6_isPlace : GoodIn wsX6_cellOf (wsV RX6 36 RX6 yX6_isPlace wsX6_isPlace) := goodIn_app (goodIn_of _ (by decide +kernel)) ggX6_cellOf_X6_isPlace
set_option maxRecDepth 20000 in
theorem ggX7_lookFor_X7_begin : GoodIn wsX7_lookFor wsX7_begin := goodIn_r _ [9, 10, 1, 2, 11, 75, 76, 77, 78, 79, 80] (by decide +kernel) (by decide +kernel)
set_option maxRecDepth 20000 in
theorem gX7_lookFor_X7_begin : GoodIn wsX7_lookFor (wsV RX7 32 RX7 yX7_begin wsX7_begin) := goodIn_app (goodIn_of _ (by decide +kernel)) ggX7_lookFor_X7_begin
set_option maxRecDepth 20000 in
theorem ggX7_lookFor_X7_pack : GoodIn wsX7_lookFor wsX7_pack := goodIn_r _ [15, 10, 16, 17, 18, 19, 20, 21, 22, 23, 24, 25, 26, 75, 76, 77, 78, 79, 80, 81, 82, 83, 84, 85] (by decide +kernel) (by decide +kernel)
set_option maxRecDepth 20000 in
theorem gX7_lookFor_X7_pack : GoodIn wsX7_lookFor (wsV RX7 36 RX7 yX7_pack wsX7_pack) := goodIn_app (goodIn_of _ (by decide +kernel)) ggX7_lookFor_X7_pack
set_option maxRecDepth 20000 in
theorem ggX7_lookFor_X7_comeTo : GoodIn wsX7_lookFor wsX7_comeTo := goodIn_r _ [30, 2, 3, 4, 31, 32, 33, 8, 34, 35, 36, 37, 38, 39, 11, 40, 41, 42, 43, 44, 45, 46, 47, 75, 76, 77, 78, 79, 80] (by decide +kernel) (by decide +kernel)
set_option maxRecDepth 20000 in
theorem gX7_lookFor_X7_comeTo : GoodIn wsX7_lookFor (wsV RX7 40 RX7 yX7_comeTo wsX7_comeTo) := goodIn_app (goodIn_of _ (by decide +kernel)) ggX7_lookFor_X7_comeTo
set_option maxRecDepth 20000 in
theorem ggX7_lookFor_X7_spreadOf : GoodIn wsX7_lookFor wsX7_spreadOf := goodIn_r _ [51, 10, 52, 53, 54, 55, 56, 57, 58, 59, 60, 8, 61, 62, 75, 76, 77, 78, 79, 80] (by decide +kernel) (by decide +kernel)
set_option maxRecDepth 20000 in
theorem gX7_lookFor_X7_spreadOf : GoodIn wsX7_lookFor (wsV RX7 44 RX7 yX7_spreadOf wsX7_spreadOf) := goodIn_app (goodIn_of _ (by decide +kernel)) ggX7_lookFor_X7_spreadOf
set_option maxRecDepth 20000 in
theorem ggX7_lookFor_X7_goOnFrom : GoodIn wsX7_lookFor wsX7_goOnFrom := goodIn_r _ [66, 10, 2, 3, 1, 67, 68, 8, 69, 62, 70, 59, 60, 61, 71, 72, 73, 74, 31, 32, 33, 34, 35, 36, 37, 38, 39, 11, 40, 41, 42, 43, 27, 28, 29, 30, 4, 44, 45, 46, 47, 48, 49, 50, 51, 52, 53, 54, 55, 56, 57, 58, 75, 76, 77, 78, 79, 80] (by decide +kernel) (by decide +kernel)
set_option maxRecDepth 20000 in
theorem gX7_lookFor_X7_goOnFrom : GoodIn wsX7_lookFor (wsV RX7 48 RX7 yX7_goOnFrom wsX7_goOnFrom) := goodIn_app (goodIn_of _ (by decide +kernel)) ggX7_lookFor_X7_goOnFrom
set_option maxRecDepth 20000 in
theorem ggX7_goOnFrom_X7_afterTalk : GoodIn wsX7_goOnFrom wsX7_afterTalk := goodIn_r _ [8, 9, 10, 11, 12, 7, 13] (by decide +kernel) (by decide +kernel)
set_option maxRecDepth 20000 in
theorem gX7_goOnFrom_X7_afterTalk : GoodIn wsX7_goOnFrom (va_wsS RX7 52 yX7_afterTalk wsX7_afterTalk) := goodIn_app (goodIn_of _ (by decide +kernel)) ggX7_goOnFrom_X7_afterTalk
set_option maxRecDepth 20000 in
theorem ggX7_goOnFrom_X7_isKnown : GoodIn wsX7_goOnFrom wsX7_isKnown := goodIn_r _ [17, 18, 19, 20, 7, 21, 22, 23, 24, 25, 26, 27, 28, 29, 30, 31, 3, 52, 53, 54, 55, 56, 57] (by decide +kernel) (by decide +kernel)
set_option maxRecDepth 20000 in
theorem gX7_goOnFrom_X7_isKnown : GoodIn wsX7_goOnFrom (wsV RX7 56 RX7 yX7_isKnown wsX7_isKnown) := goodIn_app (goodIn_of _ (by decide +kernel)) ggX7_goOnFrom_X7_isKnown
set_option maxRecDepth 20000 in
theorem ggX7_goOnFrom_X7_comeTo : GoodIn wsX7_goOnFrom wsX7_comeTo := goodIn_r _ [35, 2, 3, 36, 18, 19, 20, 7, 21, 22, 23, 24, 25, 26, 27, 28, 29, 30, 31, 37, 38, 39, 40, 52, 53, 54, 55, 56, 57] (by decide +kernel) (by decide +kernel)
set_option maxRecDepth 20000 in
theorem gX7_goOnFrom_X7_comeTo : GoodIn wsX7_goOnFrom (wsV RX7 40 RX7 yX7_comeTo wsX7_comeTo) := goodIn_app (goodIn_of _ (by decide +kernel)) ggX7_goOnFrom_X7_comeTo
set_option maxRecDepth 20000 in
theorem ggX7_goOnFrom_X7_spreadOf : GoodIn wsX7_goOnFrom wsX7_spreadOf := goodIn_r _ [44, 1, 45, 46, 47, 48, 49, 50, 51, 11, 12, 7, 13, 9, 52, 53, 54, 55, 56, 57] (by decide +kernel) (by decide +kernel)
set_option maxRecDepth 20000 in
theorem gX7_goOnFrom_X7_spreadOf : GoodIn wsX7_goOnFrom (wsV RX7 44 RX7 yX7_spreadOf wsX7_spreadOf) := goodIn_app (goodIn_of _ (by decide +kernel)) ggX7_goOnFrom_X7_spreadOf
set_option maxRecDepth 20000 in
theorem ggX7_pack_X2_thoughtOf : GoodIn wsX7_pack wsX2_thoughtOf := goodIn_r _ [6, 7, 8, 9, 10, 5, 11, 12, 19, 20, 21, 22, 23] (by decide +kernel) (by decide +kernel)
set_option maxRecDepth 20000 in
theorem gX7_pack_X2_thoughtOf : GoodIn wsX7_pack (wsV RX7 60 RX2 yX2_thoughtOf wsX2_thoughtOf) := goodIn_app (goodIn_of _ (by decide +kernel)) ggX7_pack_X2_thoughtOf
set_option maxRecDepth 20000 in
theorem ggX7_afterTalk_X7_unpack : GoodIn wsX7_afterTalk wsX7_unpack := goodIn_r _ [6, 1] (by decide +kernel) (by decide +kernel)
set_option maxRecDepth 20000 in
theorem gX7_afterTalk_X7_unpack : GoodIn wsX7_afterTalk (va_wsS RX7 68 yX7_unpack wsX7_unpack) := goodIn_app (goodIn_of _ (by decide +kernel)) ggX7_afterTalk_X7_unpack
set_option maxRecDepth 20000 in
theorem ggX7_spreadOf_X7_unpack : GoodIn wsX7_spreadOf wsX7_unpack := goodIn_r _ [12, 13] (by decide +kernel) (by decide +kernel)
set_option maxRecDepth 20000 in
theorem gX7_spreadOf_X7_unpack : GoodIn wsX7_spreadOf (va_wsS RX7 68 yX7_unpack wsX7_unpack) := goodIn_app (goodIn_of _ (by decide +kernel)) ggX7_spreadOf_X7_unpack
set_option maxRecDepth 20000 in
theorem ggX7_isKnown_X7_slotFor : GoodIn wsX7_isKnown wsX7_slotFor := goodIn_r _ [5, 6, 7, 8, 9, 4, 10, 11, 12, 13, 14, 15, 16, 17, 18, 19, 20, 21, 22] (by decide +kernel) (by decide +kernel)
set_option maxRecDepth 20000 in
theorem gX7_isKnown_X7_slotFor : GoodIn wsX7_isKnown (wsV RX7 82 RX7 yX7_slotFor wsX7_slotFor) := goodIn_app (goodIn_of _ (by decide +kernel)) ggX7_isKnown_X7_slotFor
set_option maxRecDepth 20000 in
theorem ggX7_isKnown_X7_placeIn : GoodIn wsX7_isKnown wsX7_placeIn := goodIn_r _ [10, 11, 17, 18, 19, 20, 21, 22] (by decide +kernel) (by decide +kernel)
set_option maxRecDepth 20000 in
theorem gX7_isKnown_X7_placeIn : GoodIn wsX7_isKnown (wsV RX7 85 RX7 yX7_placeIn wsX7_placeIn) := goodIn_app (goodIn_of _ (by decide +kernel)) ggX7_isKnown_X7_placeIn
set_option maxRecDepth 20000 in
theorem ggX7_isKnown_X7_isAt : GoodIn wsX7_isKnown wsX7_isAt := goodIn_r _ [15, 16, 17, 18, 19, 20, 21, 22] (by decide +kernel) (by decide +kernel)
set_option maxRecDepth 20000 in
theorem gX7_isKnown_X7_isAt : GoodIn wsX7_isKnown (wsV RX7 88 RX7 yX7_isAt wsX7_isAt) := goodIn_app (goodIn_of _ (by decide +kernel)) ggX7_isKnown_X7_isAt
set_option maxRecDepth 20000 in
theorem ggX7_comeTo_X7_slotFor : GoodIn wsX7_comeTo wsX7_slotFor := goodIn_r _ [8, 9, 10, 11, 12, 7, 13, 14, 15, 16, 17, 18, 2, 23, 24, 25, 26, 27, 28] (by decide +kernel) (by decide +kernel)
set_option maxRecDepth 20000 in
theorem gX7_comeTo_X7_slotFor : GoodIn wsX7_comeTo (wsV RX7 82 RX7 yX7_slotFor wsX7_slotFor) := goodIn_app (goodIn_of _ (by decide +kernel)) ggX7_comeTo_X7_slotFor
set_option maxRecDepth 20000 in
theorem ggX7_comeTo_X7_mark : GoodIn wsX7_comeTo wsX7_mark := goodIn_r _ [22, 14, 23, 24, 25, 26, 27, 28] (by decide +kernel) (by decide +kernel)
set_option maxRecDepth 20000 in
theorem gX7_comeTo_X7_mark : GoodIn wsX7_comeTo (wsV RX7 92 RX7 yX7_mark wsX7_mark) := goodIn_app (goodIn_of _ (by decide +kernel)) ggX7_comeTo_X7_mark
set_option maxRecDepth 20000 in
theorem ggX7_slotFor_X7_placeIn : GoodIn wsX7_slotFor wsX7_placeIn := goodIn_r _ [6, 7, 13, 14, 15, 16, 17, 18] (by decide +kernel) (by decide +kernel)
set_option maxRecDepth 20000 in
theorem gX7_slotFor_X7_placeIn : GoodIn wsX7_slotFor (wsV RX7 85 RX7 yX7_placeIn wsX7_placeIn) := goodIn_app (goodIn_of _ (by decide +kernel)) ggX7_slotFor_X7_placeIn
set_option maxRecDepth 20000 in
theorem ggX7_slotFor_X7_isAt : GoodIn wsX7_slotFor wsX7_isAt := goodIn_r _ [11, 12, 13, 14, 15, 16, 17, 18] (by decide +kernel) (by decide +kernel)
set_option maxRecDepth 20000 in
theorem gX7_slotFor_X7_isAt : GoodIn wsX7_slotFor (wsV RX7 88 RX7 yX7_isAt wsX7_isAt) := goodIn_app (goodIn_of _ (by decide +kernel)) ggX7_slotFor_X7_isAt
set_option maxRecDepth 20000 in
theorem ggX8_init_X2_init : GoodIn wsX8_init wsX2_init := goodIn_r _ [33, 34, 2, 3, 35, 36, 37, 38, 39, 40, 41, 42, 94, 95, 96, 97, 98] (by decide +kernel) (by decide +kernel)
set_option maxRecDepth 20000 in
theorem gX8_init_X2_init_n9 : GoodIn wsX8_init (wsX2_init) := ggX8_init_X2_init
set_option maxRecDepth 20000 in
theorem ggX8_init_X4_init : GoodIn wsX8_init wsX4_init := goodIn_r _ [44, 45, 2, 3, 35, 46, 47, 106, 107] (by decide +kernel) (by decide +kernel)
set_option maxRecDepth 20000 in
theorem gX8_init_X4_init_n18 : GoodIn wsX8_init (wsX4_init) := ggX8_init_X4_init
set_option maxRecDepth 20000 in
theorem ggX8_init_X1_init : GoodIn wsX8_init wsX1_init := goodIn_r _ [49, 50, 2, 3, 35, 51, 52, 108, 109] (by decide +kernel) (by decide +kernel)
set_option maxRecDepth 20000 in
theorem gX8_init_X1_init_n25 : GoodIn wsX8_init (wsX1_init) := ggX8_init_X1_init
set_option maxRecDepth 20000 in
theorem ggX8_init_X0_init : GoodIn wsX8_init wsX0_init := goodIn_r _ [54, 55, 2, 3, 35, 56, 57, 58, 110, 111, 112] (by decide +kernel) (by decide +kernel)
set_option maxRecDepth 20000 in
theorem gX8_init_X0_init_n32 : GoodIn wsX8_init (wsX0_init) := ggX8_init_X0_init
set_option maxRecDepth 20000 in
theorem ggX8_init_X5_init : GoodIn wsX8_init wsX5_init := goodIn_r _ [60, 61, 2, 3, 62, 63, 64, 65, 66, 67, 68, 69, 70, 71, 72, 73, 74, 75, 76, 126, 127, 128, 129, 113, 114, 115] (by decide +kernel) (by decide +kernel)
set_option maxRecDepth 20000 in
theorem gX8_init_X5_init_n39 : GoodIn wsX8_init (wsX5_init) := ggX8_init_X5_init
set_option maxRecDepth 20000 in
theorem ggX8_init_X3_init : GoodIn wsX8_init wsX3_init := goodIn_r _ [78, 79, 2, 3, 80, 63, 64, 81, 35, 82, 66, 83, 84, 69, 70, 71, 72, 73, 74, 75, 76, 126, 127, 128, 129, 116, 117, 118, 119] (by decide +kernel) (by decide +kernel)
set_option maxRecDepth 20000 in
theorem gX8_init_X3_init_n46 : GoodIn wsX8_init (wsX3_init) := ggX8_init_X3_init
set_option maxRecDepth 20000 in
theorem ggX8_init_X7_init : GoodIn wsX8_init wsX7_init := goodIn_r _ [86, 87, 2, 3, 66, 88, 35, 89, 90, 91, 92, 93, 120, 121, 122, 123, 124, 125] (by decide +kernel) (by decide +kernel)
set_option maxRecDepth 20000 in
theorem gX8_init_X7_init_n53 : GoodIn wsX8_init (wsX7_init) := ggX8_init_X7_init
set_option maxRecDepth 20000 in
theorem ggX8_one_X8_isThought : GoodIn wsX8_one wsX8_isThought := goodIn_r _ [5, 6, 7, 4, 8] (by decide +kernel) (by decide +kernel)
set_option maxRecDepth 20000 in
theorem gX8_one_X8_isThought : GoodIn wsX8_one (va_wsS RX8 58 yX8_isThought wsX8_isThought) := goodIn_app (goodIn_of _ (by decide +kernel)) ggX8_one_X8_isThought
set_option maxRecDepth 20000 in
theorem ggX8_one_X2_join : GoodIn wsX8_one wsX2_join := goodIn_r _ [13, 14, 15, 16, 17, 12, 18, 19, 20, 21, 22, 23, 24, 25, 26, 27, 28, 36, 37, 38, 39, 40] (by decide +kernel) (by decide +kernel)
set_option maxRecDepth 20000 in
theorem gX8_one_X2_join : GoodIn wsX8_one (wsV RX8 62 RX2 yX2_join wsX2_join) := goodIn_app (goodIn_of _ (by decide +kernel)) ggX8_one_X2_join
set_option maxRecDepth 20000 in
theorem ggX8_think_X2_has : GoodIn wsX8_think wsX2_has := goodIn_r _ [6, 7, 32, 33, 34, 35, 36] (by decide +kernel) (by decide +kernel)
set_option maxRecDepth 20000 in
theorem gX8_think_X2_has : GoodIn wsX8_think (wsV RX8 66 RX2 yX2_has wsX2_has) := goodIn_app (goodIn_of _ (by decide +kernel)) ggX8_think_X2_has
set_option maxRecDepth 20000 in
theorem ggX8_think_X8_isThought : GoodIn wsX8_think wsX8_isThought := goodIn_r _ [11, 12, 13, 10, 14] (by decide +kernel) (by decide +kernel)
set_option maxRecDepth 20000 in
theorem gX8_think_X8_isThought : GoodIn wsX8_think (va_wsS RX8 58 yX8_isThought wsX8_isThought) := goodIn_app (goodIn_of _ (by decide +kernel)) ggX8_think_X8_isThought
set_option maxRecDepth 20000 in
theorem ggX8_think_X2_thoughtOf : GoodIn wsX8_think wsX2_thoughtOf := goodIn_r _ [18, 19, 20, 3, 4, 5, 6, 7, 32, 33, 34, 35, 36] (by decide +kernel) (by decide +kernel)
set_option maxRecDepth 20000 in
theorem gX8_think_X2_thoughtOf : GoodIn wsX8_think (wsV RX8 69 RX2 yX2_thoughtOf wsX2_thoughtOf) := goodIn_app (goodIn_of _ (by decide +kernel)) ggX8_think_X2_thoughtOf
set_option maxRecDepth 20000 in
theorem ggX8_think_X2_rethink : GoodIn wsX8_think wsX2_rethink := goodIn_r _ [24, 19, 20, 3, 4, 5, 6, 7, 32, 33, 34, 35, 36] (by decide +kernel) (by decide +kernel)
set_option maxRecDepth 20000 in
theorem gX8_think_X2_rethink : GoodIn wsX8_think (wsV RX8 72 RX2 yX2_rethink wsX2_rethink) := goodIn_app (goodIn_of _ (by decide +kernel)) ggX8_think_X2_rethink
set_option maxRecDepth 20000 in
theorem ggX8_stubborn_X2_has : GoodIn wsX8_stubborn wsX2_has := goodIn_r _ [6, 7, 25, 26, 27, 28, 29] (by decide +kernel) (by decide +kernel)
set_option maxRecDepth 20000 in
theorem gX8_stubborn_X2_has : GoodIn wsX8_stubborn (wsV RX8 66 RX2 yX2_has wsX2_has) := goodIn_app (goodIn_of _ (by decide +kernel)) ggX8_stubborn_X2_has
set_option maxRecDepth 20000 in
theorem ggX8_stubborn_X2_isStubborn : GoodIn wsX8_stubborn wsX2_isStubborn := goodIn_r _ [11, 12, 13, 3, 4, 5, 6, 7, 25, 26, 27, 28, 29] (by decide +kernel) (by decide +kernel)
set_option maxRecDepth 20000 in
theorem gX8_stubborn_X2_isStubborn : GoodIn wsX8_stubborn (wsV RX8 76 RX2 yX2_isStubborn wsX2_isStubborn) := goodIn_app (goodIn_of _ (by decide +kernel)) ggX8_stubborn_X2_isStubborn
set_option maxRecDepth 20000 in
theorem ggX8_stubborn_X2_makeStubborn : GoodIn wsX8_stubborn wsX2_makeStubborn := goodIn_r _ [17, 12, 13, 3, 4, 5, 6, 7, 25, 26, 27, 28, 29] (by decide +kernel) (by decide +kernel)
set_option maxRecDepth 20000 in
theorem gX8_stubborn_X2_makeStubborn : GoodIn wsX8_stubborn (wsV RX8 79 RX2 yX2_makeStubborn wsX2_makeStubborn) := goodIn_app (goodIn_of _ (by decide +kernel)) ggX8_stubborn_X2_makeStubborn
set_option maxRecDepth 20000 in
theorem ggX8_weight_X2_has : GoodIn wsX8_weight wsX2_has := goodIn_r _ [6, 7, 29, 30, 31, 32, 33] (by decide +kernel) (by decide +kernel)
set_option maxRecDepth 20000 in
theorem gX8_weight_X2_has : GoodIn wsX8_weight (wsV RX8 66 RX2 yX2_has wsX2_has) := goodIn_app (goodIn_of _ (by decide +kernel)) ggX8_weight_X2_has
set_option maxRecDepth 20000 in
theorem ggX8_weight_X8_isFrom : GoodIn wsX8_weight wsX8_isFrom := goodIn_r _ [11] (by decide +kernel) (by decide +kernel)
set_option maxRecDepth 20000 in
theorem gX8_weight_X8_isFrom : GoodIn wsX8_weight (va_wsS RX8 83 yX8_isFrom wsX8_isFrom) := goodIn_app (goodIn_of _ (by decide +kernel)) ggX8_weight_X8_isFrom
set_option maxRecDepth 20000 in
theorem ggX8_weight_X2_weightOf : GoodIn wsX8_weight wsX2_weightOf := goodIn_r _ [15, 16, 17, 3, 4, 5, 6, 7, 29, 30, 31, 32, 33] (by decide +kernel) (by decide +kernel)
set_option maxRecDepth 20000 in
theorem gX8_weight_X2_weightOf : GoodIn wsX8_weight (wsV RX8 87 RX2 yX2_weightOf wsX2_weightOf) := goodIn_app (goodIn_of _ (by decide +kernel)) ggX8_weight_X2_weightOf
set_option maxRecDepth 20000 in
theorem ggX8_weight_X2_weigh : GoodIn wsX8_weight wsX2_weigh := goodIn_r _ [21, 16, 17, 3, 4, 5, 6, 7, 29, 30, 31, 32, 33] (by decide +kernel) (by decide +kernel)
set_option maxRecDepth 20000 in
theorem gX8_weight_X2_weigh : GoodIn wsX8_weight (wsV RX8 91 RX2 yX2_weigh wsX2_weigh) := goodIn_app (goodIn_of _ (by decide +kernel)) ggX8_weight_X2_weigh
set_option maxRecDepth 20000 in
theorem ggX8_ear_X8_isThought : GoodIn wsX8_ear wsX8_isThought := goodIn_r _ [5, 6, 7, 4, 8] (by decide +kernel) (by decide +kernel)
set_option maxRecDepth 20000 in
theorem gX8_ear_X8_isThought : GoodIn wsX8_ear (va_wsS RX8 58 yX8_isThought wsX8_isThought) := goodIn_app (goodIn_of _ (by decide +kernel)) ggX8_ear_X8_isThought
set_option maxRecDepth 20000 in
theorem ggX8_ear_X2_earWidth : GoodIn wsX8_ear wsX2_earWidth := goodIn_r _ [13, 14, 26, 27, 28, 29, 30] (by decide +kernel) (by decide +kernel)
set_option maxRecDepth 20000 in
theorem gX8_ear_X2_earWidth : GoodIn wsX8_ear (wsV RX8 95 RX2 yX2_earWidth wsX2_earWidth) := goodIn_app (goodIn_of _ (by decide +kernel)) ggX8_ear_X2_earWidth
set_option maxRecDepth 20000 in
theorem ggX8_ear_X2_openEars : GoodIn wsX8_ear wsX2_openEars := goodIn_r _ [18, 14, 26, 27, 28, 29, 30] (by decide +kernel) (by decide +kernel)
set_option maxRecDepth 20000 in
theorem gX8_ear_X2_openEars : GoodIn wsX8_ear (wsV RX8 99 RX2 yX2_openEars wsX2_openEars) := goodIn_app (goodIn_of _ (by decide +kernel)) ggX8_ear_X2_openEars
set_option maxRecDepth 20000 in
theorem ggX8_rounds_X8_isFrom : GoodIn wsX8_rounds wsX8_isFrom := goodIn_r _ [6] (by decide +kernel) (by decide +kernel)
set_option maxRecDepth 20000 in
theorem gX8_rounds_X8_isFrom : GoodIn wsX8_rounds (va_wsS RX8 83 yX8_isFrom wsX8_isFrom) := goodIn_app (goodIn_of _ (by decide +kernel)) ggX8_rounds_X8_isFrom
set_option maxRecDepth 20000 in
theorem ggX8_rounds_X4_runMany : GoodIn wsX8_rounds wsX4_runMany := goodIn_r _ [11, 12, 13, 14, 10, 15, 16, 17, 18, 19, 20, 21, 22, 23, 24, 25, 26, 27, 28, 29, 30, 31, 32, 33, 34, 35, 36, 37, 38, 39, 40, 41, 42, 43, 44, 45, 46, 47, 48, 49, 50, 51, 59, 60, 61, 62, 63, 64, 65] (by decide +kernel) (by decide +kernel)
set_option maxRecDepth 20000 in
theorem gX8_rounds_X4_runMany : GoodIn wsX8_rounds (wsV RX8 103 RX4 yX4_runMany wsX4_runMany) := goodIn_app (goodIn_of _ (by decide +kernel)) ggX8_rounds_X4_runMany
set_option maxRecDepth 20000 in
theorem ggX8_settle_X4_runTillStill : GoodIn wsX8_settle wsX4_runTillStill := goodIn_r _ [7, 8, 9, 10, 6, 11, 12, 13, 14, 15, 16, 17, 18, 19, 20, 21, 22, 23, 24, 25, 26, 27, 28, 29, 30, 31, 32, 33, 34, 35, 36, 37, 38, 39, 40, 41, 42, 43, 44, 45, 46, 47, 55, 56, 57, 58, 59, 60, 61] (by decide +kernel) (by decide +kernel)
set_option maxRecDepth 20000 in
theorem gX8_settle_X4_runTillStill : GoodIn wsX8_settle (wsV RX8 107 RX4 yX4_runTillStill wsX4_runTillStill) := goodIn_app (goodIn_of _ (by decide +kernel)) ggX8_settle_X4_runTillStill
set_option maxRecDepth 20000 in
theorem ggX8_about_X2_has : GoodIn wsX8_about wsX2_has := goodIn_r _ [7, 8, 85, 86, 87, 88, 89] (by decide +kernel) (by decide +kernel)
set_option maxRecDepth 20000 in
theorem gX8_about_X2_has : GoodIn wsX8_about (wsV RX8 66 RX2 yX2_has wsX2_has) := goodIn_app (goodIn_of _ (by decide +kernel)) ggX8_about_X2_has
set_option maxRecDepth 20000 in
theorem ggX8_about_X2_thoughtOf : GoodIn wsX8_about wsX2_thoughtOf := goodIn_r _ [12, 13, 14, 4, 5, 6, 7, 8, 85, 86, 87, 88, 89] (by decide +kernel) (by decide +kernel)
set_option maxRecDepth 20000 in
theorem gX8_about_X2_thoughtOf : GoodIn wsX8_about (wsV RX8 69 RX2 yX2_thoughtOf wsX2_thoughtOf) := goodIn_app (goodIn_of _ (by decide +kernel)) ggX8_about_X2_thoughtOf
set_option maxRecDepth 20000 in
theorem ggX8_about_X2_isStubborn : GoodIn wsX8_about wsX2_isStubborn := goodIn_r _ [18, 19, 14, 4, 5, 6, 7, 8, 85, 86, 87, 88, 89] (by decide +kernel) (by decide +kernel)
set_option maxRecDepth 20000 in
theorem gX8_about_X2_isStubborn : GoodIn wsX8_about (wsV RX8 76 RX2 yX2_isStubborn wsX2_isStubborn) := goodIn_app (goodIn_of _ (by decide +kernel)) ggX8_about_X2_isStubborn
set_option maxRecDepth 20000 in
theorem ggX8_about_X2_countHeard : GoodIn wsX8_about wsX2_countHeard := goodIn_r _ [23, 8, 24, 25, 26, 6, 27, 28, 13, 29, 30, 31, 32, 33, 14, 4, 5, 7, 85, 86, 87, 88, 89] (by decide +kernel) (by decide +kernel)
set_option maxRecDepth 20000 in
theorem gX8_about_X2_countHeard : GoodIn wsX8_about (wsV RX8 111 RX2 yX2_countHeard wsX2_countHeard) := goodIn_app (goodIn_of _ (by decide +kernel)) ggX8_about_X2_countHeard
set_option maxRecDepth 20000 in
theorem ggX8_about_X1_followHanging : GoodIn wsX8_about wsX1_followHanging := goodIn_r _ [38, 39, 40, 41, 42, 6, 43, 8, 44, 45, 46, 37, 47, 48, 49, 50, 51, 52, 24, 25, 26, 27, 28, 13, 29, 30, 31, 32, 33, 14, 4, 5, 7, 53, 54, 55, 56, 57, 58, 59, 60, 61, 62, 63, 64, 65, 66, 67, 68, 90, 91, 85, 86, 87, 88, 89] (by decide +kernel) (by decide +kernel)
set_option maxRecDepth 20000 in
theorem gX8_about_X1_followHanging : GoodIn wsX8_about (wsV RX8 114 RX1 yX1_followHanging wsX1_followHanging) := goodIn_app (goodIn_of _ (by decide +kernel)) ggX8_about_X1_followHanging
set_option maxRecDepth 20000 in
theorem ggX8_about_X1_firstTiedTo : GoodIn wsX8_about wsX1_firstTiedTo := goodIn_r _ [72, 65, 66, 67, 37, 68, 48, 57, 58, 59, 60, 39, 90, 91] (by decide +kernel) (by decide +kernel)
set_option maxRecDepth 20000 in
theorem gX8_about_X1_firstTiedTo : GoodIn wsX8_about (wsV RX8 118 RX1 yX1_firstTiedTo wsX1_firstTiedTo) := goodIn_app (goodIn_of _ (by decide +kernel)) ggX8_about_X1_firstTiedTo
set_option maxRecDepth 20000 in
theorem ggX8_about_X1_countFirsts : GoodIn wsX8_about wsX1_countFirsts := goodIn_r _ [76, 39, 77, 70, 71, 37, 72, 65, 66, 67, 68, 48, 57, 58, 59, 60, 90, 91] (by decide +kernel) (by decide +kernel)
set_option maxRecDepth 20000 in
theorem gX8_about_X1_countFirsts : GoodIn wsX8_about (wsV RX8 121 RX1 yX1_countFirsts wsX1_countFirsts) := goodIn_app (goodIn_of _ (by decide +kernel)) ggX8_about_X1_countFirsts
set_option maxRecDepth 20000 in
theorem ggX8_told_X2_size : GoodIn wsX8_told wsX2_size := goodIn_r _ [6, 7, 111, 112, 113, 114, 115] (by decide +kernel) (by decide +kernel)
set_option maxRecDepth 20000 in
theorem gX8_told_X2_size : GoodIn wsX8_told (wsV RX8 124 RX2 yX2_size wsX2_size) := goodIn_app (goodIn_of _ (by decide +kernel)) ggX8_told_X2_size
set_option maxRecDepth 20000 in
theorem ggX8_told_X2_earWidth : GoodIn wsX8_told wsX2_earWidth := goodIn_r _ [11, 12, 111, 112, 113, 114, 115] (by decide +kernel) (by decide +kernel)
set_option maxRecDepth 20000 in
theorem gX8_told_X2_earWidth : GoodIn wsX8_told (wsV RX8 95 RX2 yX2_earWidth wsX2_earWidth) := goodIn_app (goodIn_of _ (by decide +kernel)) ggX8_told_X2_earWidth
set_option maxRecDepth 20000 in
theorem ggX8_told_X8_countGroups : GoodIn wsX8_told wsX8_countGroups := goodIn_r _ [17, 18, 1, 19, 20, 21, 22, 23, 24, 25, 3, 4, 5, 6, 7, 26, 27, 28, 29, 30, 31, 32, 33, 34, 35, 36, 37, 38, 39, 40, 41, 42, 43, 44, 12, 45, 46, 47, 48, 49, 50, 51, 52, 53, 54, 55, 56, 57, 58, 59, 60, 61, 62, 63, 64, 2, 65, 66, 67, 68, 69, 70, 71, 72, 104, 105, 106, 107, 108, 109, 110, 116, 117, 111, 112, 113, 114, 115] (by decide +kernel) (by decide +kernel)
set_option maxRecDepth 20000 in
theorem gX8_told_X8_countGroups : GoodIn wsX8_told (wsV RX8 127 RX8 yX8_countGroups wsX8_countGroups) := goodIn_app (goodIn_of _ (by decide +kernel)) ggX8_told_X8_countGroups
set_option maxRecDepth 20000 in
theorem ggX8_told_X2_spread : GoodIn wsX8_told wsX2_spread := goodIn_r _ [76, 7, 77, 78, 43, 79, 80, 81, 82, 83, 84, 85, 5, 86, 40, 45, 46, 47, 48, 111, 112, 113, 114, 115] (by decide +kernel) (by decide +kernel)
set_option maxRecDepth 20000 in
theorem gX8_told_X2_spread : GoodIn wsX8_told (wsV RX8 130 RX2 yX2_spread wsX2_spread) := goodIn_app (goodIn_of _ (by decide +kernel)) ggX8_told_X2_spread
set_option maxRecDepth 20000 in
theorem ggX8_told_X2_discord : GoodIn wsX8_told wsX2_discord := goodIn_r _ [90, 7, 41, 42, 43, 44, 83, 84, 85, 5, 86, 40, 45, 46, 47, 48, 111, 112, 113, 114, 115] (by decide +kernel) (by decide +kernel)
set_option maxRecDepth 20000 in
theorem gX8_told_X2_discord : GoodIn wsX8_told (wsV RX8 133 RX2 yX2_discord wsX2_discord) := goodIn_app (goodIn_of _ (by decide +kernel)) ggX8_told_X2_discord
set_option maxRecDepth 20000 in
theorem ggX8_told_X2_sumOfThoughts : GoodIn wsX8_told wsX2_sumOfThoughts := goodIn_r _ [94, 7, 83, 84, 85, 5, 86, 40, 45, 46, 47, 48, 111, 112, 113, 114, 115] (by decide +kernel) (by decide +kernel)
set_option maxRecDepth 20000 in
theorem gX8_told_X2_sumOfThoughts : GoodIn wsX8_told (wsV RX8 136 RX2 yX2_sumOfThoughts wsX2_sumOfThoughts) := goodIn_app (goodIn_of _ (by decide +kernel)) ggX8_told_X2_sumOfThoughts
set_option maxRecDepth 20000 in
theorem ggX8_told_X2_countStubborn : GoodIn wsX8_told wsX2_countStubborn := goodIn_r _ [98, 7, 99, 100, 101, 5, 102, 103, 45, 46, 47, 48, 111, 112, 113, 114, 115] (by decide +kernel) (by decide +kernel)
set_option maxRecDepth 20000 in
theorem gX8_told_X2_countStubborn : GoodIn wsX8_told (wsV RX8 139 RX2 yX2_countStubborn wsX2_countStubborn) := goodIn_app (goodIn_of _ (by decide +kernel)) ggX8_told_X2_countStubborn
set_option maxRecDepth 20000 in
theorem ggX8_keep_X0_takeFrom : GoodIn wsX8_keep wsX0_takeFrom := goodIn_r _ [7, 8, 9, 10, 11, 12, 13, 14, 15, 16, 17, 18, 19, 20, 21, 22, 23, 24, 25, 26, 27, 28, 29, 37, 38, 39, 40, 41, 42, 43, 44] (by decide +kernel) (by decide +kernel)
set_option maxRecDepth 20000 in
theorem gX8_keep_X0_takeFrom : GoodIn wsX8_keep (wsV RX8 142 RX0 yX0_takeFrom wsX0_takeFrom) := goodIn_app (goodIn_of _ (by decide +kernel)) ggX8_keep_X0_takeFrom
set_option maxRecDepth 20000 in
theorem ggX8_back_X0_isTaken : GoodIn wsX8_back wsX0_isTaken := goodIn_r _ [7, 8, 33, 34, 35] (by decide +kernel) (by decide +kernel)
set_option maxRecDepth 20000 in
theorem gX8_back_X0_isTaken : GoodIn wsX8_back (wsV RX8 145 RX0 yX0_isTaken wsX0_isTaken) := goodIn_app (goodIn_of _ (by decide +kernel)) ggX8_back_X0_isTaken
set_option maxRecDepth 20000 in
theorem ggX8_back_X0_giveBackTo : GoodIn wsX8_back wsX0_giveBackTo := goodIn_r _ [12, 13, 14, 15, 16, 17, 18, 19, 20, 21, 22, 23, 24, 25, 33, 34, 35, 36, 37, 38, 39, 40] (by decide +kernel) (by decide +kernel)
set_option maxRecDepth 20000 in
theorem gX8_back_X0_giveBackTo : GoodIn wsX8_back (wsV RX8 149 RX0 yX0_giveBackTo wsX0_giveBackTo) := goodIn_app (goodIn_of _ (by decide +kernel)) ggX8_back_X0_giveBackTo
set_option maxRecDepth 20000 in
theorem ggX8_width_X8_isThought : GoodIn wsX8_width wsX8_isThought := goodIn_r _ [6, 7, 8, 5, 9] (by decide +kernel) (by decide +kernel)
set_option maxRecDepth 20000 in
theorem gX8_width_X8_isThought : GoodIn wsX8_width (va_wsS RX8 58 yX8_isThought wsX8_isThought) := goodIn_app (goodIn_of _ (by decide +kernel)) ggX8_width_X8_isThought
set_option maxRecDepth 20000 in
theorem ggX8_width_X8_isFrom : GoodIn wsX8_width wsX8_isFrom := goodIn_r _ [9] (by decide +kernel) (by decide +kernel)
set_option maxRecDepth 20000 in
theorem gX8_width_X8_isFrom : GoodIn wsX8_width (va_wsS RX8 83 yX8_isFrom wsX8_isFrom) := goodIn_app (goodIn_of _ (by decide +kernel)) ggX8_width_X8_isFrom
set_option maxRecDepth 20000 in
theorem ggX8_width_X2_earWidth : GoodIn wsX8_width wsX2_earWidth := goodIn_r _ [14, 15, 125, 126, 127, 128, 129] (by decide +kernel) (by decide +kernel)
set_option maxRecDepth 20000 in
theorem gX8_width_X2_earWidth : GoodIn wsX8_width (wsV RX8 95 RX2 yX2_earWidth wsX2_earWidth) := goodIn_app (goodIn_of _ (by decide +kernel)) ggX8_width_X2_earWidth
set_option maxRecDepth 20000 in
theorem ggX8_width_X4_remember : GoodIn wsX8_width wsX4_remember := goodIn_r _ [20, 21, 22, 23, 24, 13, 25, 26, 27, 28, 29, 30, 31, 32, 33, 34, 35, 130, 131, 125, 126, 127, 128, 129] (by decide +kernel) (by decide +kernel)
set_option maxRecDepth 20000 in
theorem gX8_width_X4_remember : GoodIn wsX8_width (wsV RX8 152 RX4 yX4_remember wsX4_remember) := goodIn_app (goodIn_of _ (by decide +kernel)) ggX8_width_X4_remember
set_option maxRecDepth 20000 in
theorem ggX8_width_X2_openEars : GoodIn wsX8_width wsX2_openEars := goodIn_r _ [39, 15, 125, 126, 127, 128, 129] (by decide +kernel) (by decide +kernel)
set_option maxRecDepth 20000 in
theorem gX8_width_X2_openEars : GoodIn wsX8_width (wsV RX8 99 RX2 yX2_openEars wsX2_openEars) := goodIn_app (goodIn_of _ (by decide +kernel)) ggX8_width_X2_openEars
set_option maxRecDepth 20000 in
theorem ggX8_width_X4_runTillStill : GoodIn wsX8_width wsX4_runTillStill := goodIn_r _ [43, 44, 45, 46, 19, 47, 48, 22, 23, 24, 13, 25, 26, 49, 50, 51, 52, 53, 54, 31, 32, 33, 34, 35, 55, 28, 29, 30, 56, 57, 58, 59, 60, 61, 62, 63, 15, 27, 64, 65, 66, 67, 130, 131, 125, 126, 127, 128, 129] (by decide +kernel) (by decide +kernel)
set_option maxRecDepth 20000 in
theorem gX8_width_X4_runTillStill : GoodIn wsX8_width (wsV RX8 107 RX4 yX4_runTillStill wsX4_runTillStill) := goodIn_app (goodIn_of _ (by decide +kernel)) ggX8_width_X4_runTillStill
set_option maxRecDepth 20000 in
theorem ggX8_width_X8_countGroups : GoodIn wsX8_width wsX8_countGroups := goodIn_r _ [71, 72, 1, 73, 74, 75, 76, 77, 78, 79, 23, 24, 13, 25, 26, 80, 81, 82, 83, 84, 85, 86, 87, 88, 56, 57, 58, 59, 54, 31, 60, 61, 62, 63, 15, 32, 33, 34, 35, 89, 90, 91, 92, 93, 94, 95, 96, 97, 98, 99, 100, 101, 102, 103, 104, 105, 106, 107, 108, 109, 110, 111, 112, 113, 118, 119, 120, 121, 122, 123, 124, 132, 133, 125, 126, 127, 128, 129] (by decide +kernel) (by decide +kernel)
set_option maxRecDepth 20000 in
theorem gX8_width_X8_countGroups : GoodIn wsX8_width (wsV RX8 127 RX8 yX8_countGroups wsX8_countGroups) := goodIn_app (goodIn_of _ (by decide +kernel)) ggX8_width_X8_countGroups
set_option maxRecDepth 20000 in
theorem ggX8_width_X4_putBack : GoodIn wsX8_width wsX4_putBack := goodIn_r _ [117, 21, 22, 23, 24, 13, 25, 26, 64, 65, 66, 67, 31, 32, 33, 34, 35, 130, 131, 125, 126, 127, 128, 129] (by decide +kernel) (by decide +kernel)
set_option maxRecDepth 20000 in
theorem gX8_width_X4_putBack : GoodIn wsX8_width (wsV RX8 155 RX4 yX4_putBack wsX4_putBack) := goodIn_app (goodIn_of _ (by decide +kernel)) ggX8_width_X4_putBack
set_option maxRecDepth 20000 in
theorem ggX8_leads_X2_has : GoodIn wsX8_leads wsX2_has := goodIn_r _ [7, 8, 54, 55, 56, 57, 58] (by decide +kernel) (by decide +kernel)
set_option maxRecDepth 20000 in
theorem gX8_leads_X2_has : GoodIn wsX8_leads (wsV RX8 66 RX2 yX2_has wsX2_has) := goodIn_app (goodIn_of _ (by decide +kernel)) ggX8_leads_X2_has
set_option maxRecDepth 20000 in
theorem ggX8_leads_X1_followListening : GoodIn wsX8_leads wsX1_followListening := goodIn_r _ [13, 14, 15, 16, 17, 6, 18, 8, 19, 20, 21, 12, 22, 23, 24, 25, 26, 27, 28, 29, 4, 5, 7, 30, 31, 32, 33, 34, 35, 36, 37, 38, 39, 40, 41, 42, 43, 44, 45, 59, 60, 54, 55, 56, 57, 58] (by decide +kernel) (by decide +kernel)
set_option maxRecDepth 20000 in
theorem gX8_leads_X1_followListening : GoodIn wsX8_leads (wsV RX8 158 RX1 yX1_followListening wsX1_followListening) := goodIn_app (goodIn_of _ (by decide +kernel)) ggX8_leads_X1_followListening
set_option maxRecDepth 20000 in
theorem ggX8_leads_X1_isTied : GoodIn wsX8_leads wsX1_isTied := goodIn_r _ [45, 23, 34, 35, 36, 12, 37, 14, 59, 60] (by decide +kernel) (by decide +kernel)
set_option maxRecDepth 20000 in
theorem gX8_leads_X1_isTied : GoodIn wsX8_leads (wsV RX8 161 RX1 yX1_isTied wsX1_isTied) := goodIn_app (goodIn_of _ (by decide +kernel)) ggX8_leads_X1_isTied
set_option maxRecDepth 20000 in
theorem ggX8_share_X2_has : GoodIn wsX8_share wsX2_has := goodIn_r _ [11, 12, 144, 145, 146, 147, 148] (by decide +kernel) (by decide +kernel)
set_option maxRecDepth 20000 in
theorem gX8_share_X2_has : GoodIn wsX8_share (wsV RX8 66 RX2 yX2_has wsX2_has) := goodIn_app (goodIn_of _ (by decide +kernel)) ggX8_share_X2_has
set_option maxRecDepth 20000 in
theorem ggX8_share_X8_isFrom : GoodIn wsX8_share wsX8_isFrom := goodIn_r _ [16] (by decide +kernel) (by decide +kernel)
set_option maxRecDepth 20000 in
theorem gX8_share_X8_isFrom : GoodIn wsX8_share (va_wsS RX8 83 yX8_isFrom wsX8_isFrom) := goodIn_app (goodIn_of _ (by decide +kernel)) ggX8_share_X8_isFrom
set_option maxRecDepth 20000 in
theorem ggX8_share_X5_areThere : GoodIn wsX8_share wsX5_areThere := goodIn_r _ [21, 22, 23, 24, 10, 25, 12, 14, 15, 16, 26, 27, 28, 29, 30, 31, 32, 33, 34, 35, 36, 37, 38, 39, 40, 41, 42, 43, 8, 9, 11, 44, 45, 46, 47, 48, 49, 50, 51, 52, 53, 54, 55, 56, 57, 58, 59, 60, 144, 145, 146, 147, 148, 149, 150] (by decide +kernel) (by decide +kernel)
set_option maxRecDepth 20000 in
theorem gX8_share_X5_areThere : GoodIn wsX8_share (wsV RX8 169 RX5 yX5_areThere wsX5_areThere) := goodIn_app (goodIn_of _ (by decide +kernel)) ggX8_share_X5_areThere
set_option maxRecDepth 20000 in
theorem ggX8_share_X5_work : GoodIn wsX8_share wsX5_work := goodIn_r _ [64, 65, 66, 67, 68, 69, 70, 20, 71, 22, 23, 24, 10, 25, 12, 72, 73, 74, 75, 76, 77, 78, 79, 80, 81, 82, 83, 84, 85, 86, 87, 39, 40, 41, 42, 43, 8, 9, 11, 88, 89, 90, 91, 92, 93, 94, 95, 96, 97, 98, 99, 100, 101, 102, 103, 104, 105, 106, 107, 108, 109, 110, 111, 112, 113, 114, 115, 116, 117, 118, 119, 120, 121, 122, 151, 152, 153, 144, 145, 146, 147, 148, 154, 155, 156, 157] (by decide +kernel) (by decide +kernel)
set_option maxRecDepth 20000 in
theorem gX8_share_X5_work : GoodIn wsX8_share (wsV RX8 175 RX5 yX5_work wsX5_work) := goodIn_app (goodIn_of _ (by decide +kernel)) ggX8_share_X5_work
set_option maxRecDepth 20000 in
theorem ggX8_share_X5_partFor : GoodIn wsX8_share wsX5_partFor := goodIn_r _ [126, 66, 151, 152, 153] (by decide +kernel) (by decide +kernel)
set_option maxRecDepth 20000 in
theorem gX8_share_X5_partFor : GoodIn wsX8_share (wsV RX8 178 RX5 yX5_partFor wsX5_partFor) := goodIn_app (goodIn_of _ (by decide +kernel)) ggX8_share_X5_partFor
set_option maxRecDepth 20000 in
theorem ggX8_share_X5_whole : GoodIn wsX8_share wsX5_whole := goodIn_r _ [130, 65, 151, 152, 153] (by decide +kernel) (by decide +kernel)
set_option maxRecDepth 20000 in
theorem gX8_share_X5_whole : GoodIn wsX8_share (wsV RX8 182 RX5 yX5_whole wsX5_whole) := goodIn_app (goodIn_of _ (by decide +kernel)) ggX8_share_X5_whole
set_option maxRecDepth 20000 in
theorem ggX8_share_X8_partOf : GoodIn wsX8_share wsX8_partOf := goodIn_r _ [133, 134, 135, 15, 136] (by decide +kernel) (by decide +kernel)
set_option maxRecDepth 20000 in
theorem gX8_share_X8_partOf : GoodIn wsX8_share (va_wsS RX8 186 yX8_partOf wsX8_partOf) := goodIn_app (goodIn_of _ (by decide +kernel)) ggX8_share_X8_partOf
set_option maxRecDepth 20000 in
theorem ggX8_end_X8_isFrom : GoodIn wsX8_end wsX8_isFrom := goodIn_r _ [9] (by decide +kernel) (by decide +kernel)
set_option maxRecDepth 20000 in
theorem gX8_end_X8_isFrom : GoodIn wsX8_end (va_wsS RX8 83 yX8_isFrom wsX8_isFrom) := goodIn_app (goodIn_of _ (by decide +kernel)) ggX8_end_X8_isFrom
set_option maxRecDepth 20000 in
theorem ggX8_end_X5_areThere : GoodIn wsX8_end wsX5_areThere := goodIn_r _ [14, 15, 16, 17, 18, 19, 20, 7, 8, 9, 21, 22, 23, 24, 25, 26, 27, 28, 29, 30, 31, 32, 33, 34, 35, 36, 37, 38, 39, 40, 41, 42, 43, 44, 45, 46, 47, 48, 49, 50, 51, 52, 53, 54, 55, 56, 57, 58, 151, 152, 153, 154, 155, 156, 157] (by decide +kernel) (by decide +kernel)
set_option maxRecDepth 20000 in
theorem gX8_end_X5_areThere : GoodIn wsX8_end (wsV RX8 169 RX5 yX5_areThere wsX5_areThere) := goodIn_app (goodIn_of _ (by decide +kernel)) ggX8_end_X5_areThere
set_option maxRecDepth 20000 in
theorem ggX8_end_X5_work : GoodIn wsX8_end wsX5_work := goodIn_r _ [62, 63, 64, 65, 66, 67, 68, 13, 69, 15, 16, 17, 18, 19, 20, 70, 71, 72, 73, 74, 75, 76, 77, 78, 79, 80, 81, 82, 83, 84, 85, 34, 35, 36, 37, 38, 39, 40, 41, 86, 87, 88, 89, 90, 91, 92, 93, 94, 95, 96, 97, 98, 99, 100, 101, 102, 103, 104, 105, 106, 107, 108, 109, 110, 111, 112, 113, 114, 115, 116, 117, 118, 119, 120, 158, 159, 160, 151, 152, 153, 154, 155, 161, 162, 163, 164] (by decide +kernel) (by decide +kernel)
set_option maxRecDepth 20000 in
theorem gX8_end_X5_work : GoodIn wsX8_end (wsV RX8 175 RX5 yX5_work wsX5_work) := goodIn_app (goodIn_of _ (by decide +kernel)) ggX8_end_X5_work
set_option maxRecDepth 20000 in
theorem ggX8_end_X5_sumWithThoughts : GoodIn wsX8_end wsX5_sumWithThoughts := goodIn_r _ [124, 15, 16, 17, 18, 19, 20, 125, 126, 127, 13, 128, 64, 129, 130, 131, 132, 133, 38, 39, 40, 41, 151, 152, 153, 154, 155, 158, 159, 160] (by decide +kernel) (by decide +kernel)
set_option maxRecDepth 20000 in
theorem gX8_end_X5_sumWithThoughts : GoodIn wsX8_end (wsV RX8 190 RX5 yX5_sumWithThoughts wsX5_sumWithThoughts) := goodIn_app (goodIn_of _ (by decide +kernel)) ggX8_end_X5_sumWithThoughts
set_option maxRecDepth 20000 in
theorem ggX8_end_X5_whole : GoodIn wsX8_end wsX5_whole := goodIn_r _ [137, 63, 158, 159, 160] (by decide +kernel) (by decide +kernel)
set_option maxRecDepth 20000 in
theorem gX8_end_X5_whole : GoodIn wsX8_end (wsV RX8 182 RX5 yX5_whole wsX5_whole) := goodIn_app (goodIn_of _ (by decide +kernel)) ggX8_end_X5_whole
set_option maxRecDepth 20000 in
theorem ggX8_end_X8_partOf : GoodIn wsX8_end wsX8_partOf := goodIn_r _ [140, 141, 142, 8, 143] (by decide +kernel) (by decide +kernel)
set_option maxRecDepth 20000 in
theorem gX8_end_X8_partOf : GoodIn wsX8_end (va_wsS RX8 186 yX8_partOf wsX8_partOf) := goodIn_app (goodIn_of _ (by decide +kernel)) ggX8_end_X8_partOf
set_option maxRecDepth 20000 in
theorem ggX8_rest_X2_has : GoodIn wsX8_rest wsX2_has := goodIn_r _ [11, 12, 172, 173, 174, 175, 176] (by decide +kernel) (by decide +kernel)
set_option maxRecDepth 20000 in
theorem gX8_rest_X2_has : GoodIn wsX8_rest (wsV RX8 66 RX2 yX2_has wsX2_has) := goodIn_app (goodIn_of _ (by decide +kernel)) ggX8_rest_X2_has
set_option maxRecDepth 20000 in
theorem ggX8_rest_X8_isFrom : GoodIn wsX8_rest wsX8_isFrom := goodIn_r _ [16] (by decide +kernel) (by decide +kernel)
set_option maxRecDepth 20000 in
theorem gX8_rest_X8_isFrom : GoodIn wsX8_rest (va_wsS RX8 83 yX8_isFrom wsX8_isFrom) := goodIn_app (goodIn_of _ (by decide +kernel)) ggX8_rest_X8_isFrom
set_option maxRecDepth 20000 in
theorem ggX8_rest_X3_isTold : GoodIn wsX8_rest wsX3_isTold := goodIn_r _ [21, 22, 23, 24, 10, 25, 12, 26, 27, 28, 29, 30, 31, 32, 33, 34, 35, 8, 9, 11, 14, 15, 16, 36, 37, 38, 39, 40, 41, 42, 43, 44, 45, 46, 47, 48, 49, 50, 51, 52, 53, 54, 55, 56, 57, 58, 59, 60, 61, 62, 63, 64, 65, 66, 67, 68, 69, 70, 71, 72, 73, 74, 75, 20, 76, 77, 172, 173, 174, 175, 176, 177, 178] (by decide +kernel) (by decide +kernel)
set_option maxRecDepth 20000 in
theorem gX8_rest_X3_isTold : GoodIn wsX8_rest (wsV RX8 194 RX3 yX3_isTold wsX3_isTold) := goodIn_app (goodIn_of _ (by decide +kernel)) ggX8_rest_X3_isTold
set_option maxRecDepth 20000 in
theorem ggX8_rest_X3_work : GoodIn wsX8_rest wsX3_work := goodIn_r _ [81, 82, 83, 84, 85, 86, 87, 88, 20, 89, 72, 43, 44, 10, 45, 12, 73, 31, 32, 33, 34, 35, 8, 9, 11, 90, 91, 92, 93, 94, 95, 96, 97, 98, 99, 100, 101, 102, 103, 104, 105, 106, 107, 108, 109, 110, 111, 112, 113, 52, 53, 54, 55, 114, 115, 116, 117, 118, 119, 120, 121, 122, 123, 124, 125, 126, 127, 128, 129, 130, 131, 132, 133, 134, 135, 136, 137, 138, 139, 140, 141, 142, 143, 144, 145, 146, 147, 148, 149, 150, 179, 180, 181, 182, 172, 173, 174, 175, 176, 183, 184, 185, 186] (by decide +kernel) (by decide +kernel)
set_option maxRecDepth 20000 in
theorem gX8_rest_X3_work : GoodIn wsX8_rest (wsV RX8 197 RX3 yX3_work wsX3_work) := goodIn_app (goodIn_of _ (by decide +kernel)) ggX8_rest_X3_work
set_option maxRecDepth 20000 in
theorem ggX8_rest_X3_upperOf : GoodIn wsX8_rest wsX3_upperOf := goodIn_r _ [154, 84, 179, 180, 181, 182] (by decide +kernel) (by decide +kernel)
set_option maxRecDepth 20000 in
theorem gX8_rest_X3_upperOf : GoodIn wsX8_rest (wsV RX8 198 RX3 yX3_upperOf wsX3_upperOf) := goodIn_app (goodIn_of _ (by decide +kernel)) ggX8_rest_X3_upperOf
set_option maxRecDepth 20000 in
theorem ggX8_rest_X3_lowerOfAll : GoodIn wsX8_rest wsX3_lowerOfAll := goodIn_r _ [158, 83, 179, 180, 181, 182] (by decide +kernel) (by decide +kernel)
set_option maxRecDepth 20000 in
theorem gX8_rest_X3_lowerOfAll : GoodIn wsX8_rest (wsV RX8 201 RX3 yX3_lowerOfAll wsX3_lowerOfAll) := goodIn_app (goodIn_of _ (by decide +kernel)) ggX8_rest_X3_lowerOfAll
set_option maxRecDepth 20000 in
theorem ggX8_rest_X8_partOf : GoodIn wsX8_rest wsX8_partOf := goodIn_r _ [161, 162, 163, 15, 164] (by decide +kernel) (by decide +kernel)
set_option maxRecDepth 20000 in
theorem gX8_rest_X8_partOf : GoodIn wsX8_rest (va_wsS RX8 186 yX8_partOf wsX8_partOf) := goodIn_app (goodIn_of _ (by decide +kernel)) ggX8_rest_X8_partOf
set_option maxRecDepth 20000 in
theorem ggX8_pull_X8_isThought : GoodIn wsX8_pull wsX8_isThought := goodIn_r _ [7, 8, 9, 6, 10] (by decide +kernel) (by decide +kernel)
set_option maxRecDepth 20000 in
theorem gX8_pull_X8_isThought : GoodIn wsX8_pull (va_wsS RX8 58 yX8_isThought wsX8_isThought) := goodIn_app (goodIn_of _ (by decide +kernel)) ggX8_pull_X8_isThought
set_option maxRecDepth 20000 in
theorem ggX8_pull_X3_isTold : GoodIn wsX8_pull wsX3_isTold := goodIn_r _ [15, 16, 17, 18, 19, 20, 21, 22, 23, 24, 25, 26, 27, 28, 29, 30, 31, 32, 33, 34, 9, 6, 10, 35, 36, 37, 38, 39, 40, 41, 42, 43, 44, 45, 46, 47, 48, 49, 50, 51, 52, 53, 54, 55, 56, 57, 58, 59, 60, 61, 62, 63, 64, 65, 66, 67, 68, 69, 70, 71, 72, 73, 74, 14, 75, 76, 192, 193, 194, 195, 196, 197, 198] (by decide +kernel) (by decide +kernel)
set_option maxRecDepth 20000 in
theorem gX8_pull_X3_isTold : GoodIn wsX8_pull (wsV RX8 194 RX3 yX3_isTold wsX3_isTold) := goodIn_app (goodIn_of _ (by decide +kernel)) ggX8_pull_X3_isTold
set_option maxRecDepth 20000 in
theorem ggX8_pull_X2_countMoving : GoodIn wsX8_pull wsX2_countMoving := goodIn_r _ [20, 21, 22, 23, 24, 19, 25, 26, 27, 28, 29, 30, 31, 32, 33, 34, 192, 193, 194, 195, 196] (by decide +kernel) (by decide +kernel)
set_option maxRecDepth 20000 in
theorem gX8_pull_X2_countMoving : GoodIn wsX8_pull (wsV RX8 204 RX2 yX2_countMoving wsX2_countMoving) := goodIn_app (goodIn_of _ (by decide +kernel)) ggX8_pull_X2_countMoving
set_option maxRecDepth 20000 in
theorem ggX8_pull_X2_size : GoodIn wsX8_pull wsX2_size := goodIn_r _ [44, 21, 192, 193, 194, 195, 196] (by decide +kernel) (by decide +kernel)
set_option maxRecDepth 20000 in
theorem gX8_pull_X2_size : GoodIn wsX8_pull (wsV RX8 124 RX2 yX2_size wsX2_size) := goodIn_app (goodIn_of _ (by decide +kernel)) ggX8_pull_X2_size
set_option maxRecDepth 20000 in
theorem ggX8_pull_X2_isStubborn : GoodIn wsX8_pull wsX2_isStubborn := goodIn_r _ [29, 30, 31, 32, 33, 19, 34, 21, 192, 193, 194, 195, 196] (by decide +kernel) (by decide +kernel)
set_option maxRecDepth 20000 in
theorem gX8_pull_X2_isStubborn : GoodIn wsX8_pull (wsV RX8 76 RX2 yX2_isStubborn wsX2_isStubborn) := goodIn_app (goodIn_of _ (by decide +kernel)) ggX8_pull_X2_isStubborn
set_option maxRecDepth 20000 in
theorem ggX8_pull_X8_workAsIfHeld : GoodIn wsX8_pull wsX8_workAsIfHeld := goodIn_r _ [83, 2, 1, 84, 85, 86, 19, 87, 88, 31, 32, 33, 34, 21, 89, 90, 91, 92, 93, 94, 95, 96, 30, 97, 98, 99, 14, 100, 101, 102, 103, 104, 105, 106, 107, 108, 71, 42, 43, 44, 72, 27, 28, 29, 109, 110, 111, 112, 113, 114, 115, 116, 117, 118, 119, 120, 121, 122, 123, 124, 125, 126, 127, 128, 129, 130, 131, 132, 51, 52, 53, 54, 133, 134, 135, 136, 137, 138, 139, 140, 141, 142, 143, 144, 145, 146, 147, 148, 149, 150, 151, 152, 153, 154, 155, 156, 157, 158, 159, 160, 161, 162, 163, 164, 165, 185, 186, 187, 188, 189, 190, 191, 192, 193, 194, 195, 196, 199, 200, 201, 202, 203, 204, 205, 206] (by decide +kernel) (by decide +kernel)
set_option maxRecDepth 20000 in
theorem gX8_pull_X8_workAsIfHeld : GoodIn wsX8_pull (wsV RX8 207 RX8 yX8_workAsIfHeld wsX8_workAsIfHeld) := goodIn_app (goodIn_of _ (by decide +kernel)) ggX8_pull_X8_workAsIfHeld
set_option maxRecDepth 20000 in
theorem ggX8_pull_X3_sumOfUppers : GoodIn wsX8_pull wsX3_sumOfUppers := goodIn_r _ [169, 71, 42, 43, 19, 44, 21, 170, 171, 172, 14, 173, 103, 192, 193, 194, 195, 196, 199, 200, 201, 202] (by decide +kernel) (by decide +kernel)
set_option maxRecDepth 20000 in
theorem gX8_pull_X3_sumOfUppers : GoodIn wsX8_pull (wsV RX8 210 RX3 yX3_sumOfUppers wsX3_sumOfUppers) := goodIn_app (goodIn_of _ (by decide +kernel)) ggX8_pull_X3_sumOfUppers
set_option maxRecDepth 20000 in
theorem ggX8_pull_X3_lowerOfAll : GoodIn wsX8_pull wsX3_lowerOfAll := goodIn_r _ [177, 102, 199, 200, 201, 202] (by decide +kernel) (by decide +kernel)
set_option maxRecDepth 20000 in
theorem gX8_pull_X3_lowerOfAll : GoodIn wsX8_pull (wsV RX8 201 RX3 yX3_lowerOfAll wsX3_lowerOfAll) := goodIn_app (goodIn_of _ (by decide +kernel)) ggX8_pull_X3_lowerOfAll
set_option maxRecDepth 20000 in
theorem ggX8_pull_X8_compareFractions : GoodIn wsX8_pull wsX8_compareFractions := goodIn_r _ [180, 181, 182, 183, 184] (by decide +kernel) (by decide +kernel)
set_option maxRecDepth 20000 in
theorem gX8_pull_X8_compareFractions : GoodIn wsX8_pull (va_wsS RX8 213 yX8_compareFractions wsX8_compareFractions) := goodIn_app (goodIn_of _ (by decide +kernel)) ggX8_pull_X8_compareFractions
set_option maxRecDepth 20000 in
theorem ggX8_talk_X2_has : GoodIn wsX8_talk wsX2_has := goodIn_r _ [10, 11, 29, 30, 31, 32, 33] (by decide +kernel) (by decide +kernel)
set_option maxRecDepth 20000 in
theorem gX8_talk_X2_has : GoodIn wsX8_talk (wsV RX8 66 RX2 yX2_has wsX2_has) := goodIn_app (goodIn_of _ (by decide +kernel)) ggX8_talk_X2_has
set_option maxRecDepth 20000 in
theorem ggX8_talk_X2_thoughtOf : GoodIn wsX8_talk wsX2_thoughtOf := goodIn_r _ [15, 16, 17, 7, 8, 9, 10, 11, 29, 30, 31, 32, 33] (by decide +kernel) (by decide +kernel)
set_option maxRecDepth 20000 in
theorem gX8_talk_X2_thoughtOf : GoodIn wsX8_talk (wsV RX8 69 RX2 yX2_thoughtOf wsX2_thoughtOf) := goodIn_app (goodIn_of _ (by decide +kernel)) ggX8_talk_X2_thoughtOf
set_option maxRecDepth 20000 in
theorem ggX8_talk_X2_rethink : GoodIn wsX8_talk wsX2_rethink := goodIn_r _ [21, 16, 17, 7, 8, 9, 10, 11, 29, 30, 31, 32, 33] (by decide +kernel) (by decide +kernel)
set_option maxRecDepth 20000 in
theorem gX8_talk_X2_rethink : GoodIn wsX8_talk (wsV RX8 72 RX2 yX2_rethink wsX2_rethink) := goodIn_app (goodIn_of _ (by decide +kernel)) ggX8_talk_X2_rethink
set_option maxRecDepth 20000 in
theorem ggX8_fewest_X8_isFrom : GoodIn wsX8_fewest wsX8_isFrom := goodIn_r _ [6] (by decide +kernel) (by decide +kernel)
set_option maxRecDepth 20000 in
theorem gX8_fewest_X8_isFrom : GoodIn wsX8_fewest (va_wsS RX8 83 yX8_isFrom wsX8_isFrom) := goodIn_app (goodIn_of _ (by decide +kernel)) ggX8_fewest_X8_isFrom
set_option maxRecDepth 20000 in
theorem ggX8_fewest_X8_isThought : GoodIn wsX8_fewest wsX8_isThought := goodIn_r _ [9, 3, 4, 5, 6] (by decide +kernel) (by decide +kernel)
set_option maxRecDepth 20000 in
theorem gX8_fewest_X8_isThought : GoodIn wsX8_fewest (va_wsS RX8 58 yX8_isThought wsX8_isThought) := goodIn_app (goodIn_of _ (by decide +kernel)) ggX8_fewest_X8_isThought
set_option maxRecDepth 20000 in
theorem ggX8_fewest_X2_size : GoodIn wsX8_fewest wsX2_size := goodIn_r _ [14, 15, 99, 100, 101, 102, 103] (by decide +kernel) (by decide +kernel)
set_option maxRecDepth 20000 in
theorem gX8_fewest_X2_size : GoodIn wsX8_fewest (wsV RX8 124 RX2 yX2_size wsX2_size) := goodIn_app (goodIn_of _ (by decide +kernel)) ggX8_fewest_X2_size
set_option maxRecDepth 20000 in
theorem ggX8_fewest_X7_lookFor : GoodIn wsX8_fewest wsX7_lookFor := goodIn_r _ [20, 21, 22, 23, 24, 25, 26, 27, 19, 28, 29, 30, 31, 32, 33, 34, 35, 36, 37, 13, 38, 39, 40, 41, 42, 43, 15, 44, 45, 46, 47, 48, 49, 50, 51, 52, 53, 54, 55, 56, 57, 58, 59, 60, 61, 62, 63, 64, 65, 66, 67, 68, 69, 70, 71, 72, 73, 74, 75, 76, 77, 78, 79, 80, 81, 82, 83, 84, 85, 86, 87, 88, 89, 90, 91, 104, 105, 106, 107, 108, 109, 99, 100, 101, 102, 103] (by decide +kernel) (by decide +kernel)
set_option maxRecDepth 20000 in
theorem gX8_fewest_X7_lookFor : GoodIn wsX8_fewest (wsV RX8 222 RX7 yX7_lookFor wsX7_lookFor) := goodIn_app (goodIn_of _ (by decide +kernel)) ggX8_fewest_X7_lookFor
set_option maxRecDepth 20000 in
theorem ggX8_found_X7_countKinds : GoodIn wsX8_found wsX7_countKinds := goodIn_r _ [6, 7, 15, 16, 17, 18, 19, 20] (by decide +kernel) (by decide +kernel)
set_option maxRecDepth 20000 in
theorem gX8_found_X7_countKinds : GoodIn wsX8_found (wsV RX8 226 RX7 yX7_countKinds wsX7_countKinds) := goodIn_app (goodIn_of _ (by decide +kernel)) ggX8_found_X7_countKinds
set_option maxRecDepth 20000 in
theorem ggX8_isThought_X8_isFrom : GoodIn wsX8_isThought wsX8_isFrom := goodIn_r _ [4] (by decide +kernel) (by decide +kernel)
set_option maxRecDepth 20000 in
theorem gX8_isThought_X8_isFrom : GoodIn wsX8_isThought (va_wsS RX8 83 yX8_isFrom wsX8_isFrom) := goodIn_app (goodIn_of _ (by decide +kernel)) ggX8_isThought_X8_isFrom
set_option maxRecDepth 20000 in
theorem ggX8_countGroups_X1_followHanging : GoodIn wsX8_countGroups wsX1_followHanging := goodIn_r _ [7, 8, 9, 10, 11, 12, 13, 14, 15, 16, 17, 6, 18, 19, 20, 21, 22, 23, 24, 25, 26, 27, 28, 29, 30, 31, 32, 33, 34, 35, 36, 37, 38, 39, 40, 41, 42, 43, 44, 45, 46, 47, 48, 49, 50, 51, 52, 53, 54, 71, 72, 73, 74, 75, 76, 77] (by decide +kernel) (by decide +kernel)
set_option maxRecDepth 20000 in
theorem gX8_countGroups_X1_followHanging : GoodIn wsX8_countGroups (wsV RX8 114 RX1 yX1_followHanging wsX1_followHanging) := goodIn_app (goodIn_of _ (by decide +kernel)) ggX8_countGroups_X1_followHanging
set_option maxRecDepth 20000 in
theorem ggX8_countGroups_X2_size : GoodIn wsX8_countGroups wsX2_size := goodIn_r _ [13, 14, 73, 74, 75, 76, 77] (by decide +kernel) (by decide +kernel)
set_option maxRecDepth 20000 in
theorem gX8_countGroups_X2_size : GoodIn wsX8_countGroups (wsV RX8 124 RX2 yX2_size wsX2_size) := goodIn_app (goodIn_of _ (by decide +kernel)) ggX8_countGroups_X2_size
set_option maxRecDepth 20000 in
theorem ggX8_countGroups_X1_countFirsts : GoodIn wsX8_countGroups wsX1_countFirsts := goodIn_r _ [59, 8, 60, 61, 62, 6, 63, 51, 52, 53, 54, 19, 43, 44, 45, 46, 71, 72] (by decide +kernel) (by decide +kernel)
set_option maxRecDepth 20000 in
theorem gX8_countGroups_X1_countFirsts : GoodIn wsX8_countGroups (wsV RX8 121 RX1 yX1_countFirsts wsX1_countFirsts) := goodIn_app (goodIn_of _ (by decide +kernel)) ggX8_countGroups_X1_countFirsts
set_option maxRecDepth 20000 in
theorem ggX8_workAsIfHeld_X2_thoughtOf : GoodIn wsX8_workAsIfHeld wsX2_thoughtOf := goodIn_r _ [7, 8, 9, 10, 11, 6, 12, 13, 112, 113, 114, 115, 116] (by decide +kernel) (by decide +kernel)
set_option maxRecDepth 20000 in
theorem gX8_workAsIfHeld_X2_thoughtOf : GoodIn wsX8_workAsIfHeld (wsV RX8 69 RX2 yX2_thoughtOf wsX2_thoughtOf) := goodIn_app (goodIn_of _ (by decide +kernel)) ggX8_workAsIfHeld_X2_thoughtOf
set_option maxRecDepth 20000 in
theorem ggX8_workAsIfHeld_X2_rethink : GoodIn wsX8_workAsIfHeld wsX2_rethink := goodIn_r _ [17, 8, 9, 10, 11, 6, 12, 13, 112, 113, 114, 115, 116] (by decide +kernel) (by decide +kernel)
set_option maxRecDepth 20000 in
theorem gX8_workAsIfHeld_X2_rethink : GoodIn wsX8_workAsIfHeld (wsV RX8 72 RX2 yX2_rethink wsX2_rethink) := goodIn_app (goodIn_of _ (by decide +kernel)) ggX8_workAsIfHeld_X2_rethink
set_option maxRecDepth 20000 in
theorem ggX8_workAsIfHeld_X2_makeStubborn : GoodIn wsX8_workAsIfHeld wsX2_makeStubborn := goodIn_r _ [21, 22, 9, 10, 11, 6, 12, 13, 112, 113, 114, 115, 116] (by decide +kernel) (by decide +kernel)
set_option maxRecDepth 20000 in
theorem gX8_workAsIfHeld_X2_makeStubborn : GoodIn wsX8_workAsIfHeld (wsV RX8 79 RX2 yX2_makeStubborn wsX2_makeStubborn) := goodIn_app (goodIn_of _ (by decide +kernel)) ggX8_workAsIfHeld_X2_makeStubborn
set_option maxRecDepth 20000 in
theorem ggX8_workAsIfHeld_X3_work : GoodIn wsX8_workAsIfHeld wsX3_work := goodIn_r _ [27, 28, 29, 30, 31, 32, 33, 34, 26, 35, 36, 37, 38, 6, 39, 13, 40, 41, 42, 43, 22, 9, 10, 11, 12, 44, 45, 46, 47, 48, 49, 50, 51, 52, 53, 54, 55, 56, 57, 58, 59, 60, 61, 62, 63, 64, 65, 66, 67, 68, 69, 70, 71, 72, 73, 74, 75, 76, 77, 78, 79, 80, 4, 5, 7, 8, 81, 82, 83, 84, 85, 86, 87, 88, 89, 90, 91, 92, 93, 94, 95, 96, 97, 98, 99, 100, 101, 102, 103, 104, 117, 118, 119, 120, 112, 113, 114, 115, 116, 121, 122, 123, 124] (by decide +kernel) (by decide +kernel)
set_option maxRecDepth 20000 in
theorem gX8_workAsIfHeld_X3_work : GoodIn wsX8_workAsIfHeld (wsV RX8 197 RX3 yX3_work wsX3_work) := goodIn_app (goodIn_of _ (by decide +kernel)) ggX8_workAsIfHeld_X3_work
set_option maxRecDepth 20000 in
theorem ggX8_partOf_X8_commonDivisor : GoodIn wsX8_partOf wsX8_commonDivisor := goodIn_r _ [4] (by decide +kernel) (by decide +kernel)
set_option maxRecDepth 20000 in
theorem gX8_partOf_X8_commonDivisor : GoodIn wsX8_partOf (va_wsS RX8 229 yX8_commonDivisor wsX8_commonDivisor) := goodIn_app (goodIn_of _ (by decide +kernel)) ggX8_partOf_X8_commonDivisor
set_option maxRecDepth 20000 in
theorem ggX8_compareFractions_J13_compare_74951 : GoodIn wsX8_compareFractions wsJ13_compare_74951 := goodIn_r _ [4] (by decide +kernel) (by decide +kernel)
set_option maxRecDepth 20000 in
theorem gX8_compareFractions_J13_compare_74951 : GoodIn wsX8_compareFractions (va_wsS RX8 233 yJ13_compare_74951 wsJ13_compare_74951) := goodIn_app (goodIn_of _ (by decide +kernel)) ggX8_compareFractions_J13_compare_74951
set_option maxRecDepth 20000 in
theorem ggX9_isOne_X9_in : GoodIn wsX9_isOne wsX9_in := goodIn_r _ [5] (by decide +kernel) (by decide +kernel)
set_option maxRecDepth 20000 in
theorem gX9_isOne_X9_in : GoodIn wsX9_isOne (va_wsS RX9 61 yX9_in wsX9_in) := goodIn_app (goodIn_of _ (by decide +kernel)) ggX9_isOne_X9_in
set_option maxRecDepth 20000 in
theorem ggX9_one_X9_in : GoodIn wsX9_one wsX9_in := goodIn_r _ [8] (by decide +kernel) (by decide +kernel)
set_option maxRecDepth 20000 in
theorem gX9_one_X9_in : GoodIn wsX9_one (va_wsS RX9 61 yX9_in wsX9_in) := goodIn_app (goodIn_of _ (by decide +kernel)) ggX9_one_X9_in
set_option maxRecDepth 20000 in
theorem ggX9_think_X9_isOne : GoodIn wsX9_think wsX9_isOne := goodIn_r _ [7, 8, 9, 10, 6, 11, 12, 13, 14, 15, 16, 17, 18, 19, 20, 21, 22, 23, 24, 25, 26, 27, 28, 29, 30, 31, 32, 33, 34] (by decide +kernel) (by decide +kernel)
set_option maxRecDepth 20000 in
theorem gX9_think_X9_isOne : GoodIn wsX9_think (wsV RX9 67 RX9 yX9_isOne wsX9_isOne) := goodIn_app (goodIn_of _ (by decide +kernel)) ggX9_think_X9_isOne
set_option maxRecDepth 20000 in
theorem ggX9_think_X9_in : GoodIn wsX9_think wsX9_in := goodIn_r _ [11] (by decide +kernel) (by decide +kernel)
set_option maxRecDepth 20000 in
theorem gX9_think_X9_in : GoodIn wsX9_think (va_wsS RX9 61 yX9_in wsX9_in) := goodIn_app (goodIn_of _ (by decide +kernel)) ggX9_think_X9_in
set_option maxRecDepth 20000 in
theorem ggX9_stubborn_X9_isOne : GoodIn wsX9_stubborn wsX9_isOne := goodIn_r _ [6, 7, 8, 9, 5, 10, 11, 12, 13, 14, 15, 16, 17, 18, 19, 20, 21, 22, 23, 24, 25, 26, 27, 28, 29, 30, 31, 32, 33] (by decide +kernel) (by decide +kernel)
set_option maxRecDepth 20000 in
theorem gX9_stubborn_X9_isOne : GoodIn wsX9_stubborn (wsV RX9 67 RX9 yX9_isOne wsX9_isOne) := goodIn_app (goodIn_of _ (by decide +kernel)) ggX9_stubborn_X9_isOne
set_option maxRecDepth 20000 in
theorem ggX9_weight_X9_isOne : GoodIn wsX9_weight wsX9_isOne := goodIn_r _ [7, 8, 9, 10, 6, 11, 16, 17, 18, 19, 20, 21, 22, 23, 24, 25, 26, 27, 28, 29, 30, 31, 32, 33, 34, 35, 36, 37, 38] (by decide +kernel) (by decide +kernel)
set_option maxRecDepth 20000 in
theorem gX9_weight_X9_isOne : GoodIn wsX9_weight (wsV RX9 67 RX9 yX9_isOne wsX9_isOne) := goodIn_app (goodIn_of _ (by decide +kernel)) ggX9_weight_X9_isOne
set_option maxRecDepth 20000 in
theorem ggX9_weight_X9_in : GoodIn wsX9_weight wsX9_in := goodIn_r _ [11] (by decide +kernel) (by decide +kernel)
set_option maxRecDepth 20000 in
theorem gX9_weight_X9_in : GoodIn wsX9_weight (va_wsS RX9 61 yX9_in wsX9_in) := goodIn_app (goodIn_of _ (by decide +kernel)) ggX9_weight_X9_in
set_option maxRecDepth 20000 in
theorem ggX9_weight_X9_weightOf : GoodIn wsX9_weight wsX9_weightOf := goodIn_r _ [15, 2, 16, 17, 18, 19, 20, 21, 22, 23, 24, 25, 26, 27, 28, 29, 30, 31, 32, 33, 34, 35, 36, 37, 38] (by decide +kernel) (by decide +kernel)
set_option maxRecDepth 20000 in
theorem gX9_weight_X9_weightOf : GoodIn wsX9_weight (wsV RX9 73 RX9 yX9_weightOf wsX9_weightOf) := goodIn_app (goodIn_of _ (by decide +kernel)) ggX9_weight_X9_weightOf
set_option maxRecDepth 20000 in
theorem ggX9_ear_X9_in : GoodIn wsX9_ear wsX9_in := goodIn_r _ [6] (by decide +kernel) (by decide +kernel)
set_option maxRecDepth 20000 in
theorem gX9_ear_X9_in : GoodIn wsX9_ear (va_wsS RX9 61 yX9_in wsX9_in) := goodIn_app (goodIn_of _ (by decide +kernel)) ggX9_ear_X9_in
set_option maxRecDepth 20000 in
theorem ggX9_hears_X9_weightOf : GoodIn wsX9_hears wsX9_weightOf := goodIn_r _ [7, 8, 12, 13, 14, 15, 16, 17, 18, 19, 20, 21, 22, 23, 24, 25, 26, 27, 28, 29, 30, 31, 32, 33, 34] (by decide +kernel) (by decide +kernel)
set_option maxRecDepth 20000 in
theorem gX9_hears_X9_weightOf : GoodIn wsX9_hears (wsV RX9 73 RX9 yX9_weightOf wsX9_weightOf) := goodIn_app (goodIn_of _ (by decide +kernel)) ggX9_hears_X9_weightOf
set_option maxRecDepth 20000 in
theorem ggX9_hears_X9_size : GoodIn wsX9_hears wsX9_size := goodIn_r _ [11] (by decide +kernel) (by decide +kernel)
set_option maxRecDepth 20000 in
theorem gX9_hears_X9_size : GoodIn wsX9_hears (va_wsS RX9 77 yX9_size wsX9_size) := goodIn_app (goodIn_of _ (by decide +kernel)) ggX9_hears_X9_size
set_option maxRecDepth 20000 in
theorem ggX9_round_X9_hears : GoodIn wsX9_round wsX9_hears := goodIn_r _ [9, 2, 10, 11, 12, 13, 8, 14, 15, 16, 17, 18, 19, 20, 21, 22, 23, 24, 25, 26, 27, 28, 29, 30, 31, 32, 33, 34, 35, 36, 37, 38, 39, 40, 41] (by decide +kernel) (by decide +kernel)
set_option maxRecDepth 20000 in
theorem gX9_round_X9_hears : GoodIn wsX9_round (wsV RX9 81 RX9 yX9_hears wsX9_hears) := goodIn_app (goodIn_of _ (by decide +kernel)) ggX9_round_X9_hears
set_option maxRecDepth 20000 in
theorem ggX9_round_X9_weightOf : GoodIn wsX9_round wsX9_weightOf := goodIn_r _ [14, 15, 19, 20, 21, 22, 23, 24, 25, 26, 27, 28, 29, 30, 31, 32, 33, 34, 35, 36, 37, 38, 39, 40, 41] (by decide +kernel) (by decide +kernel)
set_option maxRecDepth 20000 in
theorem gX9_round_X9_weightOf : GoodIn wsX9_round (wsV RX9 73 RX9 yX9_weightOf wsX9_weightOf) := goodIn_app (goodIn_of _ (by decide +kernel)) ggX9_round_X9_weightOf
set_option maxRecDepth 20000 in
theorem ggX9_rounds_X9_in : GoodIn wsX9_rounds wsX9_in := goodIn_r _ [5] (by decide +kernel) (by decide +kernel)
set_option maxRecDepth 20000 in
theorem gX9_rounds_X9_in : GoodIn wsX9_rounds (va_wsS RX9 61 yX9_in wsX9_in) := goodIn_app (goodIn_of _ (by decide +kernel)) ggX9_rounds_X9_in
set_option maxRecDepth 20000 in
theorem ggX9_rounds_X9_round : GoodIn wsX9_rounds wsX9_round := goodIn_r _ [9, 10, 11, 12, 13, 14, 15, 16, 4, 17, 18, 19, 20, 21, 22, 23, 24, 25, 26, 27, 28, 29, 30, 31, 32, 33, 34, 35, 36, 37, 38, 39, 40, 41, 42, 43, 44, 45, 46, 47, 48, 49] (by decide +kernel) (by decide +kernel)
set_option maxRecDepth 20000 in
theorem gX9_rounds_X9_round : GoodIn wsX9_rounds (wsV RX9 87 RX9 yX9_round wsX9_round) := goodIn_app (goodIn_of _ (by decide +kernel)) ggX9_rounds_X9_round
set_option maxRecDepth 20000 in
theorem ggX9_settles_X9_round : GoodIn wsX9_settles wsX9_round := goodIn_r _ [5, 6, 7, 8, 9, 10, 11, 12, 4, 13, 14, 15, 16, 17, 18, 19, 20, 21, 22, 23, 24, 25, 26, 27, 28, 29, 30, 31, 32, 33, 34, 35, 36, 37, 38, 39, 40, 41, 42, 43, 44, 45] (by decide +kernel) (by decide +kernel)
set_option maxRecDepth 20000 in
theorem gX9_settles_X9_round : GoodIn wsX9_settles (wsV RX9 87 RX9 yX9_round wsX9_round) := goodIn_app (goodIn_of _ (by decide +kernel)) ggX9_settles_X9_round
set_option maxRecDepth 20000 in
theorem ggX9_settle_X9_settles : GoodIn wsX9_settle wsX9_settles := goodIn_r _ [5, 6, 7, 8, 4, 9, 10, 11, 12, 13, 14, 15, 16, 17, 18, 19, 20, 21, 22, 23, 24, 25, 26, 27, 28, 29, 30, 31, 32, 33, 34, 35, 36, 37, 38, 39, 40, 41, 42, 43, 44, 45, 46, 47, 48, 49] (by decide +kernel) (by decide +kernel)
set_option maxRecDepth 20000 in
theorem gX9_settle_X9_settles : GoodIn wsX9_settle (wsV RX9 91 RX9 yX9_settles wsX9_settles) := goodIn_app (goodIn_of _ (by decide +kernel)) ggX9_settle_X9_settles
set_option maxRecDepth 20000 in
theorem ggX9_findGroups_X9_hears : GoodIn wsX9_findGroups wsX9_hears := goodIn_r _ [7, 8, 9, 10, 11, 12, 6, 13, 14, 15, 16, 17, 18, 19, 20, 21, 22, 23, 24, 25, 26, 27, 28, 29, 30, 31, 32, 33, 34, 35, 36, 37, 38, 39, 40] (by decide +kernel) (by decide +kernel)
set_option maxRecDepth 20000 in
theorem gX9_findGroups_X9_hears : GoodIn wsX9_findGroups (wsV RX9 81 RX9 yX9_hears wsX9_hears) := goodIn_app (goodIn_of _ (by decide +kernel)) ggX9_findGroups_X9_hears
set_option maxRecDepth 20000 in
theorem ggX9_about_X9_isOne : GoodIn wsX9_about wsX9_isOne := goodIn_r _ [9, 3, 10, 11, 8, 12, 30, 31, 32, 33, 34, 35, 36, 37, 38, 39, 40, 41, 42, 43, 44, 45, 46, 47, 48, 49, 50, 51, 52] (by decide +kernel) (by decide +kernel)
set_option maxRecDepth 20000 in
theorem gX9_about_X9_isOne : GoodIn wsX9_about (wsV RX9 67 RX9 yX9_isOne wsX9_isOne) := goodIn_app (goodIn_of _ (by decide +kernel)) ggX9_about_X9_isOne
set_option maxRecDepth 20000 in
theorem ggX9_about_X9_hears : GoodIn wsX9_about wsX9_hears := goodIn_r _ [16, 1, 17, 18, 19, 20, 8, 21, 22, 23, 24, 25, 30, 31, 32, 33, 34, 35, 36, 37, 38, 39, 40, 41, 42, 43, 44, 45, 46, 47, 48, 49, 50, 51, 52] (by decide +kernel) (by decide +kernel)
set_option maxRecDepth 20000 in
theorem gX9_about_X9_hears : GoodIn wsX9_about (wsV RX9 81 RX9 yX9_hears wsX9_hears) := goodIn_app (goodIn_of _ (by decide +kernel)) ggX9_about_X9_hears
set_option maxRecDepth 20000 in
theorem ggX9_about_X9_findGroups : GoodIn wsX9_about wsX9_findGroups := goodIn_r _ [29, 3, 4, 13, 14, 15, 8, 16, 1, 17, 18, 19, 20, 21, 22, 23, 24, 25, 30, 31, 32, 33, 34, 35, 36, 37, 38, 39, 40, 41, 42, 43, 44, 45, 46, 47, 48, 49, 50, 51, 52] (by decide +kernel) (by decide +kernel)
set_option maxRecDepth 20000 in
theorem gX9_about_X9_findGroups : GoodIn wsX9_about (wsV RX9 95 RX9 yX9_findGroups wsX9_findGroups) := goodIn_app (goodIn_of _ (by decide +kernel)) ggX9_about_X9_findGroups
set_option maxRecDepth 20000 in
theorem ggX9_told_X9_findGroups : GoodIn wsX9_told wsX9_findGroups := goodIn_r _ [9, 1, 10, 11, 12, 13, 8, 14, 3, 2, 15, 16, 17, 18, 19, 20, 21, 22, 27, 28, 29, 30, 31, 32, 33, 34, 35, 36, 37, 38, 39, 40, 41, 42, 43, 44, 45, 46, 47, 48, 49] (by decide +kernel) (by decide +kernel)
set_option maxRecDepth 20000 in
theorem gX9_told_X9_findGroups : GoodIn wsX9_told (wsV RX9 95 RX9 yX9_findGroups wsX9_findGroups) := goodIn_app (goodIn_of _ (by decide +kernel)) ggX9_told_X9_findGroups
set_option maxRecDepth 20000 in
theorem ggX9_told_X9_spreadOf : GoodIn wsX9_told wsX9_spreadOf := goodIn_r _ [26, 3, 27, 28, 29, 30, 31, 32, 33, 34, 35, 36, 37, 38, 39, 40, 41, 42, 43, 44, 45, 46, 47, 48, 49] (by decide +kernel) (by decide +kernel)
set_option maxRecDepth 20000 in
theorem gX9_told_X9_spreadOf : GoodIn wsX9_told (wsV RX9 98 RX9 yX9_spreadOf wsX9_spreadOf) := goodIn_app (goodIn_of _ (by decide +kernel)) ggX9_told_X9_spreadOf
set_option maxRecDepth 20000 in
theorem ggX9_told_X9_size : GoodIn wsX9_told wsX9_size := goodIn_r _ [22] (by decide +kernel) (by decide +kernel)
set_option maxRecDepth 20000 in
theorem gX9_told_X9_size : GoodIn wsX9_told (va_wsS RX9 77 yX9_size wsX9_size) := goodIn_app (goodIn_of _ (by decide +kernel)) ggX9_told_X9_size
set_option maxRecDepth 20000 in
theorem ggX9_width_X9_in : GoodIn wsX9_width wsX9_in := goodIn_r _ [10] (by decide +kernel) (by decide +kernel)
set_option maxRecDepth 20000 in
theorem gX9_width_X9_in : GoodIn wsX9_width (va_wsS RX9 61 yX9_in wsX9_in) := goodIn_app (goodIn_of _ (by decide +kernel)) ggX9_width_X9_in
set_option maxRecDepth 20000 in
theorem ggX9_width_X9_settles : GoodIn wsX9_width wsX9_settles := goodIn_r _ [14, 15, 16, 17, 9, 18, 4, 6, 19, 20, 21, 22, 23, 24, 3, 25, 26, 27, 28, 29, 30, 31, 32, 38, 39, 40, 41, 42, 43, 44, 45, 46, 47, 48, 49, 50, 51, 52, 53, 54, 55, 56, 57, 58, 59, 60] (by decide +kernel) (by decide +kernel)
set_option maxRecDepth 20000 in
theorem gX9_width_X9_settles : GoodIn wsX9_width (wsV RX9 91 RX9 yX9_settles wsX9_settles) := goodIn_app (goodIn_of _ (by decide +kernel)) ggX9_width_X9_settles
set_option maxRecDepth 20000 in
theorem ggX9_width_X9_findGroups : GoodIn wsX9_width wsX9_findGroups := goodIn_r _ [36, 4, 37, 21, 22, 23, 9, 24, 6, 3, 25, 26, 27, 28, 29, 30, 31, 32, 38, 39, 40, 41, 42, 43, 44, 45, 46, 47, 48, 49, 50, 51, 52, 53, 54, 55, 56, 57, 58, 59, 60] (by decide +kernel) (by decide +kernel)
set_option maxRecDepth 20000 in
theorem gX9_width_X9_findGroups : GoodIn wsX9_width (wsV RX9 95 RX9 yX9_findGroups wsX9_findGroups) := goodIn_app (goodIn_of _ (by decide +kernel)) ggX9_width_X9_findGroups
set_option maxRecDepth 20000 in
theorem ggX9_findLed_X9_weightOf : GoodIn wsX9_findLed wsX9_weightOf := goodIn_r _ [7, 8, 9, 10, 11, 12, 13, 14, 15, 16, 17, 18, 19, 20, 21, 22, 23, 24, 25, 26, 27, 28, 29, 30, 31] (by decide +kernel) (by decide +kernel)
set_option maxRecDepth 20000 in
theorem gX9_findLed_X9_weightOf : GoodIn wsX9_findLed (wsV RX9 73 RX9 yX9_weightOf wsX9_weightOf) := goodIn_app (goodIn_of _ (by decide +kernel)) ggX9_findLed_X9_weightOf
set_option maxRecDepth 20000 in
theorem ggX9_leads_X9_isOne : GoodIn wsX9_leads wsX9_isOne := goodIn_r _ [6, 7, 8, 9, 5, 10, 20, 21, 22, 23, 24, 25, 26, 27, 28, 29, 30, 31, 32, 33, 34, 35, 36, 37, 38, 39, 40, 41, 42] (by decide +kernel) (by decide +kernel)
set_option maxRecDepth 20000 in
theorem gX9_leads_X9_isOne : GoodIn wsX9_leads (wsV RX9 67 RX9 yX9_isOne wsX9_isOne) := goodIn_app (goodIn_of _ (by decide +kernel)) ggX9_leads_X9_isOne
set_option maxRecDepth 20000 in
theorem ggX9_leads_X9_findLed : GoodIn wsX9_leads wsX9_findLed := goodIn_r _ [14, 7, 1, 15, 16, 17, 5, 18, 19, 20, 21, 22, 23, 24, 25, 26, 27, 28, 29, 30, 31, 32, 33, 34, 35, 36, 37, 38, 39, 40, 41, 42] (by decide +kernel) (by decide +kernel)
set_option maxRecDepth 20000 in
theorem gX9_leads_X9_findLed : GoodIn wsX9_leads (wsV RX9 110 RX9 yX9_findLed wsX9_findLed) := goodIn_app (goodIn_of _ (by decide +kernel)) ggX9_leads_X9_findLed
set_option maxRecDepth 20000 in
theorem ggX9_lowest_X9_common : GoodIn wsX9_lowest wsX9_common := goodIn_r _ [4] (by decide +kernel) (by decide +kernel)
set_option maxRecDepth 20000 in
theorem gX9_lowest_X9_common : GoodIn wsX9_lowest (va_wsS RX9 117 yX9_common wsX9_common) := goodIn_app (goodIn_of _ (by decide +kernel)) ggX9_lowest_X9_common
set_option maxRecDepth 20000 in
theorem ggX9_allWeights_X9_weightOf : GoodIn wsX9_allWeights wsX9_weightOf := goodIn_r _ [6, 7, 8, 9, 10, 11, 12, 13, 14, 15, 16, 17, 18, 19, 20, 21, 22, 23, 24, 25, 26, 27, 28, 29, 30] (by decide +kernel) (by decide +kernel)
set_option maxRecDepth 20000 in
theorem gX9_allWeights_X9_weightOf : GoodIn wsX9_allWeights (wsV RX9 73 RX9 yX9_weightOf wsX9_weightOf) := goodIn_app (goodIn_of _ (by decide +kernel)) ggX9_allWeights_X9_weightOf
set_option maxRecDepth 20000 in
theorem ggX9_findShares_X9_in : GoodIn wsX9_findShares wsX9_in := goodIn_r _ [12] (by decide +kernel) (by decide +kernel)
set_option maxRecDepth 20000 in
theorem gX9_findShares_X9_in : GoodIn wsX9_findShares (va_wsS RX9 61 yX9_in wsX9_in) := goodIn_app (goodIn_of _ (by decide +kernel)) ggX9_findShares_X9_in
set_option maxRecDepth 20000 in
theorem ggX9_findShares_X9_findLed : GoodIn wsX9_findShares wsX9_findLed := goodIn_r _ [16, 1, 4, 17, 18, 19, 11, 20, 21, 30, 31, 32, 33, 34, 35, 36, 37, 38, 39, 40, 41, 42, 43, 44, 45, 46, 47, 48, 49, 50, 51, 52] (by decide +kernel) (by decide +kernel)
set_option maxRecDepth 20000 in
theorem gX9_findShares_X9_findLed : GoodIn wsX9_findShares (wsV RX9 110 RX9 yX9_findLed wsX9_findLed) := goodIn_app (goodIn_of _ (by decide +kernel)) ggX9_findShares_X9_findLed
set_option maxRecDepth 20000 in
theorem ggX9_findShares_X9_allWeights : GoodIn wsX9_findShares wsX9_allWeights := goodIn_r _ [25, 1, 17, 18, 19, 11, 20, 21, 30, 31, 32, 33, 34, 35, 36, 37, 38, 39, 40, 41, 42, 43, 44, 45, 46, 47, 48, 49, 50, 51, 52] (by decide +kernel) (by decide +kernel)
set_option maxRecDepth 20000 in
theorem gX9_findShares_X9_allWeights : GoodIn wsX9_findShares (wsV RX9 129 RX9 yX9_allWeights wsX9_allWeights) := goodIn_app (goodIn_of _ (by decide +kernel)) ggX9_findShares_X9_allWeights
set_option maxRecDepth 20000 in
theorem ggX9_findShares_X9_weightOf : GoodIn wsX9_findShares wsX9_weightOf := goodIn_r _ [20, 21, 30, 31, 32, 33, 34, 35, 36, 37, 38, 39, 40, 41, 42, 43, 44, 45, 46, 47, 48, 49, 50, 51, 52] (by decide +kernel) (by decide +kernel)
set_option maxRecDepth 20000 in
theorem gX9_findShares_X9_weightOf : GoodIn wsX9_findShares (wsV RX9 73 RX9 yX9_weightOf wsX9_weightOf) := goodIn_app (goodIn_of _ (by decide +kernel)) ggX9_findShares_X9_weightOf
set_option maxRecDepth 20000 in
theorem ggX9_findShares_X9_determinant : GoodIn wsX9_findShares wsX9_determinant := goodIn_r _ [29, 6, 7, 30, 31, 32, 33, 34, 35, 36, 37, 38, 39, 40, 41, 42, 43, 44, 45, 46, 47, 48, 49, 50, 51, 52] (by decide +kernel) (by decide +kernel)
set_option maxRecDepth 20000 in
theorem gX9_findShares_X9_determinant : GoodIn wsX9_findShares (wsV RX9 132 RX9 yX9_determinant wsX9_determinant) := goodIn_app (goodIn_of _ (by decide +kernel)) ggX9_findShares_X9_determinant
set_option maxRecDepth 20000 in
theorem ggX9_share_X9_isOne : GoodIn wsX9_share wsX9_isOne := goodIn_r _ [10, 11, 12, 13, 9, 14, 47, 48, 49, 50, 51, 52, 53, 54, 55, 56, 57, 58, 59, 60, 61, 62, 63, 64, 65, 66, 67, 68, 69] (by decide +kernel) (by decide +kernel)
set_option maxRecDepth 20000 in
theorem gX9_share_X9_isOne : GoodIn wsX9_share (wsV RX9 67 RX9 yX9_isOne wsX9_isOne) := goodIn_app (goodIn_of _ (by decide +kernel)) ggX9_share_X9_isOne
set_option maxRecDepth 20000 in
theorem ggX9_share_X9_in : GoodIn wsX9_share wsX9_in := goodIn_r _ [14] (by decide +kernel) (by decide +kernel)
set_option maxRecDepth 20000 in
theorem gX9_share_X9_in : GoodIn wsX9_share (va_wsS RX9 61 yX9_in wsX9_in) := goodIn_app (goodIn_of _ (by decide +kernel)) ggX9_share_X9_in
set_option maxRecDepth 20000 in
theorem ggX9_share_X9_findShares : GoodIn wsX9_share wsX9_findShares := goodIn_r _ [18, 11, 19, 20, 21, 4, 22, 23, 3, 12, 13, 9, 14, 24, 25, 26, 27, 28, 29, 30, 31, 32, 33, 34, 35, 36, 37, 38, 39, 40, 47, 48, 49, 50, 51, 52, 53, 54, 55, 56, 57, 58, 59, 60, 61, 62, 63, 64, 65, 66, 67, 68, 69] (by decide +kernel) (by decide +kernel)
set_option maxRecDepth 20000 in
theorem gX9_share_X9_findShares : GoodIn wsX9_share (wsV RX9 140 RX9 yX9_findShares wsX9_findShares) := goodIn_app (goodIn_of _ (by decide +kernel)) ggX9_share_X9_findShares
set_option maxRecDepth 20000 in
theorem ggX9_share_X9_lowest : GoodIn wsX9_share wsX9_lowest := goodIn_r _ [43, 44, 45, 9, 46] (by decide +kernel) (by decide +kernel)
set_option maxRecDepth 20000 in
theorem gX9_share_X9_lowest : GoodIn wsX9_share (va_wsS RX9 143 yX9_lowest wsX9_lowest) := goodIn_app (goodIn_of _ (by decide +kernel)) ggX9_share_X9_lowest
set_option maxRecDepth 20000 in
theorem ggX9_end_X9_in : GoodIn wsX9_end wsX9_in := goodIn_r _ [10] (by decide +kernel) (by decide +kernel)
set_option maxRecDepth 20000 in
theorem gX9_end_X9_in : GoodIn wsX9_end (va_wsS RX9 61 yX9_in wsX9_in) := goodIn_app (goodIn_of _ (by decide +kernel)) ggX9_end_X9_in
set_option maxRecDepth 20000 in
theorem ggX9_end_X9_findShares : GoodIn wsX9_end wsX9_findShares := goodIn_r _ [14, 3, 15, 16, 17, 6, 18, 19, 4, 7, 8, 9, 10, 20, 21, 22, 23, 24, 25, 26, 27, 28, 29, 30, 31, 32, 33, 34, 35, 36, 43, 44, 45, 46, 47, 48, 49, 50, 51, 52, 53, 54, 55, 56, 57, 58, 59, 60, 61, 62, 63, 64, 65] (by decide +kernel) (by decide +kernel)
set_option maxRecDepth 20000 in
theorem gX9_end_X9_findShares : GoodIn wsX9_end (wsV RX9 140 RX9 yX9_findShares wsX9_findShares) := goodIn_app (goodIn_of _ (by decide +kernel)) ggX9_end_X9_findShares
set_option maxRecDepth 20000 in
theorem ggX9_end_X9_lowest : GoodIn wsX9_end wsX9_lowest := goodIn_r _ [39, 40, 41, 9, 42] (by decide +kernel) (by decide +kernel)
set_option maxRecDepth 20000 in
theorem gX9_end_X9_lowest : GoodIn wsX9_end (va_wsS RX9 143 yX9_lowest wsX9_lowest) := goodIn_app (goodIn_of _ (by decide +kernel)) ggX9_end_X9_lowest
set_option maxRecDepth 20000 in
theorem ggX9_canRest_X9_in : GoodIn wsX9_canRest wsX9_in := goodIn_r _ [10] (by decide +kernel) (by decide +kernel)
set_option maxRecDepth 20000 in
theorem gX9_canRest_X9_in : GoodIn wsX9_canRest (va_wsS RX9 61 yX9_in wsX9_in) := goodIn_app (goodIn_of _ (by decide +kernel)) ggX9_canRest_X9_in
set_option maxRecDepth 20000 in
theorem ggX9_canRest_X9_findLed : GoodIn wsX9_canRest wsX9_findLed := goodIn_r _ [14, 2, 6, 15, 16, 17, 9, 18, 19, 20, 21, 22, 23, 24, 25, 26, 27, 28, 29, 30, 31, 32, 33, 34, 35, 36, 37, 38, 39, 40, 41, 42] (by decide +kernel) (by decide +kernel)
set_option maxRecDepth 20000 in
theorem gX9_canRest_X9_findLed : GoodIn wsX9_canRest (wsV RX9 110 RX9 yX9_findLed wsX9_findLed) := goodIn_app (goodIn_of _ (by decide +kernel)) ggX9_canRest_X9_findLed
set_option maxRecDepth 20000 in
theorem ggX9_toOthers_X9_allWeights : GoodIn wsX9_toOthers wsX9_allWeights := goodIn_r _ [5, 6, 7, 8, 9, 4, 10, 11, 12, 13, 14, 15, 16, 17, 18, 19, 20, 21, 22, 23, 24, 25, 26, 27, 28, 29, 30, 31, 32, 33, 34] (by decide +kernel) (by decide +kernel)
set_option maxRecDepth 20000 in
theorem gX9_toOthers_X9_allWeights : GoodIn wsX9_toOthers (wsV RX9 129 RX9 yX9_allWeights wsX9_allWeights) := goodIn_app (goodIn_of _ (by decide +kernel)) ggX9_toOthers_X9_allWeights
set_option maxRecDepth 20000 in
theorem ggX9_toOthers_X9_weightOf : GoodIn wsX9_toOthers wsX9_weightOf := goodIn_r _ [10, 11, 12, 13, 14, 15, 16, 17, 18, 19, 20, 21, 22, 23, 24, 25, 26, 27, 28, 29, 30, 31, 32, 33, 34] (by decide +kernel) (by decide +kernel)
set_option maxRecDepth 20000 in
theorem gX9_toOthers_X9_weightOf : GoodIn wsX9_toOthers (wsV RX9 73 RX9 yX9_weightOf wsX9_weightOf) := goodIn_app (goodIn_of _ (by decide +kernel)) ggX9_toOthers_X9_weightOf
set_option maxRecDepth 20000 in
theorem ggX9_fromStubborn_X9_weightOf : GoodIn wsX9_fromStubborn wsX9_weightOf := goodIn_r _ [8, 9, 10, 11, 12, 13, 14, 15, 16, 17, 18, 19, 20, 21, 22, 23, 24, 25, 26, 27, 28, 29, 30, 31, 32] (by decide +kernel) (by decide +kernel)
set_option maxRecDepth 20000 in
theorem gX9_fromStubborn_X9_weightOf : GoodIn wsX9_fromStubborn (wsV RX9 73 RX9 yX9_weightOf wsX9_weightOf) := goodIn_app (goodIn_of _ (by decide +kernel)) ggX9_fromStubborn_X9_weightOf
set_option maxRecDepth 20000 in
theorem ggX9_layRest_X9_toOthers : GoodIn wsX9_layRest wsX9_toOthers := goodIn_r _ [9, 10, 11, 12, 8, 13, 14, 15, 16, 17, 18, 19, 20, 21, 22, 23, 24, 25, 26, 27, 28, 29, 30, 31, 32, 33, 34, 35, 36, 37, 38, 39, 40, 41, 42] (by decide +kernel) (by decide +kernel)
set_option maxRecDepth 20000 in
theorem gX9_layRest_X9_toOthers : GoodIn wsX9_layRest (wsV RX9 152 RX9 yX9_toOthers wsX9_toOthers) := goodIn_app (goodIn_of _ (by decide +kernel)) ggX9_layRest_X9_toOthers
set_option maxRecDepth 20000 in
theorem ggX9_layRest_X9_weightOf : GoodIn wsX9_layRest wsX9_weightOf := goodIn_r _ [18, 19, 20, 21, 22, 23, 24, 25, 26, 27, 28, 29, 30, 31, 32, 33, 34, 35, 36, 37, 38, 39, 40, 41, 42] (by decide +kernel) (by decide +kernel)
set_option maxRecDepth 20000 in
theorem gX9_layRest_X9_weightOf : GoodIn wsX9_layRest (wsV RX9 73 RX9 yX9_weightOf wsX9_weightOf) := goodIn_app (goodIn_of _ (by decide +kernel)) ggX9_layRest_X9_weightOf
set_option maxRecDepth 20000 in
theorem ggX9_findRest_X9_canRest : GoodIn wsX9_findRest wsX9_canRest := goodIn_r _ [14, 2, 7, 8, 5, 15, 16, 17, 18, 13, 19, 20, 21, 22, 23, 24, 25, 26, 27, 28, 49, 50, 51, 52, 53, 54, 55, 56, 57, 58, 59, 60, 61, 62, 63, 64, 65, 66, 67, 68, 69, 70, 71] (by decide +kernel) (by decide +kernel)
set_option maxRecDepth 20000 in
theorem gX9_findRest_X9_canRest : GoodIn wsX9_findRest (wsV RX9 155 RX9 yX9_canRest wsX9_canRest) := goodIn_app (goodIn_of _ (by decide +kernel)) ggX9_findRest_X9_canRest
set_option maxRecDepth 20000 in
theorem ggX9_findRest_X9_layRest : GoodIn wsX9_findRest wsX9_layRest := goodIn_r _ [32, 2, 3, 4, 5, 33, 34, 35, 13, 36, 37, 38, 39, 40, 7, 24, 25, 26, 27, 28, 49, 50, 51, 52, 53, 54, 55, 56, 57, 58, 59, 60, 61, 62, 63, 64, 65, 66, 67, 68, 69, 70, 71] (by decide +kernel) (by decide +kernel)
set_option maxRecDepth 20000 in
theorem gX9_findRest_X9_layRest : GoodIn wsX9_findRest (wsV RX9 158 RX9 yX9_layRest wsX9_layRest) := goodIn_app (goodIn_of _ (by decide +kernel)) ggX9_findRest_X9_layRest
set_option maxRecDepth 20000 in
theorem ggX9_findRest_X9_determinant : GoodIn wsX9_findRest wsX9_determinant := goodIn_r _ [44, 3, 4, 49, 50, 51, 52, 53, 54, 55, 56, 57, 58, 59, 60, 61, 62, 63, 64, 65, 66, 67, 68, 69, 70, 71] (by decide +kernel) (by decide +kernel)
set_option maxRecDepth 20000 in
theorem gX9_findRest_X9_determinant : GoodIn wsX9_findRest (wsV RX9 132 RX9 yX9_determinant wsX9_determinant) := goodIn_app (goodIn_of _ (by decide +kernel)) ggX9_findRest_X9_determinant
set_option maxRecDepth 20000 in
theorem ggX9_findRest_X9_fromStubborn : GoodIn wsX9_findRest wsX9_fromStubborn := goodIn_r _ [48, 7, 8, 9, 24, 25, 26, 13, 27, 28, 49, 50, 51, 52, 53, 54, 55, 56, 57, 58, 59, 60, 61, 62, 63, 64, 65, 66, 67, 68, 69, 70, 71] (by decide +kernel) (by decide +kernel)
set_option maxRecDepth 20000 in
theorem gX9_findRest_X9_fromStubborn : GoodIn wsX9_findRest (wsV RX9 164 RX9 yX9_fromStubborn wsX9_fromStubborn) := goodIn_app (goodIn_of _ (by decide +kernel)) ggX9_findRest_X9_fromStubborn
set_option maxRecDepth 20000 in
theorem ggX9_rest_X9_isOne : GoodIn wsX9_rest wsX9_isOne := goodIn_r _ [10, 11, 12, 13, 9, 14, 66, 67, 68, 69, 70, 71, 72, 73, 74, 75, 76, 77, 78, 79, 80, 81, 82, 83, 84, 85, 86, 87, 88] (by decide +kernel) (by decide +kernel)
set_option maxRecDepth 20000 in
theorem gX9_rest_X9_isOne : GoodIn wsX9_rest (wsV RX9 67 RX9 yX9_isOne wsX9_isOne) := goodIn_app (goodIn_of _ (by decide +kernel)) ggX9_rest_X9_isOne
set_option maxRecDepth 20000 in
theorem ggX9_rest_X9_in : GoodIn wsX9_rest wsX9_in := goodIn_r _ [14] (by decide +kernel) (by decide +kernel)
set_option maxRecDepth 20000 in
theorem gX9_rest_X9_in : GoodIn wsX9_rest (va_wsS RX9 61 yX9_in wsX9_in) := goodIn_app (goodIn_of _ (by decide +kernel)) ggX9_rest_X9_in
set_option maxRecDepth 20000 in
theorem ggX9_rest_X9_findRest : GoodIn wsX9_rest wsX9_findRest := goodIn_r _ [18, 4, 19, 20, 21, 22, 3, 11, 23, 24, 25, 26, 27, 9, 28, 29, 30, 12, 13, 14, 31, 32, 33, 34, 35, 36, 37, 38, 39, 40, 41, 42, 43, 44, 45, 46, 47, 48, 49, 50, 51, 52, 53, 54, 55, 56, 57, 58, 59, 66, 67, 68, 69, 70, 71, 72, 73, 74, 75, 76, 77, 78, 79, 80, 81, 82, 83, 84, 85, 86, 87, 88] (by decide +kernel) (by decide +kernel)
set_option maxRecDepth 20000 in
theorem gX9_rest_X9_findRest : GoodIn wsX9_rest (wsV RX9 168 RX9 yX9_findRest wsX9_findRest) := goodIn_app (goodIn_of _ (by decide +kernel)) ggX9_rest_X9_findRest
set_option maxRecDepth 20000 in
theorem ggX9_rest_X9_lowest : GoodIn wsX9_rest wsX9_lowest := goodIn_r _ [62, 63, 64, 9, 65] (by decide +kernel) (by decide +kernel)
set_option maxRecDepth 20000 in
theorem gX9_rest_X9_lowest : GoodIn wsX9_rest (va_wsS RX9 143 yX9_lowest wsX9_lowest) := goodIn_app (goodIn_of _ (by decide +kernel)) ggX9_rest_X9_lowest
set_option maxRecDepth 20000 in
theorem ggX9_pull_X9_in : GoodIn wsX9_pull wsX9_in := goodIn_r _ [11] (by decide +kernel) (by decide +kernel)
set_option maxRecDepth 20000 in
theorem gX9_pull_X9_in : GoodIn wsX9_pull (va_wsS RX9 61 yX9_in wsX9_in) := goodIn_app (goodIn_of _ (by decide +kernel)) ggX9_pull_X9_in
set_option maxRecDepth 20000 in
theorem ggX9_pull_X9_canRest : GoodIn wsX9_pull wsX9_canRest := goodIn_r _ [15, 2, 3, 4, 16, 17, 18, 8, 9, 10, 11, 19, 20, 21, 22, 23, 24, 25, 26, 27, 57, 58, 59, 60, 61, 62, 63, 64, 65, 66, 67, 68, 69, 70, 71, 72, 73, 74, 75, 76, 77, 78, 79] (by decide +kernel) (by decide +kernel)
set_option maxRecDepth 20000 in
theorem gX9_pull_X9_canRest : GoodIn wsX9_pull (wsV RX9 155 RX9 yX9_canRest wsX9_canRest) := goodIn_app (goodIn_of _ (by decide +kernel)) ggX9_pull_X9_canRest
set_option maxRecDepth 20000 in
theorem ggX9_pull_X9_findRest : GoodIn wsX9_pull wsX9_findRest := goodIn_r _ [31, 7, 2, 32, 33, 16, 6, 3, 4, 5, 12, 13, 14, 10, 15, 17, 18, 8, 9, 11, 19, 20, 21, 22, 23, 24, 25, 26, 27, 34, 35, 36, 37, 38, 39, 40, 41, 42, 43, 44, 45, 46, 47, 48, 49, 50, 51, 52, 53, 57, 58, 59, 60, 61, 62, 63, 64, 65, 66, 67, 68, 69, 70, 71, 72, 73, 74, 75, 76, 77, 78, 79] (by decide +kernel) (by decide +kernel)
set_option maxRecDepth 20000 in
theorem gX9_pull_X9_findRest : GoodIn wsX9_pull (wsV RX9 168 RX9 yX9_findRest wsX9_findRest) := goodIn_app (goodIn_of _ (by decide +kernel)) ggX9_pull_X9_findRest
set_option maxRecDepth 20000 in
theorem ggX9_pull_X9_isGreater : GoodIn wsX9_pull wsX9_isGreater := goodIn_r _ [56] (by decide +kernel) (by decide +kernel)
set_option maxRecDepth 20000 in
theorem gX9_pull_X9_isGreater : GoodIn wsX9_pull (va_wsS RX9 171 yX9_isGreater wsX9_isGreater) := goodIn_app (goodIn_of _ (by decide +kernel)) ggX9_pull_X9_isGreater
set_option maxRecDepth 20000 in
theorem ggX9_talk_X9_isOne : GoodIn wsX9_talk wsX9_isOne := goodIn_r _ [6, 7, 8, 9, 5, 10, 18, 19, 20, 21, 22, 23, 24, 25, 26, 27, 28, 29, 30, 31, 32, 33, 34, 35, 36, 37, 38, 39, 40] (by decide +kernel) (by decide +kernel)
set_option maxRecDepth 20000 in
theorem gX9_talk_X9_isOne : GoodIn wsX9_talk (wsV RX9 67 RX9 yX9_isOne wsX9_isOne) := goodIn_app (goodIn_of _ (by decide +kernel)) ggX9_talk_X9_isOne
set_option maxRecDepth 20000 in
theorem ggX9_talk_X9_size : GoodIn wsX9_talk wsX9_size := goodIn_r _ [13] (by decide +kernel) (by decide +kernel)
set_option maxRecDepth 20000 in
theorem gX9_talk_X9_size : GoodIn wsX9_talk (va_wsS RX9 77 yX9_size wsX9_size) := goodIn_app (goodIn_of _ (by decide +kernel)) ggX9_talk_X9_size
set_option maxRecDepth 20000 in
theorem ggX9_talk_X9_talks : GoodIn wsX9_talk wsX9_talks := goodIn_r _ [17, 1, 18, 19, 20, 21, 22, 23, 24, 25, 26, 27, 28, 29, 30, 31, 32, 33, 34, 35, 36, 37, 38, 39, 40] (by decide +kernel) (by decide +kernel)
set_option maxRecDepth 20000 in
theorem gX9_talk_X9_talks : GoodIn wsX9_talk (wsV RX9 175 RX9 yX9_talks wsX9_talks) := goodIn_app (goodIn_of _ (by decide +kernel)) ggX9_talk_X9_talks
set_option maxRecDepth 20000 in
theorem ggX9_search_X9_enter : GoodIn wsX9_search wsX9_enter := goodIn_r _ [9, 3, 1, 2, 4, 22, 23, 24, 25, 26, 27, 28, 29, 30, 31, 32, 33, 34, 35, 36, 37, 38, 39, 40, 41, 42, 43, 44] (by decide +kernel) (by decide +kernel)
set_option maxRecDepth 20000 in
theorem gX9_search_X9_enter : GoodIn wsX9_search (wsV RX9 182 RX9 yX9_enter wsX9_enter) := goodIn_app (goodIn_of _ (by decide +kernel)) ggX9_search_X9_enter
set_option maxRecDepth 20000 in
theorem ggX9_search_X9_spreadOf : GoodIn wsX9_search wsX9_spreadOf := goodIn_r _ [13, 2, 22, 23, 24, 25, 26, 27, 28, 29, 30, 31, 32, 33, 34, 35, 36, 37, 38, 39, 40, 41, 42, 43, 44] (by decide +kernel) (by decide +kernel)
set_option maxRecDepth 20000 in
theorem gX9_search_X9_spreadOf : GoodIn wsX9_search (wsV RX9 98 RX9 yX9_spreadOf wsX9_spreadOf) := goodIn_app (goodIn_of _ (by decide +kernel)) ggX9_search_X9_spreadOf
set_option maxRecDepth 20000 in
theorem ggX9_search_X9_talks : GoodIn wsX9_search wsX9_talks := goodIn_r _ [17, 2, 22, 23, 24, 25, 26, 27, 28, 29, 30, 31, 32, 33, 34, 35, 36, 37, 38, 39, 40, 41, 42, 43, 44] (by decide +kernel) (by decide +kernel)
set_option maxRecDepth 20000 in
theorem gX9_search_X9_talks : GoodIn wsX9_search (wsV RX9 175 RX9 yX9_talks wsX9_talks) := goodIn_app (goodIn_of _ (by decide +kernel)) ggX9_search_X9_talks
set_option maxRecDepth 20000 in
theorem ggX9_search_X9_isNew : GoodIn wsX9_search wsX9_isNew := goodIn_r _ [21, 1, 3, 2, 22, 23, 24, 25, 26, 27, 28, 29, 30, 31, 32, 33, 34, 35, 36, 37, 38, 39, 40, 41, 42, 43, 44] (by decide +kernel) (by decide +kernel)
set_option maxRecDepth 20000 in
theorem gX9_search_X9_isNew : GoodIn wsX9_search (wsV RX9 185 RX9 yX9_isNew wsX9_isNew) := goodIn_app (goodIn_of _ (by decide +kernel)) ggX9_search_X9_isNew
set_option maxRecDepth 20000 in
theorem ggX9_fewest_X9_in : GoodIn wsX9_fewest wsX9_in := goodIn_r _ [10] (by decide +kernel) (by decide +kernel)
set_option maxRecDepth 20000 in
theorem gX9_fewest_X9_in : GoodIn wsX9_fewest (va_wsS RX9 61 yX9_in wsX9_in) := goodIn_app (goodIn_of _ (by decide +kernel)) ggX9_fewest_X9_in
set_option maxRecDepth 20000 in
theorem ggX9_fewest_X9_search : GoodIn wsX9_fewest wsX9_search := goodIn_r _ [14, 15, 6, 16, 17, 18, 19, 20, 9, 21, 22, 23, 24, 25, 26, 27, 28, 29, 30, 31, 32, 33, 34, 35, 36, 37, 38, 39, 40, 41, 42, 43, 44, 45, 46, 47, 48, 49, 50, 51, 52, 53, 54, 55, 56] (by decide +kernel) (by decide +kernel)
set_option maxRecDepth 20000 in
theorem gX9_fewest_X9_search : GoodIn wsX9_fewest (wsV RX9 190 RX9 yX9_search wsX9_search) := goodIn_app (goodIn_of _ (by decide +kernel)) ggX9_fewest_X9_search
